/-! X5_setOfList X5_step X5_told X5_trial X5_want X5_wanted X5_weight -/
def fX5_setOfList (y : Ly) (w : Wd) (o k1 q1 : Nat) (a2 : Int32) (a3 : Int32) (a4 : Int32) : Option (Int32 × Wd) :=
  (fX5_isList w a2).bind fun v1 =>
  if v1 = 0 then
    some ((-1), w)
  else
    if a3 < 0 then
      some ((-2), w)
    else
      if a3 ≤ a4 then
        if (bz (w.1 (o + 1 + 7) 0)) = 0 then
          (fX5_at w k1 q1 a2).bind fun v6 =>
          if v6 = a3 then
            some ((-5), w)
          else
            (fX0_record y w (o + 17) (o + 1)).bind fun w8 =>
            (fX5_put w8 k1 q1 a2 a3).bind fun w9 =>
            some (v6, w9)
        else
          some ((-4), w)
      else
        some ((-2), w)
set_option maxRecDepth 4000 in
theorem eX5_setOfList {g : Gx} {E : Ex} (C : CC g E cX5_setOfList 6 RX5 5 133) (hR : RT g (some .int)) {o k1 q1 : Nat} (hO : shB E.2.2.2.2.2.1 o) (hk1 : E.2.2.2.2.2.1[k1]? = some (0, q1)) (w : Wd) (a2 : Int32) (a3 : Int32) (a4 : Int32) : YO g E 6 (QI g E) (fX5_setOfList E.2.2.2.2.2.1 w o k1 q1 a2 a3 a4) w 0 [(0, .ref (E.2.2.2.2.1 + o)), (1, .ref (E.2.2.2.2.1 + k1)), (2, .int a2), (3, .int a3), (4, .int a4)] [] := by
  unfold fX5_setOfList
  refine y_iload_n (n := 1) C dX5_setOfList_0 2 rfl rfl ?_
  refine y_cp (n := 4) C (fun r hr H locs la hP hS hl => y_runS (st := []) C ky_X5_isList wd_277 ⟨Nat.le_of_ble_eq_true rfl, Nat.le_of_ble_eq_true rfl⟩ (mX5_isList w a2 g.2.1 r hr) rfl (Nat.le_of_ble_eq_true rfl) rfl dX5_setOfList_1 hP hS hl) rfl (fun v1 hv1 => ?_)
  refine y_if_ne (tgt := 9) (n := 7) C dX5_setOfList_4 (by decide) rfl (fun h2 => ?_) (fun h2 => ?_)
  · refine y_iload_n (n := 10) C dX5_setOfList_9 3 rfl rfl ?_
    refine y_if_lt (tgt := 19) (n := 13) C dX5_setOfList_10 (by decide) rfl (fun h3 => ?_) (fun h3 => ?_)
    · refine y_bipush (n := 21) C ((-2) : Int32) dX5_setOfList_19 (by decide) rfl ?_
      exact y_ri C hR dX5_setOfList_21
    · refine y_iload_n (n := 14) C dX5_setOfList_13 3 rfl rfl ?_
      refine y_iload (n := 16) C dX5_setOfList_14 4 rfl rfl ?_
      refine y_icmp_le (tgt := 22) (n := 19) C dX5_setOfList_16 (by decide) rfl (fun h4 => ?_) (fun h4 => ?_)
      · refine y_aload_n (n := 23) C dX5_setOfList_22 0 rfl rfl ?_
        refine y_get (ci := 5) (f := 0) (n := 26) C in_X5 hO.1 rfl (by decide) wd_180 rfl rfl dX5_setOfList_23 rfl ?_
        refine y_getN (ci := 3) (f := 1) (n := 29) C in_X3 hO.2.1.1 rfl (by decide) wd_126 rfl rfl dX5_setOfList_26 rfl ?_
        refine y_getN (ci := 2) (f := 0) (n := 32) C in_X2 hO.2.1.2.2.1 rfl (by decide) wd_68 rfl rfl dX5_setOfList_29 rfl ?_
        refine y_if_eq (tgt := 38) (n := 35) C dX5_setOfList_32 (by decide) rfl (fun h5 => ?_) (fun h5 => ?_)
        · refine y_aload_n (n := 39) C dX5_setOfList_38 1 rfl rfl ?_
          refine y_iload_n (n := 40) C dX5_setOfList_39 2 rfl rfl ?_
          refine y_cp (n := 43) C (fun r hr H locs la hP hS hl => y_runS (st := []) C ky_X5_at wd_280 ⟨Nat.le_of_ble_eq_true rfl, Nat.le_of_ble_eq_true rfl⟩ (mX5_at hk1 w a2 g.2.1 r hr) rfl (Nat.le_of_ble_eq_true rfl) rfl dX5_setOfList_40 hP hS hl) rfl (fun v6 hv6 => ?_)
          refine y_istore (n := 45) (ls' := [(5, .int v6), (0, .ref (E.2.2.2.2.1 + o)), (1, .ref (E.2.2.2.2.1 + k1)), (2, .int a2), (3, .int a3), (4, .int a4)]) C dX5_setOfList_43 (by decide) rfl rfl ?_
          refine y_iload (n := 47) C dX5_setOfList_45 0 rfl rfl ?_
          refine y_iload_n (n := 48) C dX5_setOfList_47 4 rfl rfl ?_
          refine y_icmp_ne (tgt := 54) (n := 51) C dX5_setOfList_48 (by decide) rfl (fun h7 => ?_) (fun h7 => ?_)
          · refine y_aload_n (n := 55) C dX5_setOfList_54 1 rfl rfl ?_
            refine y_get (ci := 5) (f := 1) (n := 58) C in_X5 hO.1 rfl (by decide) wd_181 rfl rfl dX5_setOfList_55 rfl ?_
            refine y_aload_n (n := 59) C dX5_setOfList_58 1 rfl rfl ?_
            refine y_get (ci := 5) (f := 0) (n := 62) C in_X5 hO.1 rfl (by decide) wd_180 rfl rfl dX5_setOfList_59 rfl ?_
            refine y_cv (n := 65) C (fun r hr H locs la hP hS hl => y_runVN (ci := 0) (st := []) C ky_X0_record wd_214 ⟨Nat.le_of_ble_eq_true rfl, Nat.le_of_ble_eq_true rfl⟩ hO.2.2.1.1 rfl (mX0_record hO.2.2.1 hO.2.1 w g.2.1 r hr) rfl (Nat.le_of_ble_eq_true rfl) rfl dX5_setOfList_62 hP hS hl) rfl (fun w8 hw8 => ?_)
            refine y_aload_n (n := 66) C dX5_setOfList_65 2 rfl rfl ?_
            refine y_iload_n (n := 67) C dX5_setOfList_66 3 rfl rfl ?_
            refine y_iload_n (n := 68) C dX5_setOfList_67 4 rfl rfl ?_
            refine y_cv (n := 71) C (fun r hr H locs la hP hS hl => y_runS (st := []) C ky_X5_put wd_281 ⟨Nat.le_of_ble_eq_true rfl, Nat.le_of_ble_eq_true rfl⟩ (mX5_put hk1 w8 a2 a3 g.2.1 r hr) rfl (Nat.le_of_ble_eq_true rfl) rfl dX5_setOfList_68 hP hS hl) rfl (fun w9 hw9 => ?_)
            refine y_iload (n := 73) C dX5_setOfList_71 0 rfl rfl ?_
            exact y_ri C hR dX5_setOfList_73
          · refine y_bipush (n := 53) C ((-5) : Int32) dX5_setOfList_51 (by decide) rfl ?_
            exact y_ri C hR dX5_setOfList_53
        · refine y_bipush (n := 37) C ((-4) : Int32) dX5_setOfList_35 (by decide) rfl ?_
          exact y_ri C hR dX5_setOfList_37
      · refine y_bipush (n := 21) C ((-2) : Int32) dX5_setOfList_19 (by decide) rfl ?_
        exact y_ri C hR dX5_setOfList_21
  · refine y_iconst (n := 8) C ((-1) : Int32) dX5_setOfList_7 (by decide) rfl ?_
    exact y_ri C hR dX5_setOfList_8
theorem mX5_setOfList {E : Ex} {o k1 q1 : Nat} (hO : shB E.2.2.2.2.2.1 o) (hk1 : E.2.2.2.2.2.1[k1]? = some (0, q1)) (w : Wd) (a2 : Int32) (a3 : Int32) (a4 : Int32) (l : Launch) : MI l yX5_setOfList cX5_setOfList 6 (some .int) { frames := 5, cells := 0, slots := 0, locals := 133 } E [.ref (E.2.2.2.2.1 + o), .ref (E.2.2.2.2.1 + k1), .int a2, .int a3, .int a4] w (fX5_setOfList E.2.2.2.2.2.1 w o k1 q1 a2 a3 a4) :=
  y_met (Qc := yQi E) (by decide +kernel) (Nat.le_of_ble_eq_true rfl) (fun g C hR => eX5_setOfList C hR hO hk1 w a2 a3 a4) l
def fX5_step (y : Ly) (w : Wd) (o : Nat) (a1 : Int32) : Option (Int32 × Wd) :=
  if a1 < 1 then
    some ((-2), w)
  else
    if a1 ≤ 240 then
      if (bz (w.1 (o + 1 + 7) 0)) = 0 then
        some ((-4), w)
      else
        (fX2_isOver w (o + 1 + 7) (o + 1 + 1)).bind fun v4 =>
        if v4 = 0 then
          (fX0_record y w (o + 17) (o + 1)).bind fun w6 =>
          (fX2_caughtSize w6 (o + 1 + 7)).bind fun v7 =>
          ob2 (fX2_goOn w6 (o + 1 + 7) (o + 1 + 1) a1) fun v8 w9 =>
          (fX2_caughtSize w9 (o + 1 + 7)).bind fun v10 =>
          (pI w9 (o + 1) 3 ((w9.1 (o + 1) 3) + (v10 - v7))).bind fun w11 =>
          some (v8, w11)
        else
          some ((-5), w)
    else
      some ((-2), w)
set_option maxRecDepth 4000 in
theorem eX5_step {g : Gx} {E : Ex} (C : CC g E cX5_step 4 RX5 6 140) (hR : RT g (some .int)) {o : Nat} (hO : shB E.2.2.2.2.2.1 o) (w : Wd) (a1 : Int32) : YO g E 4 (QI g E) (fX5_step E.2.2.2.2.2.1 w o a1) w 0 [(0, .ref (E.2.2.2.2.1 + o)), (1, .int a1)] [] := by
  unfold fX5_step
  refine y_iload_n (n := 1) C dX5_step_0 1 rfl rfl ?_
  refine y_iconst (n := 2) C (1 : Int32) dX5_step_1 (by decide) rfl ?_
  refine y_icmp_lt (tgt := 12) (n := 5) C dX5_step_2 (by decide) rfl (fun h1 => ?_) (fun h1 => ?_)
  · refine y_bipush (n := 14) C ((-2) : Int32) dX5_step_12 (by decide) rfl ?_
    exact y_ri C hR dX5_step_14
  · refine y_iload_n (n := 6) C dX5_step_5 1 rfl rfl ?_
    refine y_sipush (n := 9) C (240 : Int32) dX5_step_6 (by decide) rfl ?_
    refine y_icmp_le (tgt := 15) (n := 12) C dX5_step_9 (by decide) rfl (fun h2 => ?_) (fun h2 => ?_)
    · refine y_aload_n (n := 16) C dX5_step_15 0 rfl rfl ?_
      refine y_get (ci := 5) (f := 0) (n := 19) C in_X5 hO.1 rfl (by decide) wd_180 rfl rfl dX5_step_16 rfl ?_
      refine y_getN (ci := 3) (f := 1) (n := 22) C in_X3 hO.2.1.1 rfl (by decide) wd_126 rfl rfl dX5_step_19 rfl ?_
      refine y_getN (ci := 2) (f := 0) (n := 25) C in_X2 hO.2.1.2.2.1 rfl (by decide) wd_68 rfl rfl dX5_step_22 rfl ?_
      refine y_if_ne (tgt := 31) (n := 28) C dX5_step_25 (by decide) rfl (fun h3 => ?_) (fun h3 => ?_)
      · refine y_aload_n (n := 32) C dX5_step_31 0 rfl rfl ?_
        refine y_get (ci := 5) (f := 0) (n := 35) C in_X5 hO.1 rfl (by decide) wd_180 rfl rfl dX5_step_32 rfl ?_
        refine y_getN (ci := 3) (f := 1) (n := 38) C in_X3 hO.2.1.1 rfl (by decide) wd_126 rfl rfl dX5_step_35 rfl ?_
        refine y_aload_n (n := 39) C dX5_step_38 0 rfl rfl ?_
        refine y_get (ci := 5) (f := 0) (n := 42) C in_X5 hO.1 rfl (by decide) wd_180 rfl rfl dX5_step_39 rfl ?_
        refine y_getN (ci := 3) (f := 0) (n := 45) C in_X3 hO.2.1.1 rfl (by decide) wd_124 rfl rfl dX5_step_42 rfl ?_
        refine y_cp (n := 48) C (fun r hr H locs la hP hS hl => y_runVN (ci := 2) (st := []) C ky_X2_isOver wd_331 ⟨Nat.le_of_ble_eq_true rfl, Nat.le_of_ble_eq_true rfl⟩ hO.2.1.2.2.1 rfl (mX2_isOver hO.2.1.2.2 hO.2.1.2.1 w g.2.1 r hr) rfl (Nat.le_of_ble_eq_true rfl) rfl dX5_step_45 hP hS hl) rfl (fun v4 hv4 => ?_)
        refine y_if_eq (tgt := 54) (n := 51) C dX5_step_48 (by decide) rfl (fun h5 => ?_) (fun h5 => ?_)
        · refine y_aload_n (n := 55) C dX5_step_54 0 rfl rfl ?_
          refine y_get (ci := 5) (f := 1) (n := 58) C in_X5 hO.1 rfl (by decide) wd_181 rfl rfl dX5_step_55 rfl ?_
          refine y_aload_n (n := 59) C dX5_step_58 0 rfl rfl ?_
          refine y_get (ci := 5) (f := 0) (n := 62) C in_X5 hO.1 rfl (by decide) wd_180 rfl rfl dX5_step_59 rfl ?_
          refine y_cv (n := 65) C (fun r hr H locs la hP hS hl => y_runVN (ci := 0) (st := []) C ky_X0_record wd_214 ⟨Nat.le_of_ble_eq_true rfl, Nat.le_of_ble_eq_true rfl⟩ hO.2.2.1.1 rfl (mX0_record hO.2.2.1 hO.2.1 w g.2.1 r hr) rfl (Nat.le_of_ble_eq_true rfl) rfl dX5_step_62 hP hS hl) rfl (fun w6 hw6 => ?_)
          refine y_aload_n (n := 66) C dX5_step_65 0 rfl rfl ?_
          refine y_get (ci := 5) (f := 0) (n := 69) C in_X5 hO.1 rfl (by decide) wd_180 rfl rfl dX5_step_66 rfl ?_
          refine y_getN (ci := 3) (f := 1) (n := 72) C in_X3 hO.2.1.1 rfl (by decide) wd_126 rfl rfl dX5_step_69 rfl ?_
          refine y_cp (n := 75) C (fun r hr H locs la hP hS hl => y_runVN (ci := 2) (st := []) C ky_X2_caughtSize wd_541 ⟨Nat.le_of_ble_eq_true rfl, Nat.le_of_ble_eq_true rfl⟩ hO.2.1.2.2.1 rfl (mX2_caughtSize hO.2.1.2.2 w6 g.2.1 r hr) rfl (Nat.le_of_ble_eq_true rfl) rfl dX5_step_72 hP hS hl) rfl (fun v7 hv7 => ?_)
          refine y_istore_n (n := 76) (ls' := [(2, .int v7), (0, .ref (E.2.2.2.2.1 + o)), (1, .int a1)]) C dX5_step_75 (by decide) rfl rfl ?_
          refine y_aload_n (n := 77) C dX5_step_76 1 rfl rfl ?_
          refine y_get (ci := 5) (f := 0) (n := 80) C in_X5 hO.1 rfl (by decide) wd_180 rfl rfl dX5_step_77 rfl ?_
          refine y_getN (ci := 3) (f := 1) (n := 83) C in_X3 hO.2.1.1 rfl (by decide) wd_126 rfl rfl dX5_step_80 rfl ?_
          refine y_aload_n (n := 84) C dX5_step_83 1 rfl rfl ?_
          refine y_get (ci := 5) (f := 0) (n := 87) C in_X5 hO.1 rfl (by decide) wd_180 rfl rfl dX5_step_84 rfl ?_
          refine y_getN (ci := 3) (f := 0) (n := 90) C in_X3 hO.2.1.1 rfl (by decide) wd_124 rfl rfl dX5_step_87 rfl ?_
          refine y_iload_n (n := 91) C dX5_step_90 2 rfl rfl ?_
          refine y_ci2 (n := 94) C (fun r hr H locs la hP hS hl => y_runVN (ci := 2) (st := []) C ky_X2_goOn wd_383 ⟨Nat.le_of_ble_eq_true rfl, Nat.le_of_ble_eq_true rfl⟩ hO.2.1.2.2.1 rfl (mX2_goOn hO.2.1.2.2 hO.2.1.2.1 w6 a1 g.2.1 r hr) rfl (Nat.le_of_ble_eq_true rfl) rfl dX5_step_91 hP hS hl) rfl (fun v8 w9 hv8 => ?_)
          refine y_istore_n (n := 95) (ls' := [(3, .int v8), (2, .int v7), (0, .ref (E.2.2.2.2.1 + o)), (1, .int a1)]) C dX5_step_94 (by decide) rfl rfl ?_
          refine y_aload_n (n := 96) C dX5_step_95 2 rfl rfl ?_
          refine y_get (ci := 5) (f := 0) (n := 99) C in_X5 hO.1 rfl (by decide) wd_180 rfl rfl dX5_step_96 rfl ?_
          refine y_dup (n := 100) C dX5_step_99 rfl rfl ?_
          refine y_getN (ci := 3) (f := 3) (n := 103) C in_X3 hO.2.1.1 rfl (by decide) wd_130 rfl rfl dX5_step_100 rfl ?_
          refine y_aload_n (n := 104) C dX5_step_103 2 rfl rfl ?_
          refine y_get (ci := 5) (f := 0) (n := 107) C in_X5 hO.1 rfl (by decide) wd_180 rfl rfl dX5_step_104 rfl ?_
          refine y_getN (ci := 3) (f := 1) (n := 110) C in_X3 hO.2.1.1 rfl (by decide) wd_126 rfl rfl dX5_step_107 rfl ?_
          refine y_cp (n := 113) C (fun r hr H locs la hP hS hl => y_runVN (ci := 2) (st := [.int (w9.1 (o + 1) 3), .ref (E.2.2.2.2.1 + (o + 1))]) C ky_X2_caughtSize wd_541 ⟨Nat.le_of_ble_eq_true rfl, Nat.le_of_ble_eq_true rfl⟩ hO.2.1.2.2.1 rfl (mX2_caughtSize hO.2.1.2.2 w9 g.2.1 r hr) rfl (Nat.le_of_ble_eq_true rfl) rfl dX5_step_110 hP hS hl) rfl (fun v10 hv10 => ?_)
          refine y_iload_n (n := 114) C dX5_step_113 1 rfl rfl ?_
          refine y_isub (n := 115) C dX5_step_114 rfl ?_
          refine y_iadd (n := 116) C dX5_step_115 rfl ?_
          refine y_putIN (ci := 3) (f := 3) (n := 119) C in_X3 tyX3 tyX3_ok nmX3 hO.2.1.1 rfl (by decide) wd_130 rfl rfl (by decide +kernel) (Nat.le_of_ble_eq_true rfl) st_X3_3 dX5_step_116 rfl (fun w11 hw11 => ?_)
          refine y_iload_n (n := 120) C dX5_step_119 0 rfl rfl ?_
          exact y_ri C hR dX5_step_120
        · refine y_bipush (n := 53) C ((-5) : Int32) dX5_step_51 (by decide) rfl ?_
          exact y_ri C hR dX5_step_53
      · refine y_bipush (n := 30) C ((-4) : Int32) dX5_step_28 (by decide) rfl ?_
        exact y_ri C hR dX5_step_30
    · refine y_bipush (n := 14) C ((-2) : Int32) dX5_step_12 (by decide) rfl ?_
      exact y_ri C hR dX5_step_14
theorem mX5_step {E : Ex} {o : Nat} (hO : shB E.2.2.2.2.2.1 o) (w : Wd) (a1 : Int32) (l : Launch) : MI l yX5_step cX5_step 4 (some .int) { frames := 6, cells := 0, slots := 0, locals := 140 } E [.ref (E.2.2.2.2.1 + o), .int a1] w (fX5_step E.2.2.2.2.2.1 w o a1) :=
  y_met (Qc := yQi E) (by decide +kernel) (Nat.le_of_ble_eq_true rfl) (fun g C hR => eX5_step C hR hO w a1) l
def fX5_told (w : Wd) (o : Nat) (a1 : Int32) : Option (Int32) :=
  if 0 ≤ a1 then
    if (bz (w.1 (o + 1 + 7) 0)) = 0 then
      some (-4)
    else
      (fX2_toldSize w (o + 1 + 7) (o + 1 + 1)).bind fun v3 =>
      if v3 ≤ a1 then
        some (-5)
      else
        (fX5_at w (o + 1 + 7 + 8) 60 a1).bind fun v5 =>
        some v5
  else
    some (-2)
set_option maxRecDepth 4000 in
theorem eX5_told {g : Gx} {E : Ex} (C : CC g E cX5_told 2 RX5 2 42) (hR : RT g (some .int)) {o : Nat} (hO : shB E.2.2.2.2.2.1 o) (w : Wd) (a1 : Int32) : YO g E 2 (QP g E w) (fX5_told w o a1) w 0 [(0, .ref (E.2.2.2.2.1 + o)), (1, .int a1)] [] := by
  unfold fX5_told
  refine y_iload_n (n := 1) C dX5_told_0 1 rfl rfl ?_
  refine y_if_ge (tgt := 7) (n := 4) C dX5_told_1 (by decide) rfl (fun h1 => ?_) (fun h1 => ?_)
  · refine y_aload_n (n := 8) C dX5_told_7 0 rfl rfl ?_
    refine y_get (ci := 5) (f := 0) (n := 11) C in_X5 hO.1 rfl (by decide) wd_180 rfl rfl dX5_told_8 rfl ?_
    refine y_getN (ci := 3) (f := 1) (n := 14) C in_X3 hO.2.1.1 rfl (by decide) wd_126 rfl rfl dX5_told_11 rfl ?_
    refine y_getN (ci := 2) (f := 0) (n := 17) C in_X2 hO.2.1.2.2.1 rfl (by decide) wd_68 rfl rfl dX5_told_14 rfl ?_
    refine y_if_ne (tgt := 23) (n := 20) C dX5_told_17 (by decide) rfl (fun h2 => ?_) (fun h2 => ?_)
    · refine y_iload_n (n := 24) C dX5_told_23 1 rfl rfl ?_
      refine y_aload_n (n := 25) C dX5_told_24 0 rfl rfl ?_
      refine y_get (ci := 5) (f := 0) (n := 28) C in_X5 hO.1 rfl (by decide) wd_180 rfl rfl dX5_told_25 rfl ?_
      refine y_getN (ci := 3) (f := 1) (n := 31) C in_X3 hO.2.1.1 rfl (by decide) wd_126 rfl rfl dX5_told_28 rfl ?_
      refine y_aload_n (n := 32) C dX5_told_31 0 rfl rfl ?_
      refine y_get (ci := 5) (f := 0) (n := 35) C in_X5 hO.1 rfl (by decide) wd_180 rfl rfl dX5_told_32 rfl ?_
      refine y_getN (ci := 3) (f := 0) (n := 38) C in_X3 hO.2.1.1 rfl (by decide) wd_124 rfl rfl dX5_told_35 rfl ?_
      refine y_cp (n := 41) C (fun r hr H locs la hP hS hl => y_runVN (ci := 2) (st := [.int a1]) C ky_X2_toldSize wd_551 ⟨Nat.le_of_ble_eq_true rfl, Nat.le_of_ble_eq_true rfl⟩ hO.2.1.2.2.1 rfl (mX2_toldSize hO.2.1.2.2 hO.2.1.2.1 w g.2.1 r hr) rfl (Nat.le_of_ble_eq_true rfl) rfl dX5_told_38 hP hS hl) rfl (fun v3 hv3 => ?_)
      refine y_icmp_ge (tgt := 61) (n := 44) C dX5_told_41 (by decide) rfl (fun h4 => ?_) (fun h4 => ?_)
      · refine y_bipush (n := 63) C ((-5) : Int32) dX5_told_61 (by decide) rfl ?_
        exact y_rp C hR dX5_told_63
      · refine y_aload_n (n := 45) C dX5_told_44 0 rfl rfl ?_
        refine y_get (ci := 5) (f := 0) (n := 48) C in_X5 hO.1 rfl (by decide) wd_180 rfl rfl dX5_told_45 rfl ?_
        refine y_getN (ci := 3) (f := 1) (n := 51) C in_X3 hO.2.1.1 rfl (by decide) wd_126 rfl rfl dX5_told_48 rfl ?_
        refine y_getN (ci := 2) (f := 14) (n := 54) C in_X2 hO.2.1.2.2.1 rfl (by decide) wd_87 rfl rfl dX5_told_51 rfl ?_
        refine y_iload_n (n := 55) C dX5_told_54 1 rfl rfl ?_
        refine y_cp (n := 58) C (fun r hr H locs la hP hS hl => y_runS (st := []) C ky_X5_at wd_280 ⟨Nat.le_of_ble_eq_true rfl, Nat.le_of_ble_eq_true rfl⟩ (mX5_at hO.2.1.2.2.2.2.2.2.2.2.2.2 w a1 g.2.1 r hr) rfl (Nat.le_of_ble_eq_true rfl) rfl dX5_told_55 hP hS hl) rfl (fun v5 hv5 => ?_)
        refine y_goto (tgt := 63) C dX5_told_58 (by decide) ?_
        exact y_rp C hR dX5_told_63
    · refine y_bipush (n := 22) C ((-4) : Int32) dX5_told_20 (by decide) rfl ?_
      exact y_rp C hR dX5_told_22
  · refine y_bipush (n := 6) C ((-2) : Int32) dX5_told_4 (by decide) rfl ?_
    exact y_rp C hR dX5_told_6
theorem mX5_told {E : Ex} {o : Nat} (hO : shB E.2.2.2.2.2.1 o) (w : Wd) (a1 : Int32) (l : Launch) : MP l yX5_told cX5_told 2 (some .int) { frames := 2, cells := 0, slots := 0, locals := 42 } E [.ref (E.2.2.2.2.1 + o), .int a1] w (fX5_told w o a1) :=
  y_met (Qc := fun r => yQi E (r, w)) (by decide +kernel) (Nat.le_of_ble_eq_true rfl) (fun g C hR => eX5_told C hR hO w a1) l
def fX5_trial (w : Wd) (o : Nat) (a1 : Int32) (a2 : Int32) (a3 : Int32) : Option (Int32 × Wd) :=
  (fX5_isWay w a1).bind fun v1 =>
  if v1 = 0 then
    some ((-2), w)
  else
    if a3 < 0 then
      some ((-2), w)
    else
      if a3 ≤ 3 then
        (fX1_questionSize w (o + 1 + 1)).bind fun v5 =>
        if v5 = 0 then
          some ((-4), w)
        else
          (fX2_start w (o + 102) (o + 1 + 1) a1 a2).bind fun w7 =>
          ob2 (fX2_goOn w7 (o + 102) (o + 1 + 1) 240) fun v8 w9 =>
          if a3 = 0 then
            some (w9.1 (o + 102) 4, w9)
          else
          if a3 = 1 then
            (fX2_cost w9 (o + 102)).bind fun v12 =>
            some (v12, w9)
          else
          if a3 = 2 then
            (fX2_toldNotWanted w9 (o + 102) (o + 1 + 1)).bind fun v14 =>
            some (v14, w9)
          else
          (fX2_caughtSize w9 (o + 102)).bind fun v15 =>
          some (v15, w9)
      else
        some ((-2), w)
set_option maxRecDepth 4000 in
theorem eX5_trial {g : Gx} {E : Ex} (C : CC g E cX5_trial 4 RX5 6 140) (hR : RT g (some .int)) {o : Nat} (hO : shB E.2.2.2.2.2.1 o) (w : Wd) (a1 : Int32) (a2 : Int32) (a3 : Int32) : YO g E 4 (QI g E) (fX5_trial w o a1 a2 a3) w 0 [(0, .ref (E.2.2.2.2.1 + o)), (1, .int a1), (2, .int a2), (3, .int a3)] [] := by
  unfold fX5_trial
  refine y_iload_n (n := 1) C dX5_trial_0 1 rfl rfl ?_
  refine y_cp (n := 4) C (fun r hr H locs la hP hS hl => y_runS (st := []) C ky_X5_isWay wd_292 ⟨Nat.le_of_ble_eq_true rfl, Nat.le_of_ble_eq_true rfl⟩ (mX5_isWay w a1 g.2.1 r hr) rfl (Nat.le_of_ble_eq_true rfl) rfl dX5_trial_1 hP hS hl) rfl (fun v1 hv1 => ?_)
  refine y_if_eq (tgt := 16) (n := 7) C dX5_trial_4 (by decide) rfl (fun h2 => ?_) (fun h2 => ?_)
  · refine y_bipush (n := 18) C ((-2) : Int32) dX5_trial_16 (by decide) rfl ?_
    exact y_ri C hR dX5_trial_18
  · refine y_iload_n (n := 8) C dX5_trial_7 3 rfl rfl ?_
    refine y_if_lt (tgt := 16) (n := 11) C dX5_trial_8 (by decide) rfl (fun h3 => ?_) (fun h3 => ?_)
    · refine y_bipush (n := 18) C ((-2) : Int32) dX5_trial_16 (by decide) rfl ?_
      exact y_ri C hR dX5_trial_18
    · refine y_iload_n (n := 12) C dX5_trial_11 3 rfl rfl ?_
      refine y_iconst (n := 13) C (3 : Int32) dX5_trial_12 (by decide) rfl ?_
      refine y_icmp_le (tgt := 19) (n := 16) C dX5_trial_13 (by decide) rfl (fun h4 => ?_) (fun h4 => ?_)
      · refine y_aload_n (n := 20) C dX5_trial_19 0 rfl rfl ?_
        refine y_get (ci := 5) (f := 0) (n := 23) C in_X5 hO.1 rfl (by decide) wd_180 rfl rfl dX5_trial_20 rfl ?_
        refine y_getN (ci := 3) (f := 0) (n := 26) C in_X3 hO.2.1.1 rfl (by decide) wd_124 rfl rfl dX5_trial_23 rfl ?_
        refine y_cp (n := 29) C (fun r hr H locs la hP hS hl => y_runVN (ci := 1) (st := []) C ky_X1_questionSize wd_295 ⟨Nat.le_of_ble_eq_true rfl, Nat.le_of_ble_eq_true rfl⟩ hO.2.1.2.1.1 rfl (mX1_questionSize hO.2.1.2.1 w g.2.1 r hr) rfl (Nat.le_of_ble_eq_true rfl) rfl dX5_trial_26 hP hS hl) rfl (fun v5 hv5 => ?_)
        refine y_if_ne (tgt := 35) (n := 32) C dX5_trial_29 (by decide) rfl (fun h6 => ?_) (fun h6 => ?_)
        · refine y_aload_n (n := 36) C dX5_trial_35 0 rfl rfl ?_
          refine y_get (ci := 5) (f := 5) (n := 39) C in_X5 hO.1 rfl (by decide) wd_185 rfl rfl dX5_trial_36 rfl ?_
          refine y_aload_n (n := 40) C dX5_trial_39 0 rfl rfl ?_
          refine y_get (ci := 5) (f := 0) (n := 43) C in_X5 hO.1 rfl (by decide) wd_180 rfl rfl dX5_trial_40 rfl ?_
          refine y_getN (ci := 3) (f := 0) (n := 46) C in_X3 hO.2.1.1 rfl (by decide) wd_124 rfl rfl dX5_trial_43 rfl ?_
          refine y_iload_n (n := 47) C dX5_trial_46 1 rfl rfl ?_
          refine y_iload_n (n := 48) C dX5_trial_47 2 rfl rfl ?_
          refine y_cv (n := 51) C (fun r hr H locs la hP hS hl => y_runVN (ci := 2) (st := []) C ky_X2_start wd_303 ⟨Nat.le_of_ble_eq_true rfl, Nat.le_of_ble_eq_true rfl⟩ hO.2.2.2.2.2.1 rfl (mX2_start hO.2.2.2.2.2 hO.2.1.2.1 w a1 a2 g.2.1 r hr) rfl (Nat.le_of_ble_eq_true rfl) rfl dX5_trial_48 hP hS hl) rfl (fun w7 hw7 => ?_)
          refine y_aload_n (n := 52) C dX5_trial_51 0 rfl rfl ?_
          refine y_get (ci := 5) (f := 5) (n := 55) C in_X5 hO.1 rfl (by decide) wd_185 rfl rfl dX5_trial_52 rfl ?_
          refine y_aload_n (n := 56) C dX5_trial_55 0 rfl rfl ?_
          refine y_get (ci := 5) (f := 0) (n := 59) C in_X5 hO.1 rfl (by decide) wd_180 rfl rfl dX5_trial_56 rfl ?_
          refine y_getN (ci := 3) (f := 0) (n := 62) C in_X3 hO.2.1.1 rfl (by decide) wd_124 rfl rfl dX5_trial_59 rfl ?_
          refine y_sipush (n := 65) C (240 : Int32) dX5_trial_62 (by decide) rfl ?_
          refine y_ci2 (n := 68) C (fun r hr H locs la hP hS hl => y_runVN (ci := 2) (st := []) C ky_X2_goOn wd_383 ⟨Nat.le_of_ble_eq_true rfl, Nat.le_of_ble_eq_true rfl⟩ hO.2.2.2.2.2.1 rfl (mX2_goOn hO.2.2.2.2.2 hO.2.1.2.1 w7 240 g.2.1 r hr) rfl (Nat.le_of_ble_eq_true rfl) rfl dX5_trial_65 hP hS hl) rfl (fun v8 w9 hv8 => ?_)
          refine y_pop (n := 69) C dX5_trial_68 rfl rfl ?_
          refine y_iload_n (n := 70) C dX5_trial_69 3 rfl rfl ?_
          refine y_if (fun h10 => ?_) (fun h10 => ?_)
          · refine y_swIn (tgt := 96) C 26 dX5_trial_70 (by rw [h10]; decide) (by rw [h10]; decide) (by rw [h10]; rfl) (by decide) ?_
            refine y_aload_n (n := 97) C dX5_trial_96 0 rfl rfl ?_
            refine y_get (ci := 5) (f := 5) (n := 100) C in_X5 hO.1 rfl (by decide) wd_185 rfl rfl dX5_trial_97 rfl ?_
            refine y_getN (ci := 2) (f := 4) (n := 103) C in_X2 hO.2.2.2.2.2.1 rfl (by decide) wd_73 rfl rfl dX5_trial_100 rfl ?_
            exact y_ri C hR dX5_trial_103
          refine y_if (fun h11 => ?_) (fun h11 => ?_)
          · refine y_swIn (tgt := 104) C 34 dX5_trial_70 (by rw [h11]; decide) (by rw [h11]; decide) (by rw [h11]; rfl) (by decide) ?_
            refine y_aload_n (n := 105) C dX5_trial_104 0 rfl rfl ?_
            refine y_get (ci := 5) (f := 5) (n := 108) C in_X5 hO.1 rfl (by decide) wd_185 rfl rfl dX5_trial_105 rfl ?_
            refine y_cp (n := 111) C (fun r hr H locs la hP hS hl => y_runVN (ci := 2) (st := []) C ky_X2_cost wd_431 ⟨Nat.le_of_ble_eq_true rfl, Nat.le_of_ble_eq_true rfl⟩ hO.2.2.2.2.2.1 rfl (mX2_cost hO.2.2.2.2.2 w9 g.2.1 r hr) rfl (Nat.le_of_ble_eq_true rfl) rfl dX5_trial_108 hP hS hl) rfl (fun v12 hv12 => ?_)
            exact y_ri C hR dX5_trial_111
          refine y_if (fun h13 => ?_) (fun h13 => ?_)
          · refine y_swIn (tgt := 112) C 42 dX5_trial_70 (by rw [h13]; decide) (by rw [h13]; decide) (by rw [h13]; rfl) (by decide) ?_
            refine y_aload_n (n := 113) C dX5_trial_112 0 rfl rfl ?_
            refine y_get (ci := 5) (f := 5) (n := 116) C in_X5 hO.1 rfl (by decide) wd_185 rfl rfl dX5_trial_113 rfl ?_
            refine y_aload_n (n := 117) C dX5_trial_116 0 rfl rfl ?_
            refine y_get (ci := 5) (f := 0) (n := 120) C in_X5 hO.1 rfl (by decide) wd_180 rfl rfl dX5_trial_117 rfl ?_
            refine y_getN (ci := 3) (f := 0) (n := 123) C in_X3 hO.2.1.1 rfl (by decide) wd_124 rfl rfl dX5_trial_120 rfl ?_
            refine y_cp (n := 126) C (fun r hr H locs la hP hS hl => y_runVN (ci := 2) (st := []) C ky_X2_toldNotWanted wd_563 ⟨Nat.le_of_ble_eq_true rfl, Nat.le_of_ble_eq_true rfl⟩ hO.2.2.2.2.2.1 rfl (mX2_toldNotWanted hO.2.2.2.2.2 hO.2.1.2.1 w9 g.2.1 r hr) rfl (Nat.le_of_ble_eq_true rfl) rfl dX5_trial_123 hP hS hl) rfl (fun v14 hv14 => ?_)
            exact y_ri C hR dX5_trial_126
          refine y_swOut (tgt := 127) C dX5_trial_70 (by have gh10 := sw_ne (k := 0) (by decide) h10; have gh11 := sw_ne (k := 1) (by decide) h11; have gh13 := sw_ne (k := 2) (by decide) h13; omega) (by decide) ?_
          refine y_aload_n (n := 128) C dX5_trial_127 0 rfl rfl ?_
          refine y_get (ci := 5) (f := 5) (n := 131) C in_X5 hO.1 rfl (by decide) wd_185 rfl rfl dX5_trial_128 rfl ?_
          refine y_cp (n := 134) C (fun r hr H locs la hP hS hl => y_runVN (ci := 2) (st := []) C ky_X2_caughtSize wd_541 ⟨Nat.le_of_ble_eq_true rfl, Nat.le_of_ble_eq_true rfl⟩ hO.2.2.2.2.2.1 rfl (mX2_caughtSize hO.2.2.2.2.2 w9 g.2.1 r hr) rfl (Nat.le_of_ble_eq_true rfl) rfl dX5_trial_131 hP hS hl) rfl (fun v15 hv15 => ?_)
          exact y_ri C hR dX5_trial_134
        · refine y_bipush (n := 34) C ((-4) : Int32) dX5_trial_32 (by decide) rfl ?_
          exact y_ri C hR dX5_trial_34
      · refine y_bipush (n := 18) C ((-2) : Int32) dX5_trial_16 (by decide) rfl ?_
        exact y_ri C hR dX5_trial_18
theorem mX5_trial {E : Ex} {o : Nat} (hO : shB E.2.2.2.2.2.1 o) (w : Wd) (a1 : Int32) (a2 : Int32) (a3 : Int32) (l : Launch) : MI l yX5_trial cX5_trial 4 (some .int) { frames := 6, cells := 0, slots := 0, locals := 140 } E [.ref (E.2.2.2.2.1 + o), .int a1, .int a2, .int a3] w (fX5_trial w o a1 a2 a3) :=
  y_met (Qc := yQi E) (by decide +kernel) (Nat.le_of_ble_eq_true rfl) (fun g C hR => eX5_trial C hR hO w a1 a2 a3) l
def fX5_want (y : Ly) (w : Wd) (o : Nat) (a1 : Int32) : Option (Int32 × Wd) :=
  if a1 < 1 then
    some ((-2), w)
  else
    if a1 ≤ 10 then
      if (bz (w.1 (o + 1 + 7) 0)) = 0 then
        if (w.1 (o + 1 + 1) 6) = a1 then
          some ((-5), w)
        else
          (fX0_record y w (o + 17) (o + 1)).bind fun w5 =>
          (pI w5 (o + 1 + 1) 6 a1).bind fun w6 =>
          some (w.1 (o + 1 + 1) 6, w6)
      else
        some ((-4), w)
    else
      some ((-2), w)
set_option maxRecDepth 4000 in
theorem eX5_want {g : Gx} {E : Ex} (C : CC g E cX5_want 3 RX5 5 133) (hR : RT g (some .int)) {o : Nat} (hO : shB E.2.2.2.2.2.1 o) (w : Wd) (a1 : Int32) : YO g E 3 (QI g E) (fX5_want E.2.2.2.2.2.1 w o a1) w 0 [(0, .ref (E.2.2.2.2.1 + o)), (1, .int a1)] [] := by
  unfold fX5_want
  refine y_iload_n (n := 1) C dX5_want_0 1 rfl rfl ?_
  refine y_iconst (n := 2) C (1 : Int32) dX5_want_1 (by decide) rfl ?_
  refine y_icmp_lt (tgt := 11) (n := 5) C dX5_want_2 (by decide) rfl (fun h1 => ?_) (fun h1 => ?_)
  · refine y_bipush (n := 13) C ((-2) : Int32) dX5_want_11 (by decide) rfl ?_
    exact y_ri C hR dX5_want_13
  · refine y_iload_n (n := 6) C dX5_want_5 1 rfl rfl ?_
    refine y_bipush (n := 8) C (10 : Int32) dX5_want_6 (by decide) rfl ?_
    refine y_icmp_le (tgt := 14) (n := 11) C dX5_want_8 (by decide) rfl (fun h2 => ?_) (fun h2 => ?_)
    · refine y_aload_n (n := 15) C dX5_want_14 0 rfl rfl ?_
      refine y_get (ci := 5) (f := 0) (n := 18) C in_X5 hO.1 rfl (by decide) wd_180 rfl rfl dX5_want_15 rfl ?_
      refine y_getN (ci := 3) (f := 1) (n := 21) C in_X3 hO.2.1.1 rfl (by decide) wd_126 rfl rfl dX5_want_18 rfl ?_
      refine y_getN (ci := 2) (f := 0) (n := 24) C in_X2 hO.2.1.2.2.1 rfl (by decide) wd_68 rfl rfl dX5_want_21 rfl ?_
      refine y_if_eq (tgt := 30) (n := 27) C dX5_want_24 (by decide) rfl (fun h3 => ?_) (fun h3 => ?_)
      · refine y_aload_n (n := 31) C dX5_want_30 0 rfl rfl ?_
        refine y_get (ci := 5) (f := 0) (n := 34) C in_X5 hO.1 rfl (by decide) wd_180 rfl rfl dX5_want_31 rfl ?_
        refine y_getN (ci := 3) (f := 0) (n := 37) C in_X3 hO.2.1.1 rfl (by decide) wd_124 rfl rfl dX5_want_34 rfl ?_
        refine y_getN (ci := 1) (f := 6) (n := 40) C in_X1 hO.2.1.2.1.1 rfl (by decide) wd_43 rfl rfl dX5_want_37 rfl ?_
        refine y_istore_n (n := 41) (ls' := [(2, .int (w.1 (o + 1 + 1) 6)), (0, .ref (E.2.2.2.2.1 + o)), (1, .int a1)]) C dX5_want_40 (by decide) rfl rfl ?_
        refine y_iload_n (n := 42) C dX5_want_41 0 rfl rfl ?_
        refine y_iload_n (n := 43) C dX5_want_42 2 rfl rfl ?_
        refine y_icmp_ne (tgt := 49) (n := 46) C dX5_want_43 (by decide) rfl (fun h4 => ?_) (fun h4 => ?_)
        · refine y_aload_n (n := 50) C dX5_want_49 1 rfl rfl ?_
          refine y_get (ci := 5) (f := 1) (n := 53) C in_X5 hO.1 rfl (by decide) wd_181 rfl rfl dX5_want_50 rfl ?_
          refine y_aload_n (n := 54) C dX5_want_53 1 rfl rfl ?_
          refine y_get (ci := 5) (f := 0) (n := 57) C in_X5 hO.1 rfl (by decide) wd_180 rfl rfl dX5_want_54 rfl ?_
          refine y_cv (n := 60) C (fun r hr H locs la hP hS hl => y_runVN (ci := 0) (st := []) C ky_X0_record wd_214 ⟨Nat.le_of_ble_eq_true rfl, Nat.le_of_ble_eq_true rfl⟩ hO.2.2.1.1 rfl (mX0_record hO.2.2.1 hO.2.1 w g.2.1 r hr) rfl (Nat.le_of_ble_eq_true rfl) rfl dX5_want_57 hP hS hl) rfl (fun w5 hw5 => ?_)
          refine y_aload_n (n := 61) C dX5_want_60 1 rfl rfl ?_
          refine y_get (ci := 5) (f := 0) (n := 64) C in_X5 hO.1 rfl (by decide) wd_180 rfl rfl dX5_want_61 rfl ?_
          refine y_getN (ci := 3) (f := 0) (n := 67) C in_X3 hO.2.1.1 rfl (by decide) wd_124 rfl rfl dX5_want_64 rfl ?_
          refine y_iload_n (n := 68) C dX5_want_67 2 rfl rfl ?_
          refine y_putIN (ci := 1) (f := 6) (n := 71) C in_X1 tyX1 tyX1_ok nmX1 hO.2.1.2.1.1 rfl (by decide) wd_43 rfl rfl (by decide +kernel) (Nat.le_of_ble_eq_true rfl) st_X1_6 dX5_want_68 rfl (fun w6 hw6 => ?_)
          refine y_iload_n (n := 72) C dX5_want_71 0 rfl rfl ?_
          exact y_ri C hR dX5_want_72
        · refine y_bipush (n := 48) C ((-5) : Int32) dX5_want_46 (by decide) rfl ?_
          exact y_ri C hR dX5_want_48
      · refine y_bipush (n := 29) C ((-4) : Int32) dX5_want_27 (by decide) rfl ?_
        exact y_ri C hR dX5_want_29
    · refine y_bipush (n := 13) C ((-2) : Int32) dX5_want_11 (by decide) rfl ?_
      exact y_ri C hR dX5_want_13
theorem mX5_want {E : Ex} {o : Nat} (hO : shB E.2.2.2.2.2.1 o) (w : Wd) (a1 : Int32) (l : Launch) : MI l yX5_want cX5_want 3 (some .int) { frames := 5, cells := 0, slots := 0, locals := 133 } E [.ref (E.2.2.2.2.1 + o), .int a1] w (fX5_want E.2.2.2.2.2.1 w o a1) :=
  y_met (Qc := yQi E) (by decide +kernel) (Nat.le_of_ble_eq_true rfl) (fun g C hR => eX5_want C hR hO w a1) l
def fX5_wanted (w : Wd) (o : Nat) (a1 : Int32) : Option (Int32) :=
  if 0 ≤ a1 then
    (fX1_wantedAt w (o + 1 + 1) a1).bind fun v2 =>
    some v2
  else
    some (-2)
set_option maxRecDepth 4000 in
theorem eX5_wanted {g : Gx} {E : Ex} (C : CC g E cX5_wanted 2 RX5 6 134) (hR : RT g (some .int)) {o : Nat} (hO : shB E.2.2.2.2.2.1 o) (w : Wd) (a1 : Int32) : YO g E 2 (QP g E w) (fX5_wanted w o a1) w 0 [(0, .ref (E.2.2.2.2.1 + o)), (1, .int a1)] [] := by
  unfold fX5_wanted
  refine y_iload_n (n := 1) C dX5_wanted_0 1 rfl rfl ?_
  refine y_if_ge (tgt := 7) (n := 4) C dX5_wanted_1 (by decide) rfl (fun h1 => ?_) (fun h1 => ?_)
  · refine y_aload_n (n := 8) C dX5_wanted_7 0 rfl rfl ?_
    refine y_get (ci := 5) (f := 0) (n := 11) C in_X5 hO.1 rfl (by decide) wd_180 rfl rfl dX5_wanted_8 rfl ?_
    refine y_getN (ci := 3) (f := 0) (n := 14) C in_X3 hO.2.1.1 rfl (by decide) wd_124 rfl rfl dX5_wanted_11 rfl ?_
    refine y_iload_n (n := 15) C dX5_wanted_14 1 rfl rfl ?_
    refine y_cp (n := 18) C (fun r hr H locs la hP hS hl => y_runVN (ci := 1) (st := []) C ky_X1_wantedAt wd_529 ⟨Nat.le_of_ble_eq_true rfl, Nat.le_of_ble_eq_true rfl⟩ hO.2.1.2.1.1 rfl (mX1_wantedAt hO.2.1.2.1 w a1 g.2.1 r hr) rfl (Nat.le_of_ble_eq_true rfl) rfl dX5_wanted_15 hP hS hl) rfl (fun v2 hv2 => ?_)
    exact y_rp C hR dX5_wanted_18
  · refine y_bipush (n := 6) C ((-2) : Int32) dX5_wanted_4 (by decide) rfl ?_
    exact y_rp C hR dX5_wanted_6
theorem mX5_wanted {E : Ex} {o : Nat} (hO : shB E.2.2.2.2.2.1 o) (w : Wd) (a1 : Int32) (l : Launch) : MP l yX5_wanted cX5_wanted 2 (some .int) { frames := 6, cells := 0, slots := 0, locals := 134 } E [.ref (E.2.2.2.2.1 + o), .int a1] w (fX5_wanted w o a1) :=
  y_met (Qc := fun r => yQi E (r, w)) (by decide +kernel) (Nat.le_of_ble_eq_true rfl) (fun g C hR => eX5_wanted C hR hO w a1) l
def fX5_weight (y : Ly) (w : Wd) (o : Nat) (a1 : Int32) (a2 : Int32) : Option (Int32 × Wd) :=
  ob2 (fX5_setOfList y w o (o + 1 + 1 + 4) 6 a1 a2 9) fun v1 w2 =>
  some (v1, w2)
set_option maxRecDepth 4000 in
theorem eX5_weight {g : Gx} {E : Ex} (C : CC g E cX5_weight 3 RX5 6 158) (hR : RT g (some .int)) {o : Nat} (hO : shB E.2.2.2.2.2.1 o) (w : Wd) (a1 : Int32) (a2 : Int32) : YO g E 3 (QI g E) (fX5_weight E.2.2.2.2.2.1 w o a1 a2) w 0 [(0, .ref (E.2.2.2.2.1 + o)), (1, .int a1), (2, .int a2)] [] := by
  unfold fX5_weight
  refine y_aload_n (n := 1) C dX5_weight_0 0 rfl rfl ?_
  refine y_aload_n (n := 2) C dX5_weight_1 0 rfl rfl ?_
  refine y_get (ci := 5) (f := 0) (n := 5) C in_X5 hO.1 rfl (by decide) wd_180 rfl rfl dX5_weight_2 rfl ?_
  refine y_getN (ci := 3) (f := 0) (n := 8) C in_X3 hO.2.1.1 rfl (by decide) wd_124 rfl rfl dX5_weight_5 rfl ?_
  refine y_getN (ci := 1) (f := 3) (n := 11) C in_X1 hO.2.1.2.1.1 rfl (by decide) wd_36 rfl rfl dX5_weight_8 rfl ?_
  refine y_iload_n (n := 12) C dX5_weight_11 1 rfl rfl ?_
  refine y_iload_n (n := 13) C dX5_weight_12 2 rfl rfl ?_
  refine y_bipush (n := 15) C (9 : Int32) dX5_weight_13 (by decide) rfl ?_
  refine y_ci2 (n := 18) C (fun r hr H locs la hP hS hl => y_runV (ci := 5) (st := []) C ky_X5_setOfList wd_273 ⟨Nat.le_of_ble_eq_true rfl, Nat.le_of_ble_eq_true rfl⟩ hO.1 rfl (mX5_setOfList hO hO.2.1.2.1.2.2.2.2.1 w a1 a2 9 g.2.1 r hr) rfl (Nat.le_of_ble_eq_true rfl) rfl dX5_weight_15 hP hS hl) rfl (fun v1 w2 hv1 => ?_)
  exact y_ri C hR dX5_weight_18
theorem mX5_weight {E : Ex} {o : Nat} (hO : shB E.2.2.2.2.2.1 o) (w : Wd) (a1 : Int32) (a2 : Int32) (l : Launch) : MI l yX5_weight cX5_weight 3 (some .int) { frames := 6, cells := 0, slots := 0, locals := 158 } E [.ref (E.2.2.2.2.1 + o), .int a1, .int a2] w (fX5_weight E.2.2.2.2.2.1 w o a1 a2) :=
  y_met (Qc := yQi E) (by decide +kernel) (Nat.le_of_ble_eq_true rfl) (fun g C hR => eX5_weight C hR hO w a1 a2) l
