/-! X5_isWay X5_begin X5_cheapest X5_count X5_setDeleted X5_delete X5_document X5_drop X5_end X5_entry X5_list X5_reading X5_seen -/
def fX5_isWay (w : Wd) (a1 : Int32) : Option (Int32) :=
  if a1 < 0 then
    rtZ 0
  else
    if 2 < a1 then
      rtZ 0
    else
      rtZ 1
set_option maxRecDepth 4000 in
theorem eX5_isWay {g : Gx} {E : Ex} (C : CC g E cX5_isWay 1 RX5 0 0) (hR : RT g (some .boolean))  (w : Wd) (a1 : Int32) : YO g E 1 (QP g E w) (fX5_isWay w a1) w 0 [(0, .int a1)] [] := by
  unfold fX5_isWay
  refine y_iload_n (n := 1) C dX5_isWay_0 0 rfl rfl ?_
  refine y_if_lt (tgt := 13) (n := 4) C dX5_isWay_1 (by decide) rfl (fun h1 => ?_) (fun h1 => ?_)
  · refine y_iconst (n := 14) C (0 : Int32) dX5_isWay_13 (by decide) rfl ?_
    exact y_rz C hR dX5_isWay_14
  · refine y_iload_n (n := 5) C dX5_isWay_4 0 rfl rfl ?_
    refine y_iconst (n := 6) C (2 : Int32) dX5_isWay_5 (by decide) rfl ?_
    refine y_icmp_gt (tgt := 13) (n := 9) C dX5_isWay_6 (by decide) rfl (fun h2 => ?_) (fun h2 => ?_)
    · refine y_iconst (n := 14) C (0 : Int32) dX5_isWay_13 (by decide) rfl ?_
      exact y_rz C hR dX5_isWay_14
    · refine y_iconst (n := 10) C (1 : Int32) dX5_isWay_9 (by decide) rfl ?_
      refine y_goto (tgt := 14) C dX5_isWay_10 (by decide) ?_
      exact y_rz C hR dX5_isWay_14
theorem mX5_isWay {E : Ex}  (w : Wd) (a1 : Int32) (l : Launch) : MP l yX5_isWay cX5_isWay 1 (some .boolean) { frames := 0, cells := 0, slots := 0, locals := 0 } E [.int a1] w (fX5_isWay w a1) :=
  y_met (Qc := fun r => yQi E (r, w)) (by decide +kernel) (Nat.le_of_ble_eq_true rfl) (fun g C hR => eX5_isWay C hR  w a1) l
def fX5_begin (y : Ly) (w : Wd) (o : Nat) (a1 : Int32) (a2 : Int32) : Option (Int32 × Wd) :=
  (fX5_isWay w a1).bind fun v1 =>
  if v1 = 0 then
    some ((-2), w)
  else
    if (bz (w.1 (o + 1 + 7) 0)) = 0 then
      (fX1_questionSize w (o + 1 + 1)).bind fun v4 =>
      if v4 = 0 then
        some ((-4), w)
      else
        (fX0_record y w (o + 17) (o + 1)).bind fun w6 =>
        (pI w6 (o + 1) 2 ((w6.1 (o + 1) 2) + 1)).bind fun w7 =>
        (fX2_start w7 (o + 1 + 7) (o + 1 + 1) a1 a2).bind fun w8 =>
        (fX2_isOver w8 (o + 1 + 7) (o + 1 + 1)).bind fun v9 =>
        (fX5_oneIf w8 v9).bind fun v10 =>
        some (v10, w8)
    else
      some ((-4), w)
set_option maxRecDepth 4000 in
theorem eX5_begin {g : Gx} {E : Ex} (C : CC g E cX5_begin 3 RX5 5 133) (hR : RT g (some .int)) {o : Nat} (hO : shB E.2.2.2.2.2.1 o) (w : Wd) (a1 : Int32) (a2 : Int32) : YO g E 3 (QI g E) (fX5_begin E.2.2.2.2.2.1 w o a1 a2) w 0 [(0, .ref (E.2.2.2.2.1 + o)), (1, .int a1), (2, .int a2)] [] := by
  unfold fX5_begin
  refine y_iload_n (n := 1) C dX5_begin_0 1 rfl rfl ?_
  refine y_cp (n := 4) C (fun r hr H locs la hP hS hl => y_runS (st := []) C ky_X5_isWay wd_292 ⟨Nat.le_of_ble_eq_true rfl, Nat.le_of_ble_eq_true rfl⟩ (mX5_isWay w a1 g.2.1 r hr) rfl (Nat.le_of_ble_eq_true rfl) rfl dX5_begin_1 hP hS hl) rfl (fun v1 hv1 => ?_)
  refine y_if_ne (tgt := 10) (n := 7) C dX5_begin_4 (by decide) rfl (fun h2 => ?_) (fun h2 => ?_)
  · refine y_aload_n (n := 11) C dX5_begin_10 0 rfl rfl ?_
    refine y_get (ci := 5) (f := 0) (n := 14) C in_X5 hO.1 rfl (by decide) wd_180 rfl rfl dX5_begin_11 rfl ?_
    refine y_getN (ci := 3) (f := 1) (n := 17) C in_X3 hO.2.1.1 rfl (by decide) wd_126 rfl rfl dX5_begin_14 rfl ?_
    refine y_getN (ci := 2) (f := 0) (n := 20) C in_X2 hO.2.1.2.2.1 rfl (by decide) wd_68 rfl rfl dX5_begin_17 rfl ?_
    refine y_if_ne (tgt := 36) (n := 23) C dX5_begin_20 (by decide) rfl (fun h3 => ?_) (fun h3 => ?_)
    · refine y_bipush (n := 38) C ((-4) : Int32) dX5_begin_36 (by decide) rfl ?_
      exact y_ri C hR dX5_begin_38
    · refine y_aload_n (n := 24) C dX5_begin_23 0 rfl rfl ?_
      refine y_get (ci := 5) (f := 0) (n := 27) C in_X5 hO.1 rfl (by decide) wd_180 rfl rfl dX5_begin_24 rfl ?_
      refine y_getN (ci := 3) (f := 0) (n := 30) C in_X3 hO.2.1.1 rfl (by decide) wd_124 rfl rfl dX5_begin_27 rfl ?_
      refine y_cp (n := 33) C (fun r hr H locs la hP hS hl => y_runVN (ci := 1) (st := []) C ky_X1_questionSize wd_295 ⟨Nat.le_of_ble_eq_true rfl, Nat.le_of_ble_eq_true rfl⟩ hO.2.1.2.1.1 rfl (mX1_questionSize hO.2.1.2.1 w g.2.1 r hr) rfl (Nat.le_of_ble_eq_true rfl) rfl dX5_begin_30 hP hS hl) rfl (fun v4 hv4 => ?_)
      refine y_if_ne (tgt := 39) (n := 36) C dX5_begin_33 (by decide) rfl (fun h5 => ?_) (fun h5 => ?_)
      · refine y_aload_n (n := 40) C dX5_begin_39 0 rfl rfl ?_
        refine y_get (ci := 5) (f := 1) (n := 43) C in_X5 hO.1 rfl (by decide) wd_181 rfl rfl dX5_begin_40 rfl ?_
        refine y_aload_n (n := 44) C dX5_begin_43 0 rfl rfl ?_
        refine y_get (ci := 5) (f := 0) (n := 47) C in_X5 hO.1 rfl (by decide) wd_180 rfl rfl dX5_begin_44 rfl ?_
        refine y_cv (n := 50) C (fun r hr H locs la hP hS hl => y_runVN (ci := 0) (st := []) C ky_X0_record wd_214 ⟨Nat.le_of_ble_eq_true rfl, Nat.le_of_ble_eq_true rfl⟩ hO.2.2.1.1 rfl (mX0_record hO.2.2.1 hO.2.1 w g.2.1 r hr) rfl (Nat.le_of_ble_eq_true rfl) rfl dX5_begin_47 hP hS hl) rfl (fun w6 hw6 => ?_)
        refine y_aload_n (n := 51) C dX5_begin_50 0 rfl rfl ?_
        refine y_get (ci := 5) (f := 0) (n := 54) C in_X5 hO.1 rfl (by decide) wd_180 rfl rfl dX5_begin_51 rfl ?_
        refine y_dup (n := 55) C dX5_begin_54 rfl rfl ?_
        refine y_getN (ci := 3) (f := 2) (n := 58) C in_X3 hO.2.1.1 rfl (by decide) wd_128 rfl rfl dX5_begin_55 rfl ?_
        refine y_iconst (n := 59) C (1 : Int32) dX5_begin_58 (by decide) rfl ?_
        refine y_iadd (n := 60) C dX5_begin_59 rfl ?_
        refine y_putIN (ci := 3) (f := 2) (n := 63) C in_X3 tyX3 tyX3_ok nmX3 hO.2.1.1 rfl (by decide) wd_128 rfl rfl (by decide +kernel) (Nat.le_of_ble_eq_true rfl) st_X3_2 dX5_begin_60 rfl (fun w7 hw7 => ?_)
        refine y_aload_n (n := 64) C dX5_begin_63 0 rfl rfl ?_
        refine y_get (ci := 5) (f := 0) (n := 67) C in_X5 hO.1 rfl (by decide) wd_180 rfl rfl dX5_begin_64 rfl ?_
        refine y_getN (ci := 3) (f := 1) (n := 70) C in_X3 hO.2.1.1 rfl (by decide) wd_126 rfl rfl dX5_begin_67 rfl ?_
        refine y_aload_n (n := 71) C dX5_begin_70 0 rfl rfl ?_
        refine y_get (ci := 5) (f := 0) (n := 74) C in_X5 hO.1 rfl (by decide) wd_180 rfl rfl dX5_begin_71 rfl ?_
        refine y_getN (ci := 3) (f := 0) (n := 77) C in_X3 hO.2.1.1 rfl (by decide) wd_124 rfl rfl dX5_begin_74 rfl ?_
        refine y_iload_n (n := 78) C dX5_begin_77 1 rfl rfl ?_
        refine y_iload_n (n := 79) C dX5_begin_78 2 rfl rfl ?_
        refine y_cv (n := 82) C (fun r hr H locs la hP hS hl => y_runVN (ci := 2) (st := []) C ky_X2_start wd_303 ⟨Nat.le_of_ble_eq_true rfl, Nat.le_of_ble_eq_true rfl⟩ hO.2.1.2.2.1 rfl (mX2_start hO.2.1.2.2 hO.2.1.2.1 w7 a1 a2 g.2.1 r hr) rfl (Nat.le_of_ble_eq_true rfl) rfl dX5_begin_79 hP hS hl) rfl (fun w8 hw8 => ?_)
        refine y_aload_n (n := 83) C dX5_begin_82 0 rfl rfl ?_
        refine y_get (ci := 5) (f := 0) (n := 86) C in_X5 hO.1 rfl (by decide) wd_180 rfl rfl dX5_begin_83 rfl ?_
        refine y_getN (ci := 3) (f := 1) (n := 89) C in_X3 hO.2.1.1 rfl (by decide) wd_126 rfl rfl dX5_begin_86 rfl ?_
        refine y_aload_n (n := 90) C dX5_begin_89 0 rfl rfl ?_
        refine y_get (ci := 5) (f := 0) (n := 93) C in_X5 hO.1 rfl (by decide) wd_180 rfl rfl dX5_begin_90 rfl ?_
        refine y_getN (ci := 3) (f := 0) (n := 96) C in_X3 hO.2.1.1 rfl (by decide) wd_124 rfl rfl dX5_begin_93 rfl ?_
        refine y_cp (n := 99) C (fun r hr H locs la hP hS hl => y_runVN (ci := 2) (st := []) C ky_X2_isOver wd_331 ⟨Nat.le_of_ble_eq_true rfl, Nat.le_of_ble_eq_true rfl⟩ hO.2.1.2.2.1 rfl (mX2_isOver hO.2.1.2.2 hO.2.1.2.1 w8 g.2.1 r hr) rfl (Nat.le_of_ble_eq_true rfl) rfl dX5_begin_96 hP hS hl) rfl (fun v9 hv9 => ?_)
        refine y_cp (n := 102) C (fun r hr H locs la hP hS hl => y_runS (st := []) C ky_X5_oneIf wd_360 ⟨Nat.le_of_ble_eq_true rfl, Nat.le_of_ble_eq_true rfl⟩ (mX5_oneIf w8 v9 g.2.1 r hr) rfl (Nat.le_of_ble_eq_true rfl) rfl dX5_begin_99 hP hS hl) rfl (fun v10 hv10 => ?_)
        exact y_ri C hR dX5_begin_102
      · refine y_bipush (n := 38) C ((-4) : Int32) dX5_begin_36 (by decide) rfl ?_
        exact y_ri C hR dX5_begin_38
  · refine y_bipush (n := 9) C ((-2) : Int32) dX5_begin_7 (by decide) rfl ?_
    exact y_ri C hR dX5_begin_9
theorem mX5_begin {E : Ex} {o : Nat} (hO : shB E.2.2.2.2.2.1 o) (w : Wd) (a1 : Int32) (a2 : Int32) (l : Launch) : MI l yX5_begin cX5_begin 3 (some .int) { frames := 5, cells := 0, slots := 0, locals := 133 } E [.ref (E.2.2.2.2.1 + o), .int a1, .int a2] w (fX5_begin E.2.2.2.2.2.1 w o a1 a2) :=
  y_met (Qc := yQi E) (by decide +kernel) (Nat.le_of_ble_eq_true rfl) (fun g C hR => eX5_begin C hR hO w a1 a2) l
def lX5_cheapest_22 (o : Nat) : Nat → Wd → Int32 → Int32 → Int32 → Option (Int32 × Wd)
  | 0, _, _, _, _ => none
  | n + 1, w, x1, x2, x3 =>
    if 6 ≤ x3 then
      some (x1, w)
    else
      if (x3 &&& 1) = 1 then
        (fX2_start w (o + 102) (o + 1 + 1) (x3 >>> (1 &&& 31)) 1).bind fun w11 =>
        ob2 (fX2_goOn w11 (o + 102) (o + 1 + 1) 240) fun v12 w13 =>
        (fX2_cost w13 (o + 102)).bind fun v14 =>
        if x3 = 0 then
          lX5_cheapest_22 o n w13 x3 v14 (x3 + 1)
        else
          if x2 ≤ v14 then
            lX5_cheapest_22 o n w13 x1 x2 (x3 + 1)
          else
            lX5_cheapest_22 o n w13 x3 v14 (x3 + 1)
      else
        (fX2_start w (o + 102) (o + 1 + 1) (x3 >>> (1 &&& 31)) 0).bind fun w5 =>
        ob2 (fX2_goOn w5 (o + 102) (o + 1 + 1) 240) fun v6 w7 =>
        (fX2_cost w7 (o + 102)).bind fun v8 =>
        if x3 = 0 then
          lX5_cheapest_22 o n w7 x3 v8 (x3 + 1)
        else
          if x2 ≤ v8 then
            lX5_cheapest_22 o n w7 x1 x2 (x3 + 1)
          else
            lX5_cheapest_22 o n w7 x3 v8 (x3 + 1)
set_option maxRecDepth 4000 in
theorem clX5_cheapest_22 {g : Gx} {E : Ex} (C : CC g E cX5_cheapest 5 RX5 6 140) (hR : RT g (some .int)) {o : Nat} (hO : shB E.2.2.2.2.2.1 o)  : ∀ (n : Nat) (w : Wd) (x1 : Int32) (x2 : Int32) (x3 : Int32), YO g E 5 (QI g E) (lX5_cheapest_22 o n w x1 x2 x3) w 22 [(0, .ref (E.2.2.2.2.1 + o)), (1, .int x1), (2, .int x2), (3, .int x3)] [] := by
  intro n
  induction n with
  | zero => intro w x1 x2 x3; exact y_no
  | succ n ih =>
    intro w x1 x2 x3
    rw [lX5_cheapest_22]
    refine y_iload_n (n := 23) C dX5_cheapest_22 3 rfl rfl ?_
    refine y_bipush (n := 25) C (6 : Int32) dX5_cheapest_23 (by decide) rfl ?_
    refine y_icmp_ge (tgt := 105) (n := 28) C dX5_cheapest_25 (by decide) rfl (fun h3 => ?_) (fun h3 => ?_)
    · refine y_iload_n (n := 106) C dX5_cheapest_105 1 rfl rfl ?_
      exact y_ri C hR dX5_cheapest_106
    · refine y_aload_n (n := 29) C dX5_cheapest_28 0 rfl rfl ?_
      refine y_get (ci := 5) (f := 5) (n := 32) C in_X5 hO.1 rfl (by decide) wd_185 rfl rfl dX5_cheapest_29 rfl ?_
      refine y_aload_n (n := 33) C dX5_cheapest_32 0 rfl rfl ?_
      refine y_get (ci := 5) (f := 0) (n := 36) C in_X5 hO.1 rfl (by decide) wd_180 rfl rfl dX5_cheapest_33 rfl ?_
      refine y_getN (ci := 3) (f := 0) (n := 39) C in_X3 hO.2.1.1 rfl (by decide) wd_124 rfl rfl dX5_cheapest_36 rfl ?_
      refine y_iload_n (n := 40) C dX5_cheapest_39 3 rfl rfl ?_
      refine y_iconst (n := 41) C (1 : Int32) dX5_cheapest_40 (by decide) rfl ?_
      refine y_ishr (n := 42) C dX5_cheapest_41 rfl ?_
      refine y_iload_n (n := 43) C dX5_cheapest_42 3 rfl rfl ?_
      refine y_iconst (n := 44) C (1 : Int32) dX5_cheapest_43 (by decide) rfl ?_
      refine y_iand (n := 45) C dX5_cheapest_44 rfl ?_
      refine y_iconst (n := 46) C (1 : Int32) dX5_cheapest_45 (by decide) rfl ?_
      refine y_icmp_ne (tgt := 53) (n := 49) C dX5_cheapest_46 (by decide) rfl (fun h4 => ?_) (fun h4 => ?_)
      · refine y_iconst (n := 54) C (0 : Int32) dX5_cheapest_53 (by decide) rfl ?_
        refine y_cv (n := 57) C (fun r hr H locs la hP hS hl => y_runVN (ci := 2) (st := []) C ky_X2_start wd_303 ⟨Nat.le_of_ble_eq_true rfl, Nat.le_of_ble_eq_true rfl⟩ hO.2.2.2.2.2.1 rfl (mX2_start hO.2.2.2.2.2 hO.2.1.2.1 w (x3 >>> (1 &&& 31)) 0 g.2.1 r hr) rfl (Nat.le_of_ble_eq_true rfl) rfl dX5_cheapest_54 hP hS hl) rfl (fun w5 hw5 => ?_)
        refine y_aload_n (n := 58) C dX5_cheapest_57 0 rfl rfl ?_
        refine y_get (ci := 5) (f := 5) (n := 61) C in_X5 hO.1 rfl (by decide) wd_185 rfl rfl dX5_cheapest_58 rfl ?_
        refine y_aload_n (n := 62) C dX5_cheapest_61 0 rfl rfl ?_
        refine y_get (ci := 5) (f := 0) (n := 65) C in_X5 hO.1 rfl (by decide) wd_180 rfl rfl dX5_cheapest_62 rfl ?_
        refine y_getN (ci := 3) (f := 0) (n := 68) C in_X3 hO.2.1.1 rfl (by decide) wd_124 rfl rfl dX5_cheapest_65 rfl ?_
        refine y_sipush (n := 71) C (240 : Int32) dX5_cheapest_68 (by decide) rfl ?_
        refine y_ci2 (n := 74) C (fun r hr H locs la hP hS hl => y_runVN (ci := 2) (st := []) C ky_X2_goOn wd_383 ⟨Nat.le_of_ble_eq_true rfl, Nat.le_of_ble_eq_true rfl⟩ hO.2.2.2.2.2.1 rfl (mX2_goOn hO.2.2.2.2.2 hO.2.1.2.1 w5 240 g.2.1 r hr) rfl (Nat.le_of_ble_eq_true rfl) rfl dX5_cheapest_71 hP hS hl) rfl (fun v6 w7 hv6 => ?_)
        refine y_pop (n := 75) C dX5_cheapest_74 rfl rfl ?_
        refine y_aload_n (n := 76) C dX5_cheapest_75 0 rfl rfl ?_
        refine y_get (ci := 5) (f := 5) (n := 79) C in_X5 hO.1 rfl (by decide) wd_185 rfl rfl dX5_cheapest_76 rfl ?_
        refine y_cp (n := 82) C (fun r hr H locs la hP hS hl => y_runVN (ci := 2) (st := []) C ky_X2_cost wd_431 ⟨Nat.le_of_ble_eq_true rfl, Nat.le_of_ble_eq_true rfl⟩ hO.2.2.2.2.2.1 rfl (mX2_cost hO.2.2.2.2.2 w7 g.2.1 r hr) rfl (Nat.le_of_ble_eq_true rfl) rfl dX5_cheapest_79 hP hS hl) rfl (fun v8 hv8 => ?_)
        refine y_istore (n := 84) (ls' := [(4, .int v8), (0, .ref (E.2.2.2.2.1 + o)), (1, .int x1), (2, .int x2), (3, .int x3)]) C dX5_cheapest_82 (by decide) rfl rfl ?_
        refine y_iload_n (n := 85) C dX5_cheapest_84 4 rfl rfl ?_
        refine y_if_eq (tgt := 94) (n := 88) C dX5_cheapest_85 (by decide) rfl (fun h9 => ?_) (fun h9 => ?_)
        · refine y_iload_n (n := 95) C dX5_cheapest_94 4 rfl rfl ?_
          refine y_istore_n (n := 96) (ls' := [(1, .int x3), (4, .int v8), (0, .ref (E.2.2.2.2.1 + o)), (2, .int x2), (3, .int x3)]) C dX5_cheapest_95 (by decide) rfl rfl ?_
          refine y_iload (n := 98) C dX5_cheapest_96 1 rfl rfl ?_
          refine y_istore_n (n := 99) (ls' := [(2, .int v8), (1, .int x3), (4, .int v8), (0, .ref (E.2.2.2.2.1 + o)), (3, .int x3)]) C dX5_cheapest_98 (by decide) rfl rfl ?_
          refine y_iinc (n := 102) (v := x3 + 1) (ls' := [(3, .int (x3 + 1)), (2, .int v8), (1, .int x3), (4, .int v8), (0, .ref (E.2.2.2.2.1 + o))]) C dX5_cheapest_99 4 rfl rfl (by decide) rfl rfl ?_
          refine y_goto (tgt := 22) C dX5_cheapest_102 (by decide) ?_
          refine y_ls [4, 2, 1, 0] rfl ?_
          exact ih w7 x3 v8 (x3 + 1)
        · refine y_iload (n := 90) C dX5_cheapest_88 0 rfl rfl ?_
          refine y_iload_n (n := 91) C dX5_cheapest_90 3 rfl rfl ?_
          refine y_icmp_ge (tgt := 99) (n := 94) C dX5_cheapest_91 (by decide) rfl (fun h10 => ?_) (fun h10 => ?_)
          · refine y_iinc (n := 102) (v := x3 + 1) (ls' := [(3, .int (x3 + 1)), (4, .int v8), (0, .ref (E.2.2.2.2.1 + o)), (1, .int x1), (2, .int x2)]) C dX5_cheapest_99 4 rfl rfl (by decide) rfl rfl ?_
            refine y_goto (tgt := 22) C dX5_cheapest_102 (by decide) ?_
            refine y_ls [2, 3, 4, 0] rfl ?_
            exact ih w7 x1 x2 (x3 + 1)
          · refine y_iload_n (n := 95) C dX5_cheapest_94 4 rfl rfl ?_
            refine y_istore_n (n := 96) (ls' := [(1, .int x3), (4, .int v8), (0, .ref (E.2.2.2.2.1 + o)), (2, .int x2), (3, .int x3)]) C dX5_cheapest_95 (by decide) rfl rfl ?_
            refine y_iload (n := 98) C dX5_cheapest_96 1 rfl rfl ?_
            refine y_istore_n (n := 99) (ls' := [(2, .int v8), (1, .int x3), (4, .int v8), (0, .ref (E.2.2.2.2.1 + o)), (3, .int x3)]) C dX5_cheapest_98 (by decide) rfl rfl ?_
            refine y_iinc (n := 102) (v := x3 + 1) (ls' := [(3, .int (x3 + 1)), (2, .int v8), (1, .int x3), (4, .int v8), (0, .ref (E.2.2.2.2.1 + o))]) C dX5_cheapest_99 4 rfl rfl (by decide) rfl rfl ?_
            refine y_goto (tgt := 22) C dX5_cheapest_102 (by decide) ?_
            refine y_ls [4, 2, 1, 0] rfl ?_
            exact ih w7 x3 v8 (x3 + 1)
      · refine y_iconst (n := 50) C (1 : Int32) dX5_cheapest_49 (by decide) rfl ?_
        refine y_goto (tgt := 54) C dX5_cheapest_50 (by decide) ?_
        refine y_cv (n := 57) C (fun r hr H locs la hP hS hl => y_runVN (ci := 2) (st := []) C ky_X2_start wd_303 ⟨Nat.le_of_ble_eq_true rfl, Nat.le_of_ble_eq_true rfl⟩ hO.2.2.2.2.2.1 rfl (mX2_start hO.2.2.2.2.2 hO.2.1.2.1 w (x3 >>> (1 &&& 31)) 1 g.2.1 r hr) rfl (Nat.le_of_ble_eq_true rfl) rfl dX5_cheapest_54 hP hS hl) rfl (fun w11 hw11 => ?_)
        refine y_aload_n (n := 58) C dX5_cheapest_57 0 rfl rfl ?_
        refine y_get (ci := 5) (f := 5) (n := 61) C in_X5 hO.1 rfl (by decide) wd_185 rfl rfl dX5_cheapest_58 rfl ?_
        refine y_aload_n (n := 62) C dX5_cheapest_61 0 rfl rfl ?_
        refine y_get (ci := 5) (f := 0) (n := 65) C in_X5 hO.1 rfl (by decide) wd_180 rfl rfl dX5_cheapest_62 rfl ?_
        refine y_getN (ci := 3) (f := 0) (n := 68) C in_X3 hO.2.1.1 rfl (by decide) wd_124 rfl rfl dX5_cheapest_65 rfl ?_
        refine y_sipush (n := 71) C (240 : Int32) dX5_cheapest_68 (by decide) rfl ?_
        refine y_ci2 (n := 74) C (fun r hr H locs la hP hS hl => y_runVN (ci := 2) (st := []) C ky_X2_goOn wd_383 ⟨Nat.le_of_ble_eq_true rfl, Nat.le_of_ble_eq_true rfl⟩ hO.2.2.2.2.2.1 rfl (mX2_goOn hO.2.2.2.2.2 hO.2.1.2.1 w11 240 g.2.1 r hr) rfl (Nat.le_of_ble_eq_true rfl) rfl dX5_cheapest_71 hP hS hl) rfl (fun v12 w13 hv12 => ?_)
        refine y_pop (n := 75) C dX5_cheapest_74 rfl rfl ?_
        refine y_aload_n (n := 76) C dX5_cheapest_75 0 rfl rfl ?_
        refine y_get (ci := 5) (f := 5) (n := 79) C in_X5 hO.1 rfl (by decide) wd_185 rfl rfl dX5_cheapest_76 rfl ?_
        refine y_cp (n := 82) C (fun r hr H locs la hP hS hl => y_runVN (ci := 2) (st := []) C ky_X2_cost wd_431 ⟨Nat.le_of_ble_eq_true rfl, Nat.le_of_ble_eq_true rfl⟩ hO.2.2.2.2.2.1 rfl (mX2_cost hO.2.2.2.2.2 w13 g.2.1 r hr) rfl (Nat.le_of_ble_eq_true rfl) rfl dX5_cheapest_79 hP hS hl) rfl (fun v14 hv14 => ?_)
        refine y_istore (n := 84) (ls' := [(4, .int v14), (0, .ref (E.2.2.2.2.1 + o)), (1, .int x1), (2, .int x2), (3, .int x3)]) C dX5_cheapest_82 (by decide) rfl rfl ?_
        refine y_iload_n (n := 85) C dX5_cheapest_84 4 rfl rfl ?_
        refine y_if_eq (tgt := 94) (n := 88) C dX5_cheapest_85 (by decide) rfl (fun h15 => ?_) (fun h15 => ?_)
        · refine y_iload_n (n := 95) C dX5_cheapest_94 4 rfl rfl ?_
          refine y_istore_n (n := 96) (ls' := [(1, .int x3), (4, .int v14), (0, .ref (E.2.2.2.2.1 + o)), (2, .int x2), (3, .int x3)]) C dX5_cheapest_95 (by decide) rfl rfl ?_
          refine y_iload (n := 98) C dX5_cheapest_96 1 rfl rfl ?_
          refine y_istore_n (n := 99) (ls' := [(2, .int v14), (1, .int x3), (4, .int v14), (0, .ref (E.2.2.2.2.1 + o)), (3, .int x3)]) C dX5_cheapest_98 (by decide) rfl rfl ?_
          refine y_iinc (n := 102) (v := x3 + 1) (ls' := [(3, .int (x3 + 1)), (2, .int v14), (1, .int x3), (4, .int v14), (0, .ref (E.2.2.2.2.1 + o))]) C dX5_cheapest_99 4 rfl rfl (by decide) rfl rfl ?_
          refine y_goto (tgt := 22) C dX5_cheapest_102 (by decide) ?_
          refine y_ls [4, 2, 1, 0] rfl ?_
          exact ih w13 x3 v14 (x3 + 1)
        · refine y_iload (n := 90) C dX5_cheapest_88 0 rfl rfl ?_
          refine y_iload_n (n := 91) C dX5_cheapest_90 3 rfl rfl ?_
          refine y_icmp_ge (tgt := 99) (n := 94) C dX5_cheapest_91 (by decide) rfl (fun h16 => ?_) (fun h16 => ?_)
          · refine y_iinc (n := 102) (v := x3 + 1) (ls' := [(3, .int (x3 + 1)), (4, .int v14), (0, .ref (E.2.2.2.2.1 + o)), (1, .int x1), (2, .int x2)]) C dX5_cheapest_99 4 rfl rfl (by decide) rfl rfl ?_
            refine y_goto (tgt := 22) C dX5_cheapest_102 (by decide) ?_
            refine y_ls [2, 3, 4, 0] rfl ?_
            exact ih w13 x1 x2 (x3 + 1)
          · refine y_iload_n (n := 95) C dX5_cheapest_94 4 rfl rfl ?_
            refine y_istore_n (n := 96) (ls' := [(1, .int x3), (4, .int v14), (0, .ref (E.2.2.2.2.1 + o)), (2, .int x2), (3, .int x3)]) C dX5_cheapest_95 (by decide) rfl rfl ?_
            refine y_iload (n := 98) C dX5_cheapest_96 1 rfl rfl ?_
            refine y_istore_n (n := 99) (ls' := [(2, .int v14), (1, .int x3), (4, .int v14), (0, .ref (E.2.2.2.2.1 + o)), (3, .int x3)]) C dX5_cheapest_98 (by decide) rfl rfl ?_
            refine y_iinc (n := 102) (v := x3 + 1) (ls' := [(3, .int (x3 + 1)), (2, .int v14), (1, .int x3), (4, .int v14), (0, .ref (E.2.2.2.2.1 + o))]) C dX5_cheapest_99 4 rfl rfl (by decide) rfl rfl ?_
            refine y_goto (tgt := 22) C dX5_cheapest_102 (by decide) ?_
            refine y_ls [4, 2, 1, 0] rfl ?_
            exact ih w13 x3 v14 (x3 + 1)
def fX5_cheapest (w : Wd) (o : Nat)  : Option (Int32 × Wd) :=
  (fX1_questionSize w (o + 1 + 1)).bind fun v1 =>
  if v1 = 0 then
    some ((-4), w)
  else
    lX5_cheapest_22 o 4096 w 0 0 0
set_option maxRecDepth 4000 in
theorem eX5_cheapest {g : Gx} {E : Ex} (C : CC g E cX5_cheapest 5 RX5 6 140) (hR : RT g (some .int)) {o : Nat} (hO : shB E.2.2.2.2.2.1 o) (w : Wd)  : YO g E 5 (QI g E) (fX5_cheapest w o) w 0 [(0, .ref (E.2.2.2.2.1 + o))] [] := by
  unfold fX5_cheapest
  refine y_aload_n (n := 1) C dX5_cheapest_0 0 rfl rfl ?_
  refine y_get (ci := 5) (f := 0) (n := 4) C in_X5 hO.1 rfl (by decide) wd_180 rfl rfl dX5_cheapest_1 rfl ?_
  refine y_getN (ci := 3) (f := 0) (n := 7) C in_X3 hO.2.1.1 rfl (by decide) wd_124 rfl rfl dX5_cheapest_4 rfl ?_
  refine y_cp (n := 10) C (fun r hr H locs la hP hS hl => y_runVN (ci := 1) (st := []) C ky_X1_questionSize wd_295 ⟨Nat.le_of_ble_eq_true rfl, Nat.le_of_ble_eq_true rfl⟩ hO.2.1.2.1.1 rfl (mX1_questionSize hO.2.1.2.1 w g.2.1 r hr) rfl (Nat.le_of_ble_eq_true rfl) rfl dX5_cheapest_7 hP hS hl) rfl (fun v1 hv1 => ?_)
  refine y_if_ne (tgt := 16) (n := 13) C dX5_cheapest_10 (by decide) rfl (fun h2 => ?_) (fun h2 => ?_)
  · refine y_iconst (n := 17) C (0 : Int32) dX5_cheapest_16 (by decide) rfl ?_
    refine y_istore_n (n := 18) (ls' := [(1, .int 0), (0, .ref (E.2.2.2.2.1 + o))]) C dX5_cheapest_17 (by decide) rfl rfl ?_
    refine y_iconst (n := 19) C (0 : Int32) dX5_cheapest_18 (by decide) rfl ?_
    refine y_istore_n (n := 20) (ls' := [(2, .int 0), (1, .int 0), (0, .ref (E.2.2.2.2.1 + o))]) C dX5_cheapest_19 (by decide) rfl rfl ?_
    refine y_iconst (n := 21) C (0 : Int32) dX5_cheapest_20 (by decide) rfl ?_
    refine y_istore_n (n := 22) (ls' := [(3, .int 0), (2, .int 0), (1, .int 0), (0, .ref (E.2.2.2.2.1 + o))]) C dX5_cheapest_21 (by decide) rfl rfl ?_
    refine y_ls [3, 2, 1, 0] rfl ?_
    exact clX5_cheapest_22 C hR hO 4096 w 0 0 0
  · refine y_bipush (n := 15) C ((-4) : Int32) dX5_cheapest_13 (by decide) rfl ?_
    exact y_ri C hR dX5_cheapest_15
theorem mX5_cheapest {E : Ex} {o : Nat} (hO : shB E.2.2.2.2.2.1 o) (w : Wd)  (l : Launch) : MI l yX5_cheapest cX5_cheapest 5 (some .int) { frames := 6, cells := 0, slots := 0, locals := 140 } E [.ref (E.2.2.2.2.1 + o)] w (fX5_cheapest w o) :=
  y_met (Qc := yQi E) (by decide +kernel) (Nat.le_of_ble_eq_true rfl) (fun g C hR => eX5_cheapest C hR hO w ) l
def fX5_count (w : Wd) (o : Nat) (a1 : Int32) : Option (Int32) :=
  if a1 = 0 then
    (fX1_entries w (o + 1 + 1)).bind fun v2 =>
    some v2
  else
  if a1 = 1 then
    (fX1_questionSize w (o + 1 + 1)).bind fun v4 =>
    some v4
  else
  if a1 = 2 then
    some (w.1 (o + 1 + 1) 6)
  else
  if a1 = 3 then
    (fJ13_bitCount_95d88 w (w.2.1 (o + 1 + 1))).bind fun v7 =>
    some v7
  else
  if a1 = 4 then
    (fX1_wantedSize w (o + 1 + 1)).bind fun v9 =>
    some v9
  else
  if a1 = 5 then
    (fX5_oneIf w (bz (w.1 (o + 1 + 7) 0))).bind fun v11 =>
    some v11
  else
  if a1 = 6 then
    some (w.1 (o + 1) 2)
  else
  if a1 = 7 then
    some (w.1 (o + 1) 3)
  else
  if a1 = 8 then
    some (w.1 (o + 17) 1)
  else
  if a1 = 9 then
    some (w.1 (o + 99) 1)
  else
  some (-2)
set_option maxRecDepth 4000 in
theorem eX5_count {g : Gx} {E : Ex} (C : CC g E cX5_count 2 RX5 5 109) (hR : RT g (some .int)) {o : Nat} (hO : shB E.2.2.2.2.2.1 o) (w : Wd) (a1 : Int32) : YO g E 2 (QP g E w) (fX5_count w o a1) w 0 [(0, .ref (E.2.2.2.2.1 + o)), (1, .int a1)] [] := by
  unfold fX5_count
  refine y_iload_n (n := 1) C dX5_count_0 1 rfl rfl ?_
  refine y_if (fun h1 => ?_) (fun h1 => ?_)
  · refine y_swIn (tgt := 56) C 55 dX5_count_1 (by rw [h1]; decide) (by rw [h1]; decide) (by rw [h1]; rfl) (by decide) ?_
    refine y_aload_n (n := 57) C dX5_count_56 0 rfl rfl ?_
    refine y_get (ci := 5) (f := 0) (n := 60) C in_X5 hO.1 rfl (by decide) wd_180 rfl rfl dX5_count_57 rfl ?_
    refine y_getN (ci := 3) (f := 0) (n := 63) C in_X3 hO.2.1.1 rfl (by decide) wd_124 rfl rfl dX5_count_60 rfl ?_
    refine y_cp (n := 66) C (fun r hr H locs la hP hS hl => y_runVN (ci := 1) (st := []) C ky_X1_entries wd_443 ⟨Nat.le_of_ble_eq_true rfl, Nat.le_of_ble_eq_true rfl⟩ hO.2.1.2.1.1 rfl (mX1_entries hO.2.1.2.1 w g.2.1 r hr) rfl (Nat.le_of_ble_eq_true rfl) rfl dX5_count_63 hP hS hl) rfl (fun v2 hv2 => ?_)
    exact y_rp C hR dX5_count_66
  refine y_if (fun h3 => ?_) (fun h3 => ?_)
  · refine y_swIn (tgt := 67) C 66 dX5_count_1 (by rw [h3]; decide) (by rw [h3]; decide) (by rw [h3]; rfl) (by decide) ?_
    refine y_aload_n (n := 68) C dX5_count_67 0 rfl rfl ?_
    refine y_get (ci := 5) (f := 0) (n := 71) C in_X5 hO.1 rfl (by decide) wd_180 rfl rfl dX5_count_68 rfl ?_
    refine y_getN (ci := 3) (f := 0) (n := 74) C in_X3 hO.2.1.1 rfl (by decide) wd_124 rfl rfl dX5_count_71 rfl ?_
    refine y_cp (n := 77) C (fun r hr H locs la hP hS hl => y_runVN (ci := 1) (st := []) C ky_X1_questionSize wd_295 ⟨Nat.le_of_ble_eq_true rfl, Nat.le_of_ble_eq_true rfl⟩ hO.2.1.2.1.1 rfl (mX1_questionSize hO.2.1.2.1 w g.2.1 r hr) rfl (Nat.le_of_ble_eq_true rfl) rfl dX5_count_74 hP hS hl) rfl (fun v4 hv4 => ?_)
    exact y_rp C hR dX5_count_77
  refine y_if (fun h5 => ?_) (fun h5 => ?_)
  · refine y_swIn (tgt := 78) C 77 dX5_count_1 (by rw [h5]; decide) (by rw [h5]; decide) (by rw [h5]; rfl) (by decide) ?_
    refine y_aload_n (n := 79) C dX5_count_78 0 rfl rfl ?_
    refine y_get (ci := 5) (f := 0) (n := 82) C in_X5 hO.1 rfl (by decide) wd_180 rfl rfl dX5_count_79 rfl ?_
    refine y_getN (ci := 3) (f := 0) (n := 85) C in_X3 hO.2.1.1 rfl (by decide) wd_124 rfl rfl dX5_count_82 rfl ?_
    refine y_getN (ci := 1) (f := 6) (n := 88) C in_X1 hO.2.1.2.1.1 rfl (by decide) wd_43 rfl rfl dX5_count_85 rfl ?_
    exact y_rp C hR dX5_count_88
  refine y_if (fun h6 => ?_) (fun h6 => ?_)
  · refine y_swIn (tgt := 89) C 88 dX5_count_1 (by rw [h6]; decide) (by rw [h6]; decide) (by rw [h6]; rfl) (by decide) ?_
    refine y_aload_n (n := 90) C dX5_count_89 0 rfl rfl ?_
    refine y_get (ci := 5) (f := 0) (n := 93) C in_X5 hO.1 rfl (by decide) wd_180 rfl rfl dX5_count_90 rfl ?_
    refine y_getN (ci := 3) (f := 0) (n := 96) C in_X3 hO.2.1.1 rfl (by decide) wd_124 rfl rfl dX5_count_93 rfl ?_
    refine y_getN (ci := 1) (f := 5) (n := 99) C in_X1 hO.2.1.2.1.1 rfl (by decide) wd_41 rfl rfl dX5_count_96 rfl ?_
    refine y_cp (n := 102) C (fun r hr H locs la hP hS hl => y_runS (st := []) C ky_J13_bitCount_95d88 wd_447 ⟨Nat.le_of_ble_eq_true rfl, Nat.le_of_ble_eq_true rfl⟩ (mJ13_bitCount_95d88 w (w.2.1 (o + 1 + 1)) g.2.1 r hr) rfl (Nat.le_of_ble_eq_true rfl) rfl dX5_count_99 hP hS hl) rfl (fun v7 hv7 => ?_)
    exact y_rp C hR dX5_count_102
  refine y_if (fun h8 => ?_) (fun h8 => ?_)
  · refine y_swIn (tgt := 103) C 102 dX5_count_1 (by rw [h8]; decide) (by rw [h8]; decide) (by rw [h8]; rfl) (by decide) ?_
    refine y_aload_n (n := 104) C dX5_count_103 0 rfl rfl ?_
    refine y_get (ci := 5) (f := 0) (n := 107) C in_X5 hO.1 rfl (by decide) wd_180 rfl rfl dX5_count_104 rfl ?_
    refine y_getN (ci := 3) (f := 0) (n := 110) C in_X3 hO.2.1.1 rfl (by decide) wd_124 rfl rfl dX5_count_107 rfl ?_
    refine y_cp (n := 113) C (fun r hr H locs la hP hS hl => y_runVN (ci := 1) (st := []) C ky_X1_wantedSize wd_453 ⟨Nat.le_of_ble_eq_true rfl, Nat.le_of_ble_eq_true rfl⟩ hO.2.1.2.1.1 rfl (mX1_wantedSize hO.2.1.2.1 w g.2.1 r hr) rfl (Nat.le_of_ble_eq_true rfl) rfl dX5_count_110 hP hS hl) rfl (fun v9 hv9 => ?_)
    exact y_rp C hR dX5_count_113
  refine y_if (fun h10 => ?_) (fun h10 => ?_)
  · refine y_swIn (tgt := 114) C 113 dX5_count_1 (by rw [h10]; decide) (by rw [h10]; decide) (by rw [h10]; rfl) (by decide) ?_
    refine y_aload_n (n := 115) C dX5_count_114 0 rfl rfl ?_
    refine y_get (ci := 5) (f := 0) (n := 118) C in_X5 hO.1 rfl (by decide) wd_180 rfl rfl dX5_count_115 rfl ?_
    refine y_getN (ci := 3) (f := 1) (n := 121) C in_X3 hO.2.1.1 rfl (by decide) wd_126 rfl rfl dX5_count_118 rfl ?_
    refine y_getN (ci := 2) (f := 0) (n := 124) C in_X2 hO.2.1.2.2.1 rfl (by decide) wd_68 rfl rfl dX5_count_121 rfl ?_
    refine y_cp (n := 127) C (fun r hr H locs la hP hS hl => y_runS (st := []) C ky_X5_oneIf wd_360 ⟨Nat.le_of_ble_eq_true rfl, Nat.le_of_ble_eq_true rfl⟩ (mX5_oneIf w (bz (w.1 (o + 1 + 7) 0)) g.2.1 r hr) rfl (Nat.le_of_ble_eq_true rfl) rfl dX5_count_124 hP hS hl) rfl (fun v11 hv11 => ?_)
    exact y_rp C hR dX5_count_127
  refine y_if (fun h12 => ?_) (fun h12 => ?_)
  · refine y_swIn (tgt := 128) C 127 dX5_count_1 (by rw [h12]; decide) (by rw [h12]; decide) (by rw [h12]; rfl) (by decide) ?_
    refine y_aload_n (n := 129) C dX5_count_128 0 rfl rfl ?_
    refine y_get (ci := 5) (f := 0) (n := 132) C in_X5 hO.1 rfl (by decide) wd_180 rfl rfl dX5_count_129 rfl ?_
    refine y_getN (ci := 3) (f := 2) (n := 135) C in_X3 hO.2.1.1 rfl (by decide) wd_128 rfl rfl dX5_count_132 rfl ?_
    exact y_rp C hR dX5_count_135
  refine y_if (fun h13 => ?_) (fun h13 => ?_)
  · refine y_swIn (tgt := 136) C 135 dX5_count_1 (by rw [h13]; decide) (by rw [h13]; decide) (by rw [h13]; rfl) (by decide) ?_
    refine y_aload_n (n := 137) C dX5_count_136 0 rfl rfl ?_
    refine y_get (ci := 5) (f := 0) (n := 140) C in_X5 hO.1 rfl (by decide) wd_180 rfl rfl dX5_count_137 rfl ?_
    refine y_getN (ci := 3) (f := 3) (n := 143) C in_X3 hO.2.1.1 rfl (by decide) wd_130 rfl rfl dX5_count_140 rfl ?_
    exact y_rp C hR dX5_count_143
  refine y_if (fun h14 => ?_) (fun h14 => ?_)
  · refine y_swIn (tgt := 144) C 143 dX5_count_1 (by rw [h14]; decide) (by rw [h14]; decide) (by rw [h14]; rfl) (by decide) ?_
    refine y_aload_n (n := 145) C dX5_count_144 0 rfl rfl ?_
    refine y_get (ci := 5) (f := 1) (n := 148) C in_X5 hO.1 rfl (by decide) wd_181 rfl rfl dX5_count_145 rfl ?_
    refine y_getN (ci := 0) (f := 1) (n := 151) C in_X0 hO.2.2.1.1 rfl (by decide) wd_151 rfl rfl dX5_count_148 rfl ?_
    exact y_rp C hR dX5_count_151
  refine y_if (fun h15 => ?_) (fun h15 => ?_)
  · refine y_swIn (tgt := 152) C 151 dX5_count_1 (by rw [h15]; decide) (by rw [h15]; decide) (by rw [h15]; rfl) (by decide) ?_
    refine y_aload_n (n := 153) C dX5_count_152 0 rfl rfl ?_
    refine y_get (ci := 5) (f := 4) (n := 156) C in_X5 hO.1 rfl (by decide) wd_184 rfl rfl dX5_count_153 rfl ?_
    refine y_getN (ci := 4) (f := 1) (n := 159) C in_X4 hO.2.2.2.2.1.1 rfl (by decide) wd_165 rfl rfl dX5_count_156 rfl ?_
    exact y_rp C hR dX5_count_159
  refine y_swOut (tgt := 160) C dX5_count_1 (by have gh1 := sw_ne (k := 0) (by decide) h1; have gh3 := sw_ne (k := 1) (by decide) h3; have gh5 := sw_ne (k := 2) (by decide) h5; have gh6 := sw_ne (k := 3) (by decide) h6; have gh8 := sw_ne (k := 4) (by decide) h8; have gh10 := sw_ne (k := 5) (by decide) h10; have gh12 := sw_ne (k := 6) (by decide) h12; have gh13 := sw_ne (k := 7) (by decide) h13; have gh14 := sw_ne (k := 8) (by decide) h14; have gh15 := sw_ne (k := 9) (by decide) h15; omega) (by decide) ?_
  refine y_bipush (n := 162) C ((-2) : Int32) dX5_count_160 (by decide) rfl ?_
  exact y_rp C hR dX5_count_162
theorem mX5_count {E : Ex} {o : Nat} (hO : shB E.2.2.2.2.2.1 o) (w : Wd) (a1 : Int32) (l : Launch) : MP l yX5_count cX5_count 2 (some .int) { frames := 5, cells := 0, slots := 0, locals := 109 } E [.ref (E.2.2.2.2.1 + o), .int a1] w (fX5_count w o a1) :=
  y_met (Qc := fun r => yQi E (r, w)) (by decide +kernel) (Nat.le_of_ble_eq_true rfl) (fun g C hR => eX5_count C hR hO w a1) l
def fX5_setDeleted (y : Ly) (w : Wd) (o : Nat) (a1 : Int32) (a2 : Int32) : Option (Int32 × Wd) :=
  (fX5_isDocument w a1).bind fun v1 =>
  if v1 = 0 then
    some ((-1), w)
  else
    if (bz (w.1 (o + 1 + 7) 0)) = 0 then
      (fX1_isDeleted w (o + 1 + 1) a1).bind fun v4 =>
      if v4 = a2 then
        some ((-5), w)
      else
        (fX0_record y w (o + 17) (o + 1)).bind fun w6 =>
        (pL w6 (o + 1 + 1) ((w6.2.1 (o + 1 + 1)) ^^^ (1 <<< (Int32.toInt64 a1 &&& 63)))).bind fun w7 =>
        (fX1_listsWith w7 (o + 1 + 1) a1).bind fun v8 =>
        (fJ6_bitCount_0f7a4 w7 v8).bind fun v9 =>
        some (v9, w7)
    else
      some ((-4), w)
set_option maxRecDepth 4000 in
theorem eX5_setDeleted {g : Gx} {E : Ex} (C : CC g E cX5_setDeleted 3 RX5 5 133) (hR : RT g (some .int)) {o : Nat} (hO : shB E.2.2.2.2.2.1 o) (w : Wd) (a1 : Int32) (a2 : Int32) : YO g E 3 (QI g E) (fX5_setDeleted E.2.2.2.2.2.1 w o a1 a2) w 0 [(0, .ref (E.2.2.2.2.1 + o)), (1, .int a1), (2, .int a2)] [] := by
  unfold fX5_setDeleted
  refine y_iload_n (n := 1) C dX5_setDeleted_0 1 rfl rfl ?_
  refine y_cp (n := 4) C (fun r hr H locs la hP hS hl => y_runS (st := []) C ky_X5_isDocument wd_207 ⟨Nat.le_of_ble_eq_true rfl, Nat.le_of_ble_eq_true rfl⟩ (mX5_isDocument w a1 g.2.1 r hr) rfl (Nat.le_of_ble_eq_true rfl) rfl dX5_setDeleted_1 hP hS hl) rfl (fun v1 hv1 => ?_)
  refine y_if_ne (tgt := 9) (n := 7) C dX5_setDeleted_4 (by decide) rfl (fun h2 => ?_) (fun h2 => ?_)
  · refine y_aload_n (n := 10) C dX5_setDeleted_9 0 rfl rfl ?_
    refine y_get (ci := 5) (f := 0) (n := 13) C in_X5 hO.1 rfl (by decide) wd_180 rfl rfl dX5_setDeleted_10 rfl ?_
    refine y_getN (ci := 3) (f := 1) (n := 16) C in_X3 hO.2.1.1 rfl (by decide) wd_126 rfl rfl dX5_setDeleted_13 rfl ?_
    refine y_getN (ci := 2) (f := 0) (n := 19) C in_X2 hO.2.1.2.2.1 rfl (by decide) wd_68 rfl rfl dX5_setDeleted_16 rfl ?_
    refine y_if_eq (tgt := 25) (n := 22) C dX5_setDeleted_19 (by decide) rfl (fun h3 => ?_) (fun h3 => ?_)
    · refine y_aload_n (n := 26) C dX5_setDeleted_25 0 rfl rfl ?_
      refine y_get (ci := 5) (f := 0) (n := 29) C in_X5 hO.1 rfl (by decide) wd_180 rfl rfl dX5_setDeleted_26 rfl ?_
      refine y_getN (ci := 3) (f := 0) (n := 32) C in_X3 hO.2.1.1 rfl (by decide) wd_124 rfl rfl dX5_setDeleted_29 rfl ?_
      refine y_iload_n (n := 33) C dX5_setDeleted_32 1 rfl rfl ?_
      refine y_cp (n := 36) C (fun r hr H locs la hP hS hl => y_runVN (ci := 1) (st := []) C ky_X1_isDeleted wd_210 ⟨Nat.le_of_ble_eq_true rfl, Nat.le_of_ble_eq_true rfl⟩ hO.2.1.2.1.1 rfl (mX1_isDeleted hO.2.1.2.1 w a1 g.2.1 r hr) rfl (Nat.le_of_ble_eq_true rfl) rfl dX5_setDeleted_33 hP hS hl) rfl (fun v4 hv4 => ?_)
      refine y_iload_n (n := 37) C dX5_setDeleted_36 2 rfl rfl ?_
      refine y_icmp_ne (tgt := 43) (n := 40) C dX5_setDeleted_37 (by decide) rfl (fun h5 => ?_) (fun h5 => ?_)
      · refine y_aload_n (n := 44) C dX5_setDeleted_43 0 rfl rfl ?_
        refine y_get (ci := 5) (f := 1) (n := 47) C in_X5 hO.1 rfl (by decide) wd_181 rfl rfl dX5_setDeleted_44 rfl ?_
        refine y_aload_n (n := 48) C dX5_setDeleted_47 0 rfl rfl ?_
        refine y_get (ci := 5) (f := 0) (n := 51) C in_X5 hO.1 rfl (by decide) wd_180 rfl rfl dX5_setDeleted_48 rfl ?_
        refine y_cv (n := 54) C (fun r hr H locs la hP hS hl => y_runVN (ci := 0) (st := []) C ky_X0_record wd_214 ⟨Nat.le_of_ble_eq_true rfl, Nat.le_of_ble_eq_true rfl⟩ hO.2.2.1.1 rfl (mX0_record hO.2.2.1 hO.2.1 w g.2.1 r hr) rfl (Nat.le_of_ble_eq_true rfl) rfl dX5_setDeleted_51 hP hS hl) rfl (fun w6 hw6 => ?_)
        refine y_aload_n (n := 55) C dX5_setDeleted_54 0 rfl rfl ?_
        refine y_get (ci := 5) (f := 0) (n := 58) C in_X5 hO.1 rfl (by decide) wd_180 rfl rfl dX5_setDeleted_55 rfl ?_
        refine y_getN (ci := 3) (f := 0) (n := 61) C in_X3 hO.2.1.1 rfl (by decide) wd_124 rfl rfl dX5_setDeleted_58 rfl ?_
        refine y_dup (n := 62) C dX5_setDeleted_61 rfl rfl ?_
        refine y_getN (ci := 1) (f := 5) (n := 65) C in_X1 hO.2.1.2.1.1 rfl (by decide) wd_41 rfl rfl dX5_setDeleted_62 rfl ?_
        refine y_lconst (n := 66) C (1 : Int64) dX5_setDeleted_65 (by decide) rfl ?_
        refine y_iload_n (n := 67) C dX5_setDeleted_66 1 rfl rfl ?_
        refine y_lshl (n := 68) C dX5_setDeleted_67 rfl ?_
        refine y_lxor (n := 69) C dX5_setDeleted_68 rfl ?_
        refine y_putLN (ci := 1) (f := 5) (n := 72) C in_X1 tyX1 tyX1_ok nmX1 hO.2.1.2.1.1 rfl (by decide) wd_41 rfl rfl (by decide +kernel) (Nat.le_of_ble_eq_true rfl) st_X1_5 dX5_setDeleted_69 rfl (fun w7 hw7 => ?_)
        refine y_aload_n (n := 73) C dX5_setDeleted_72 0 rfl rfl ?_
        refine y_get (ci := 5) (f := 0) (n := 76) C in_X5 hO.1 rfl (by decide) wd_180 rfl rfl dX5_setDeleted_73 rfl ?_
        refine y_getN (ci := 3) (f := 0) (n := 79) C in_X3 hO.2.1.1 rfl (by decide) wd_124 rfl rfl dX5_setDeleted_76 rfl ?_
        refine y_iload_n (n := 80) C dX5_setDeleted_79 1 rfl rfl ?_
        refine y_cp (n := 83) C (fun r hr H locs la hP hS hl => y_runVN (ci := 1) (st := []) C ky_X1_listsWith wd_248 ⟨Nat.le_of_ble_eq_true rfl, Nat.le_of_ble_eq_true rfl⟩ hO.2.1.2.1.1 rfl (mX1_listsWith hO.2.1.2.1 w7 a1 g.2.1 r hr) rfl (Nat.le_of_ble_eq_true rfl) rfl dX5_setDeleted_80 hP hS hl) rfl (fun v8 hv8 => ?_)
        refine y_cp (n := 86) C (fun r hr H locs la hP hS hl => y_runS (st := []) C ky_J6_bitCount_0f7a4 wd_263 ⟨Nat.le_of_ble_eq_true rfl, Nat.le_of_ble_eq_true rfl⟩ (mJ6_bitCount_0f7a4 w7 v8 g.2.1 r hr) rfl (Nat.le_of_ble_eq_true rfl) rfl dX5_setDeleted_83 hP hS hl) rfl (fun v9 hv9 => ?_)
        exact y_ri C hR dX5_setDeleted_86
      · refine y_bipush (n := 42) C ((-5) : Int32) dX5_setDeleted_40 (by decide) rfl ?_
        exact y_ri C hR dX5_setDeleted_42
    · refine y_bipush (n := 24) C ((-4) : Int32) dX5_setDeleted_22 (by decide) rfl ?_
      exact y_ri C hR dX5_setDeleted_24
  · refine y_iconst (n := 8) C ((-1) : Int32) dX5_setDeleted_7 (by decide) rfl ?_
    exact y_ri C hR dX5_setDeleted_8
theorem mX5_setDeleted {E : Ex} {o : Nat} (hO : shB E.2.2.2.2.2.1 o) (w : Wd) (a1 : Int32) (a2 : Int32) (l : Launch) : MI l yX5_setDeleted cX5_setDeleted 3 (some .int) { frames := 5, cells := 0, slots := 0, locals := 133 } E [.ref (E.2.2.2.2.1 + o), .int a1, .int a2] w (fX5_setDeleted E.2.2.2.2.2.1 w o a1 a2) :=
  y_met (Qc := yQi E) (by decide +kernel) (Nat.le_of_ble_eq_true rfl) (fun g C hR => eX5_setDeleted C hR hO w a1 a2) l
def fX5_delete (y : Ly) (w : Wd) (o : Nat) (a1 : Int32) : Option (Int32 × Wd) :=
  ob2 (fX5_setDeleted y w o a1 1) fun v1 w2 =>
  some (v1, w2)
set_option maxRecDepth 4000 in
theorem eX5_delete {g : Gx} {E : Ex} (C : CC g E cX5_delete 2 RX5 6 155) (hR : RT g (some .int)) {o : Nat} (hO : shB E.2.2.2.2.2.1 o) (w : Wd) (a1 : Int32) : YO g E 2 (QI g E) (fX5_delete E.2.2.2.2.2.1 w o a1) w 0 [(0, .ref (E.2.2.2.2.1 + o)), (1, .int a1)] [] := by
  unfold fX5_delete
  refine y_aload_n (n := 1) C dX5_delete_0 0 rfl rfl ?_
  refine y_iload_n (n := 2) C dX5_delete_1 1 rfl rfl ?_
  refine y_iconst (n := 3) C (1 : Int32) dX5_delete_2 (by decide) rfl ?_
  refine y_ci2 (n := 6) C (fun r hr H locs la hP hS hl => y_runV (ci := 5) (st := []) C ky_X5_setDeleted wd_203 ⟨Nat.le_of_ble_eq_true rfl, Nat.le_of_ble_eq_true rfl⟩ hO.1 rfl (mX5_setDeleted hO w a1 1 g.2.1 r hr) rfl (Nat.le_of_ble_eq_true rfl) rfl dX5_delete_3 hP hS hl) rfl (fun v1 w2 hv1 => ?_)
  exact y_ri C hR dX5_delete_6
theorem mX5_delete {E : Ex} {o : Nat} (hO : shB E.2.2.2.2.2.1 o) (w : Wd) (a1 : Int32) (l : Launch) : MI l yX5_delete cX5_delete 2 (some .int) { frames := 6, cells := 0, slots := 0, locals := 155 } E [.ref (E.2.2.2.2.1 + o), .int a1] w (fX5_delete E.2.2.2.2.2.1 w o a1) :=
  y_met (Qc := yQi E) (by decide +kernel) (Nat.le_of_ble_eq_true rfl) (fun g C hR => eX5_delete C hR hO w a1) l
def fX5_document (w : Wd) (o : Nat) (a1 : Int32) (a2 : Int32) : Option (Int32) :=
  (fX5_isDocument w a1).bind fun v1 =>
  if v1 = 0 then
    some (-1)
  else
    if a2 = 0 then
      (fX1_isDeleted w (o + 1 + 1) a1).bind fun v4 =>
      (fX5_oneIf w v4).bind fun v5 =>
      some v5
    else
    if a2 = 1 then
      (fX1_valueOf w (o + 1 + 1) a1).bind fun v7 =>
      some v7
    else
    if a2 = 2 then
      (fX1_listsWith w (o + 1 + 1) a1).bind fun v9 =>
      some v9
    else
    if a2 = 3 then
      (fX1_wantedPlaceOf w (o + 1 + 1) a1).bind fun v11 =>
      some v11
    else
    some (-2)
set_option maxRecDepth 4000 in
theorem eX5_document {g : Gx} {E : Ex} (C : CC g E cX5_document 3 RX5 5 112) (hR : RT g (some .int)) {o : Nat} (hO : shB E.2.2.2.2.2.1 o) (w : Wd) (a1 : Int32) (a2 : Int32) : YO g E 3 (QP g E w) (fX5_document w o a1 a2) w 0 [(0, .ref (E.2.2.2.2.1 + o)), (1, .int a1), (2, .int a2)] [] := by
  unfold fX5_document
  refine y_iload_n (n := 1) C dX5_document_0 1 rfl rfl ?_
  refine y_cp (n := 4) C (fun r hr H locs la hP hS hl => y_runS (st := []) C ky_X5_isDocument wd_207 ⟨Nat.le_of_ble_eq_true rfl, Nat.le_of_ble_eq_true rfl⟩ (mX5_isDocument w a1 g.2.1 r hr) rfl (Nat.le_of_ble_eq_true rfl) rfl dX5_document_1 hP hS hl) rfl (fun v1 hv1 => ?_)
  refine y_if_ne (tgt := 9) (n := 7) C dX5_document_4 (by decide) rfl (fun h2 => ?_) (fun h2 => ?_)
  · refine y_iload_n (n := 10) C dX5_document_9 2 rfl rfl ?_
    refine y_if (fun h3 => ?_) (fun h3 => ?_)
    · refine y_swIn (tgt := 40) C 30 dX5_document_10 (by rw [h3]; decide) (by rw [h3]; decide) (by rw [h3]; rfl) (by decide) ?_
      refine y_aload_n (n := 41) C dX5_document_40 0 rfl rfl ?_
      refine y_get (ci := 5) (f := 0) (n := 44) C in_X5 hO.1 rfl (by decide) wd_180 rfl rfl dX5_document_41 rfl ?_
      refine y_getN (ci := 3) (f := 0) (n := 47) C in_X3 hO.2.1.1 rfl (by decide) wd_124 rfl rfl dX5_document_44 rfl ?_
      refine y_iload_n (n := 48) C dX5_document_47 1 rfl rfl ?_
      refine y_cp (n := 51) C (fun r hr H locs la hP hS hl => y_runVN (ci := 1) (st := []) C ky_X1_isDeleted wd_210 ⟨Nat.le_of_ble_eq_true rfl, Nat.le_of_ble_eq_true rfl⟩ hO.2.1.2.1.1 rfl (mX1_isDeleted hO.2.1.2.1 w a1 g.2.1 r hr) rfl (Nat.le_of_ble_eq_true rfl) rfl dX5_document_48 hP hS hl) rfl (fun v4 hv4 => ?_)
      refine y_cp (n := 54) C (fun r hr H locs la hP hS hl => y_runS (st := []) C ky_X5_oneIf wd_360 ⟨Nat.le_of_ble_eq_true rfl, Nat.le_of_ble_eq_true rfl⟩ (mX5_oneIf w v4 g.2.1 r hr) rfl (Nat.le_of_ble_eq_true rfl) rfl dX5_document_51 hP hS hl) rfl (fun v5 hv5 => ?_)
      exact y_rp C hR dX5_document_54
    refine y_if (fun h6 => ?_) (fun h6 => ?_)
    · refine y_swIn (tgt := 55) C 45 dX5_document_10 (by rw [h6]; decide) (by rw [h6]; decide) (by rw [h6]; rfl) (by decide) ?_
      refine y_aload_n (n := 56) C dX5_document_55 0 rfl rfl ?_
      refine y_get (ci := 5) (f := 0) (n := 59) C in_X5 hO.1 rfl (by decide) wd_180 rfl rfl dX5_document_56 rfl ?_
      refine y_getN (ci := 3) (f := 0) (n := 62) C in_X3 hO.2.1.1 rfl (by decide) wd_124 rfl rfl dX5_document_59 rfl ?_
      refine y_iload_n (n := 63) C dX5_document_62 1 rfl rfl ?_
      refine y_cp (n := 66) C (fun r hr H locs la hP hS hl => y_runVN (ci := 1) (st := []) C ky_X1_valueOf wd_365 ⟨Nat.le_of_ble_eq_true rfl, Nat.le_of_ble_eq_true rfl⟩ hO.2.1.2.1.1 rfl (mX1_valueOf hO.2.1.2.1 w a1 g.2.1 r hr) rfl (Nat.le_of_ble_eq_true rfl) rfl dX5_document_63 hP hS hl) rfl (fun v7 hv7 => ?_)
      exact y_rp C hR dX5_document_66
    refine y_if (fun h8 => ?_) (fun h8 => ?_)
    · refine y_swIn (tgt := 67) C 57 dX5_document_10 (by rw [h8]; decide) (by rw [h8]; decide) (by rw [h8]; rfl) (by decide) ?_
      refine y_aload_n (n := 68) C dX5_document_67 0 rfl rfl ?_
      refine y_get (ci := 5) (f := 0) (n := 71) C in_X5 hO.1 rfl (by decide) wd_180 rfl rfl dX5_document_68 rfl ?_
      refine y_getN (ci := 3) (f := 0) (n := 74) C in_X3 hO.2.1.1 rfl (by decide) wd_124 rfl rfl dX5_document_71 rfl ?_
      refine y_iload_n (n := 75) C dX5_document_74 1 rfl rfl ?_
      refine y_cp (n := 78) C (fun r hr H locs la hP hS hl => y_runVN (ci := 1) (st := []) C ky_X1_listsWith wd_248 ⟨Nat.le_of_ble_eq_true rfl, Nat.le_of_ble_eq_true rfl⟩ hO.2.1.2.1.1 rfl (mX1_listsWith hO.2.1.2.1 w a1 g.2.1 r hr) rfl (Nat.le_of_ble_eq_true rfl) rfl dX5_document_75 hP hS hl) rfl (fun v9 hv9 => ?_)
      exact y_rp C hR dX5_document_78
    refine y_if (fun h10 => ?_) (fun h10 => ?_)
    · refine y_swIn (tgt := 79) C 69 dX5_document_10 (by rw [h10]; decide) (by rw [h10]; decide) (by rw [h10]; rfl) (by decide) ?_
      refine y_aload_n (n := 80) C dX5_document_79 0 rfl rfl ?_
      refine y_get (ci := 5) (f := 0) (n := 83) C in_X5 hO.1 rfl (by decide) wd_180 rfl rfl dX5_document_80 rfl ?_
      refine y_getN (ci := 3) (f := 0) (n := 86) C in_X3 hO.2.1.1 rfl (by decide) wd_124 rfl rfl dX5_document_83 rfl ?_
      refine y_iload_n (n := 87) C dX5_document_86 1 rfl rfl ?_
      refine y_cp (n := 90) C (fun r hr H locs la hP hS hl => y_runVN (ci := 1) (st := []) C ky_X1_wantedPlaceOf wd_369 ⟨Nat.le_of_ble_eq_true rfl, Nat.le_of_ble_eq_true rfl⟩ hO.2.1.2.1.1 rfl (mX1_wantedPlaceOf hO.2.1.2.1 w a1 g.2.1 r hr) rfl (Nat.le_of_ble_eq_true rfl) rfl dX5_document_87 hP hS hl) rfl (fun v11 hv11 => ?_)
      exact y_rp C hR dX5_document_90
    refine y_swOut (tgt := 91) C dX5_document_10 (by have gh3 := sw_ne (k := 0) (by decide) h3; have gh6 := sw_ne (k := 1) (by decide) h6; have gh8 := sw_ne (k := 2) (by decide) h8; have gh10 := sw_ne (k := 3) (by decide) h10; omega) (by decide) ?_
    refine y_bipush (n := 93) C ((-2) : Int32) dX5_document_91 (by decide) rfl ?_
    exact y_rp C hR dX5_document_93
  · refine y_iconst (n := 8) C ((-1) : Int32) dX5_document_7 (by decide) rfl ?_
    exact y_rp C hR dX5_document_8
theorem mX5_document {E : Ex} {o : Nat} (hO : shB E.2.2.2.2.2.1 o) (w : Wd) (a1 : Int32) (a2 : Int32) (l : Launch) : MP l yX5_document cX5_document 3 (some .int) { frames := 5, cells := 0, slots := 0, locals := 112 } E [.ref (E.2.2.2.2.1 + o), .int a1, .int a2] w (fX5_document w o a1 a2) :=
  y_met (Qc := fun r => yQi E (r, w)) (by decide +kernel) (Nat.le_of_ble_eq_true rfl) (fun g C hR => eX5_document C hR hO w a1 a2) l
def fX5_drop (y : Ly) (w : Wd) (o : Nat) (a1 : Int32) (a2 : Int32) : Option (Int32 × Wd) :=
  (fX5_isList w a1).bind fun v1 =>
  if v1 = 0 then
    some ((-1), w)
  else
    (fX5_isDocument w a2).bind fun v3 =>
    if v3 = 0 then
      some ((-1), w)
    else
      (fX1_scoreOf w (o + 1 + 1) a1 a2).bind fun v5 =>
      if v5 = 0 then
        some ((-1), w)
      else
        if (bz (w.1 (o + 1 + 7) 0)) = 0 then
          (fX0_record y w (o + 17) (o + 1)).bind fun w8 =>
          (fX1_takeOut w8 (o + 1 + 1) a1 a2).bind fun w9 =>
          (fX1_sizeOf w9 (o + 1 + 1) a1).bind fun v10 =>
          some (v10, w9)
        else
          some ((-4), w)
set_option maxRecDepth 4000 in
theorem eX5_drop {g : Gx} {E : Ex} (C : CC g E cX5_drop 3 RX5 5 133) (hR : RT g (some .int)) {o : Nat} (hO : shB E.2.2.2.2.2.1 o) (w : Wd) (a1 : Int32) (a2 : Int32) : YO g E 3 (QI g E) (fX5_drop E.2.2.2.2.2.1 w o a1 a2) w 0 [(0, .ref (E.2.2.2.2.1 + o)), (1, .int a1), (2, .int a2)] [] := by
  unfold fX5_drop
  refine y_iload_n (n := 1) C dX5_drop_0 1 rfl rfl ?_
  refine y_cp (n := 4) C (fun r hr H locs la hP hS hl => y_runS (st := []) C ky_X5_isList wd_277 ⟨Nat.le_of_ble_eq_true rfl, Nat.le_of_ble_eq_true rfl⟩ (mX5_isList w a1 g.2.1 r hr) rfl (Nat.le_of_ble_eq_true rfl) rfl dX5_drop_1 hP hS hl) rfl (fun v1 hv1 => ?_)
  refine y_if_eq (tgt := 14) (n := 7) C dX5_drop_4 (by decide) rfl (fun h2 => ?_) (fun h2 => ?_)
  · refine y_iconst (n := 15) C ((-1) : Int32) dX5_drop_14 (by decide) rfl ?_
    exact y_ri C hR dX5_drop_15
  · refine y_iload_n (n := 8) C dX5_drop_7 2 rfl rfl ?_
    refine y_cp (n := 11) C (fun r hr H locs la hP hS hl => y_runS (st := []) C ky_X5_isDocument wd_207 ⟨Nat.le_of_ble_eq_true rfl, Nat.le_of_ble_eq_true rfl⟩ (mX5_isDocument w a2 g.2.1 r hr) rfl (Nat.le_of_ble_eq_true rfl) rfl dX5_drop_8 hP hS hl) rfl (fun v3 hv3 => ?_)
    refine y_if_ne (tgt := 16) (n := 14) C dX5_drop_11 (by decide) rfl (fun h4 => ?_) (fun h4 => ?_)
    · refine y_aload_n (n := 17) C dX5_drop_16 0 rfl rfl ?_
      refine y_get (ci := 5) (f := 0) (n := 20) C in_X5 hO.1 rfl (by decide) wd_180 rfl rfl dX5_drop_17 rfl ?_
      refine y_getN (ci := 3) (f := 0) (n := 23) C in_X3 hO.2.1.1 rfl (by decide) wd_124 rfl rfl dX5_drop_20 rfl ?_
      refine y_iload_n (n := 24) C dX5_drop_23 1 rfl rfl ?_
      refine y_iload_n (n := 25) C dX5_drop_24 2 rfl rfl ?_
      refine y_cp (n := 28) C (fun r hr H locs la hP hS hl => y_runVN (ci := 1) (st := []) C ky_X1_scoreOf wd_496 ⟨Nat.le_of_ble_eq_true rfl, Nat.le_of_ble_eq_true rfl⟩ hO.2.1.2.1.1 rfl (mX1_scoreOf hO.2.1.2.1 w a1 a2 g.2.1 r hr) rfl (Nat.le_of_ble_eq_true rfl) rfl dX5_drop_25 hP hS hl) rfl (fun v5 hv5 => ?_)
      refine y_if_ne (tgt := 33) (n := 31) C dX5_drop_28 (by decide) rfl (fun h6 => ?_) (fun h6 => ?_)
      · refine y_aload_n (n := 34) C dX5_drop_33 0 rfl rfl ?_
        refine y_get (ci := 5) (f := 0) (n := 37) C in_X5 hO.1 rfl (by decide) wd_180 rfl rfl dX5_drop_34 rfl ?_
        refine y_getN (ci := 3) (f := 1) (n := 40) C in_X3 hO.2.1.1 rfl (by decide) wd_126 rfl rfl dX5_drop_37 rfl ?_
        refine y_getN (ci := 2) (f := 0) (n := 43) C in_X2 hO.2.1.2.2.1 rfl (by decide) wd_68 rfl rfl dX5_drop_40 rfl ?_
        refine y_if_eq (tgt := 49) (n := 46) C dX5_drop_43 (by decide) rfl (fun h7 => ?_) (fun h7 => ?_)
        · refine y_aload_n (n := 50) C dX5_drop_49 0 rfl rfl ?_
          refine y_get (ci := 5) (f := 1) (n := 53) C in_X5 hO.1 rfl (by decide) wd_181 rfl rfl dX5_drop_50 rfl ?_
          refine y_aload_n (n := 54) C dX5_drop_53 0 rfl rfl ?_
          refine y_get (ci := 5) (f := 0) (n := 57) C in_X5 hO.1 rfl (by decide) wd_180 rfl rfl dX5_drop_54 rfl ?_
          refine y_cv (n := 60) C (fun r hr H locs la hP hS hl => y_runVN (ci := 0) (st := []) C ky_X0_record wd_214 ⟨Nat.le_of_ble_eq_true rfl, Nat.le_of_ble_eq_true rfl⟩ hO.2.2.1.1 rfl (mX0_record hO.2.2.1 hO.2.1 w g.2.1 r hr) rfl (Nat.le_of_ble_eq_true rfl) rfl dX5_drop_57 hP hS hl) rfl (fun w8 hw8 => ?_)
          refine y_aload_n (n := 61) C dX5_drop_60 0 rfl rfl ?_
          refine y_get (ci := 5) (f := 0) (n := 64) C in_X5 hO.1 rfl (by decide) wd_180 rfl rfl dX5_drop_61 rfl ?_
          refine y_getN (ci := 3) (f := 0) (n := 67) C in_X3 hO.2.1.1 rfl (by decide) wd_124 rfl rfl dX5_drop_64 rfl ?_
          refine y_iload_n (n := 68) C dX5_drop_67 1 rfl rfl ?_
          refine y_iload_n (n := 69) C dX5_drop_68 2 rfl rfl ?_
          refine y_cv (n := 72) C (fun r hr H locs la hP hS hl => y_runVN (ci := 1) (st := []) C ky_X1_takeOut wd_518 ⟨Nat.le_of_ble_eq_true rfl, Nat.le_of_ble_eq_true rfl⟩ hO.2.1.2.1.1 rfl (mX1_takeOut hO.2.1.2.1 w8 a1 a2 g.2.1 r hr) rfl (Nat.le_of_ble_eq_true rfl) rfl dX5_drop_69 hP hS hl) rfl (fun w9 hw9 => ?_)
          refine y_aload_n (n := 73) C dX5_drop_72 0 rfl rfl ?_
          refine y_get (ci := 5) (f := 0) (n := 76) C in_X5 hO.1 rfl (by decide) wd_180 rfl rfl dX5_drop_73 rfl ?_
          refine y_getN (ci := 3) (f := 0) (n := 79) C in_X3 hO.2.1.1 rfl (by decide) wd_124 rfl rfl dX5_drop_76 rfl ?_
          refine y_iload_n (n := 80) C dX5_drop_79 1 rfl rfl ?_
          refine y_cp (n := 83) C (fun r hr H locs la hP hS hl => y_runVN (ci := 1) (st := []) C ky_X1_sizeOf wd_480 ⟨Nat.le_of_ble_eq_true rfl, Nat.le_of_ble_eq_true rfl⟩ hO.2.1.2.1.1 rfl (mX1_sizeOf hO.2.1.2.1 w9 a1 g.2.1 r hr) rfl (Nat.le_of_ble_eq_true rfl) rfl dX5_drop_80 hP hS hl) rfl (fun v10 hv10 => ?_)
          exact y_ri C hR dX5_drop_83
        · refine y_bipush (n := 48) C ((-4) : Int32) dX5_drop_46 (by decide) rfl ?_
          exact y_ri C hR dX5_drop_48
      · refine y_iconst (n := 32) C ((-1) : Int32) dX5_drop_31 (by decide) rfl ?_
        exact y_ri C hR dX5_drop_32
    · refine y_iconst (n := 15) C ((-1) : Int32) dX5_drop_14 (by decide) rfl ?_
      exact y_ri C hR dX5_drop_15
theorem mX5_drop {E : Ex} {o : Nat} (hO : shB E.2.2.2.2.2.1 o) (w : Wd) (a1 : Int32) (a2 : Int32) (l : Launch) : MI l yX5_drop cX5_drop 3 (some .int) { frames := 5, cells := 0, slots := 0, locals := 133 } E [.ref (E.2.2.2.2.1 + o), .int a1, .int a2] w (fX5_drop E.2.2.2.2.2.1 w o a1 a2) :=
  y_met (Qc := yQi E) (by decide +kernel) (Nat.le_of_ble_eq_true rfl) (fun g C hR => eX5_drop C hR hO w a1 a2) l
def fX5_end (y : Ly) (w : Wd) (o : Nat)  : Option (Int32 × Wd) :=
  if (bz (w.1 (o + 1 + 7) 0)) = 0 then
    some ((-4), w)
  else
    (fX0_record y w (o + 17) (o + 1)).bind fun w2 =>
    (stZ w2 (o + 1 + 7) 0 0).bind fun w3 =>
    (fX2_toldSize w3 (o + 1 + 7) (o + 1 + 1)).bind fun v4 =>
    some (v4, w3)
set_option maxRecDepth 4000 in
theorem eX5_end {g : Gx} {E : Ex} (C : CC g E cX5_end 1 RX5 5 133) (hR : RT g (some .int)) {o : Nat} (hO : shB E.2.2.2.2.2.1 o) (w : Wd)  : YO g E 1 (QI g E) (fX5_end E.2.2.2.2.2.1 w o) w 0 [(0, .ref (E.2.2.2.2.1 + o))] [] := by
  unfold fX5_end
  refine y_aload_n (n := 1) C dX5_end_0 0 rfl rfl ?_
  refine y_get (ci := 5) (f := 0) (n := 4) C in_X5 hO.1 rfl (by decide) wd_180 rfl rfl dX5_end_1 rfl ?_
  refine y_getN (ci := 3) (f := 1) (n := 7) C in_X3 hO.2.1.1 rfl (by decide) wd_126 rfl rfl dX5_end_4 rfl ?_
  refine y_getN (ci := 2) (f := 0) (n := 10) C in_X2 hO.2.1.2.2.1 rfl (by decide) wd_68 rfl rfl dX5_end_7 rfl ?_
  refine y_if_ne (tgt := 16) (n := 13) C dX5_end_10 (by decide) rfl (fun h1 => ?_) (fun h1 => ?_)
  · refine y_aload_n (n := 17) C dX5_end_16 0 rfl rfl ?_
    refine y_get (ci := 5) (f := 1) (n := 20) C in_X5 hO.1 rfl (by decide) wd_181 rfl rfl dX5_end_17 rfl ?_
    refine y_aload_n (n := 21) C dX5_end_20 0 rfl rfl ?_
    refine y_get (ci := 5) (f := 0) (n := 24) C in_X5 hO.1 rfl (by decide) wd_180 rfl rfl dX5_end_21 rfl ?_
    refine y_cv (n := 27) C (fun r hr H locs la hP hS hl => y_runVN (ci := 0) (st := []) C ky_X0_record wd_214 ⟨Nat.le_of_ble_eq_true rfl, Nat.le_of_ble_eq_true rfl⟩ hO.2.2.1.1 rfl (mX0_record hO.2.2.1 hO.2.1 w g.2.1 r hr) rfl (Nat.le_of_ble_eq_true rfl) rfl dX5_end_24 hP hS hl) rfl (fun w2 hw2 => ?_)
    refine y_aload_n (n := 28) C dX5_end_27 0 rfl rfl ?_
    refine y_get (ci := 5) (f := 0) (n := 31) C in_X5 hO.1 rfl (by decide) wd_180 rfl rfl dX5_end_28 rfl ?_
    refine y_getN (ci := 3) (f := 1) (n := 34) C in_X3 hO.2.1.1 rfl (by decide) wd_126 rfl rfl dX5_end_31 rfl ?_
    refine y_iconst (n := 35) C (0 : Int32) dX5_end_34 (by decide) rfl ?_
    refine y_putZN (ci := 2) (f := 0) (n := 38) C in_X2 tyX2 tyX2_ok nmX2 hO.2.1.2.2.1 rfl (by decide) wd_68 rfl rfl (by decide +kernel) (Nat.le_of_ble_eq_true rfl) st_X2_0 dX5_end_35 rfl (fun w3 hw3 => ?_)
    refine y_aload_n (n := 39) C dX5_end_38 0 rfl rfl ?_
    refine y_get (ci := 5) (f := 0) (n := 42) C in_X5 hO.1 rfl (by decide) wd_180 rfl rfl dX5_end_39 rfl ?_
    refine y_getN (ci := 3) (f := 1) (n := 45) C in_X3 hO.2.1.1 rfl (by decide) wd_126 rfl rfl dX5_end_42 rfl ?_
    refine y_aload_n (n := 46) C dX5_end_45 0 rfl rfl ?_
    refine y_get (ci := 5) (f := 0) (n := 49) C in_X5 hO.1 rfl (by decide) wd_180 rfl rfl dX5_end_46 rfl ?_
    refine y_getN (ci := 3) (f := 0) (n := 52) C in_X3 hO.2.1.1 rfl (by decide) wd_124 rfl rfl dX5_end_49 rfl ?_
    refine y_cp (n := 55) C (fun r hr H locs la hP hS hl => y_runVN (ci := 2) (st := []) C ky_X2_toldSize wd_551 ⟨Nat.le_of_ble_eq_true rfl, Nat.le_of_ble_eq_true rfl⟩ hO.2.1.2.2.1 rfl (mX2_toldSize hO.2.1.2.2 hO.2.1.2.1 w3 g.2.1 r hr) rfl (Nat.le_of_ble_eq_true rfl) rfl dX5_end_52 hP hS hl) rfl (fun v4 hv4 => ?_)
    exact y_ri C hR dX5_end_55
  · refine y_bipush (n := 15) C ((-4) : Int32) dX5_end_13 (by decide) rfl ?_
    exact y_ri C hR dX5_end_15
theorem mX5_end {E : Ex} {o : Nat} (hO : shB E.2.2.2.2.2.1 o) (w : Wd)  (l : Launch) : MI l yX5_end cX5_end 1 (some .int) { frames := 5, cells := 0, slots := 0, locals := 133 } E [.ref (E.2.2.2.2.1 + o)] w (fX5_end E.2.2.2.2.2.1 w o) :=
  y_met (Qc := yQi E) (by decide +kernel) (Nat.le_of_ble_eq_true rfl) (fun g C hR => eX5_end C hR hO w ) l
def fX5_entry (w : Wd) (o : Nat) (a1 : Int32) (a2 : Int32) (a3 : Int32) : Option (Int32) :=
  (fX5_isList w a1).bind fun v1 =>
  if v1 = 0 then
    some (-1)
  else
    if a2 < 0 then
      some (-2)
    else
      if a3 < 0 then
        some (-2)
      else
        if a3 ≤ 1 then
          (fX1_sizeOf w (o + 1 + 1) a1).bind fun v6 =>
          if a2 < v6 then
            if a3 = 0 then
              (fX1_documentAt w (o + 1 + 1) a1 a2).bind fun v10 =>
              some v10
            else
              (fX1_scoreAt w (o + 1 + 1) a1 a2).bind fun v9 =>
              some v9
          else
            some (-5)
        else
          some (-2)
set_option maxRecDepth 4000 in
theorem eX5_entry {g : Gx} {E : Ex} (C : CC g E cX5_entry 4 RX5 3 65) (hR : RT g (some .int)) {o : Nat} (hO : shB E.2.2.2.2.2.1 o) (w : Wd) (a1 : Int32) (a2 : Int32) (a3 : Int32) : YO g E 4 (QP g E w) (fX5_entry w o a1 a2 a3) w 0 [(0, .ref (E.2.2.2.2.1 + o)), (1, .int a1), (2, .int a2), (3, .int a3)] [] := by
  unfold fX5_entry
  refine y_iload_n (n := 1) C dX5_entry_0 1 rfl rfl ?_
  refine y_cp (n := 4) C (fun r hr H locs la hP hS hl => y_runS (st := []) C ky_X5_isList wd_277 ⟨Nat.le_of_ble_eq_true rfl, Nat.le_of_ble_eq_true rfl⟩ (mX5_isList w a1 g.2.1 r hr) rfl (Nat.le_of_ble_eq_true rfl) rfl dX5_entry_1 hP hS hl) rfl (fun v1 hv1 => ?_)
  refine y_if_ne (tgt := 9) (n := 7) C dX5_entry_4 (by decide) rfl (fun h2 => ?_) (fun h2 => ?_)
  · refine y_iload_n (n := 10) C dX5_entry_9 2 rfl rfl ?_
    refine y_if_lt (tgt := 22) (n := 13) C dX5_entry_10 (by decide) rfl (fun h3 => ?_) (fun h3 => ?_)
    · refine y_bipush (n := 24) C ((-2) : Int32) dX5_entry_22 (by decide) rfl ?_
      exact y_rp C hR dX5_entry_24
    · refine y_iload_n (n := 14) C dX5_entry_13 3 rfl rfl ?_
      refine y_if_lt (tgt := 22) (n := 17) C dX5_entry_14 (by decide) rfl (fun h4 => ?_) (fun h4 => ?_)
      · refine y_bipush (n := 24) C ((-2) : Int32) dX5_entry_22 (by decide) rfl ?_
        exact y_rp C hR dX5_entry_24
      · refine y_iload_n (n := 18) C dX5_entry_17 3 rfl rfl ?_
        refine y_iconst (n := 19) C (1 : Int32) dX5_entry_18 (by decide) rfl ?_
        refine y_icmp_le (tgt := 25) (n := 22) C dX5_entry_19 (by decide) rfl (fun h5 => ?_) (fun h5 => ?_)
        · refine y_iload_n (n := 26) C dX5_entry_25 2 rfl rfl ?_
          refine y_aload_n (n := 27) C dX5_entry_26 0 rfl rfl ?_
          refine y_get (ci := 5) (f := 0) (n := 30) C in_X5 hO.1 rfl (by decide) wd_180 rfl rfl dX5_entry_27 rfl ?_
          refine y_getN (ci := 3) (f := 0) (n := 33) C in_X3 hO.2.1.1 rfl (by decide) wd_124 rfl rfl dX5_entry_30 rfl ?_
          refine y_iload_n (n := 34) C dX5_entry_33 1 rfl rfl ?_
          refine y_cp (n := 37) C (fun r hr H locs la hP hS hl => y_runVN (ci := 1) (st := [.int a2]) C ky_X1_sizeOf wd_480 ⟨Nat.le_of_ble_eq_true rfl, Nat.le_of_ble_eq_true rfl⟩ hO.2.1.2.1.1 rfl (mX1_sizeOf hO.2.1.2.1 w a1 g.2.1 r hr) rfl (Nat.le_of_ble_eq_true rfl) rfl dX5_entry_34 hP hS hl) rfl (fun v6 hv6 => ?_)
          refine y_icmp_lt (tgt := 43) (n := 40) C dX5_entry_37 (by decide) rfl (fun h7 => ?_) (fun h7 => ?_)
          · refine y_iload_n (n := 44) C dX5_entry_43 3 rfl rfl ?_
            refine y_if_ne (tgt := 62) (n := 47) C dX5_entry_44 (by decide) rfl (fun h8 => ?_) (fun h8 => ?_)
            · refine y_aload_n (n := 63) C dX5_entry_62 0 rfl rfl ?_
              refine y_get (ci := 5) (f := 0) (n := 66) C in_X5 hO.1 rfl (by decide) wd_180 rfl rfl dX5_entry_63 rfl ?_
              refine y_getN (ci := 3) (f := 0) (n := 69) C in_X3 hO.2.1.1 rfl (by decide) wd_124 rfl rfl dX5_entry_66 rfl ?_
              refine y_iload_n (n := 70) C dX5_entry_69 1 rfl rfl ?_
              refine y_iload_n (n := 71) C dX5_entry_70 2 rfl rfl ?_
              refine y_cp (n := 74) C (fun r hr H locs la hP hS hl => y_runVN (ci := 1) (st := []) C ky_X1_scoreAt wd_482 ⟨Nat.le_of_ble_eq_true rfl, Nat.le_of_ble_eq_true rfl⟩ hO.2.1.2.1.1 rfl (mX1_scoreAt hO.2.1.2.1 w a1 a2 g.2.1 r hr) rfl (Nat.le_of_ble_eq_true rfl) rfl dX5_entry_71 hP hS hl) rfl (fun v9 hv9 => ?_)
              exact y_rp C hR dX5_entry_74
            · refine y_aload_n (n := 48) C dX5_entry_47 0 rfl rfl ?_
              refine y_get (ci := 5) (f := 0) (n := 51) C in_X5 hO.1 rfl (by decide) wd_180 rfl rfl dX5_entry_48 rfl ?_
              refine y_getN (ci := 3) (f := 0) (n := 54) C in_X3 hO.2.1.1 rfl (by decide) wd_124 rfl rfl dX5_entry_51 rfl ?_
              refine y_iload_n (n := 55) C dX5_entry_54 1 rfl rfl ?_
              refine y_iload_n (n := 56) C dX5_entry_55 2 rfl rfl ?_
              refine y_cp (n := 59) C (fun r hr H locs la hP hS hl => y_runVN (ci := 1) (st := []) C ky_X1_documentAt wd_491 ⟨Nat.le_of_ble_eq_true rfl, Nat.le_of_ble_eq_true rfl⟩ hO.2.1.2.1.1 rfl (mX1_documentAt hO.2.1.2.1 w a1 a2 g.2.1 r hr) rfl (Nat.le_of_ble_eq_true rfl) rfl dX5_entry_56 hP hS hl) rfl (fun v10 hv10 => ?_)
              refine y_goto (tgt := 74) C dX5_entry_59 (by decide) ?_
              exact y_rp C hR dX5_entry_74
          · refine y_bipush (n := 42) C ((-5) : Int32) dX5_entry_40 (by decide) rfl ?_
            exact y_rp C hR dX5_entry_42
        · refine y_bipush (n := 24) C ((-2) : Int32) dX5_entry_22 (by decide) rfl ?_
          exact y_rp C hR dX5_entry_24
  · refine y_iconst (n := 8) C ((-1) : Int32) dX5_entry_7 (by decide) rfl ?_
    exact y_rp C hR dX5_entry_8
theorem mX5_entry {E : Ex} {o : Nat} (hO : shB E.2.2.2.2.2.1 o) (w : Wd) (a1 : Int32) (a2 : Int32) (a3 : Int32) (l : Launch) : MP l yX5_entry cX5_entry 4 (some .int) { frames := 3, cells := 0, slots := 0, locals := 65 } E [.ref (E.2.2.2.2.1 + o), .int a1, .int a2, .int a3] w (fX5_entry w o a1 a2 a3) :=
  y_met (Qc := fun r => yQi E (r, w)) (by decide +kernel) (Nat.le_of_ble_eq_true rfl) (fun g C hR => eX5_entry C hR hO w a1 a2 a3) l
def fX5_list (w : Wd) (o : Nat) (a1 : Int32) (a2 : Int32) : Option (Int32) :=
  (fX5_isList w a1).bind fun v1 =>
  if v1 = 0 then
    some (-1)
  else
    if a2 = 0 then
      (fX1_sizeOf w (o + 1 + 1) a1).bind fun v4 =>
      some v4
    else
    if a2 = 1 then
      (fX1_weightOf w (o + 1 + 1) a1).bind fun v6 =>
      some v6
    else
    if a2 = 2 then
      (fX5_at w (o + 1 + 1 + 5) 6 a1).bind fun v8 =>
      some v8
    else
    if a2 = 3 then
      (fX1_scoreAt w (o + 1 + 1) a1 0).bind fun v10 =>
      some v10
    else
    if a2 = 4 then
      (fX1_deletedIn w (o + 1 + 1) a1).bind fun v12 =>
      some v12
    else
    some (-2)
set_option maxRecDepth 4000 in
theorem eX5_list {g : Gx} {E : Ex} (C : CC g E cX5_list 3 RX5 3 67) (hR : RT g (some .int)) {o : Nat} (hO : shB E.2.2.2.2.2.1 o) (w : Wd) (a1 : Int32) (a2 : Int32) : YO g E 3 (QP g E w) (fX5_list w o a1 a2) w 0 [(0, .ref (E.2.2.2.2.1 + o)), (1, .int a1), (2, .int a2)] [] := by
  unfold fX5_list
  refine y_iload_n (n := 1) C dX5_list_0 1 rfl rfl ?_
  refine y_cp (n := 4) C (fun r hr H locs la hP hS hl => y_runS (st := []) C ky_X5_isList wd_277 ⟨Nat.le_of_ble_eq_true rfl, Nat.le_of_ble_eq_true rfl⟩ (mX5_isList w a1 g.2.1 r hr) rfl (Nat.le_of_ble_eq_true rfl) rfl dX5_list_1 hP hS hl) rfl (fun v1 hv1 => ?_)
  refine y_if_ne (tgt := 9) (n := 7) C dX5_list_4 (by decide) rfl (fun h2 => ?_) (fun h2 => ?_)
  · refine y_iload_n (n := 10) C dX5_list_9 2 rfl rfl ?_
    refine y_if (fun h3 => ?_) (fun h3 => ?_)
    · refine y_swIn (tgt := 44) C 34 dX5_list_10 (by rw [h3]; decide) (by rw [h3]; decide) (by rw [h3]; rfl) (by decide) ?_
      refine y_aload_n (n := 45) C dX5_list_44 0 rfl rfl ?_
      refine y_get (ci := 5) (f := 0) (n := 48) C in_X5 hO.1 rfl (by decide) wd_180 rfl rfl dX5_list_45 rfl ?_
      refine y_getN (ci := 3) (f := 0) (n := 51) C in_X3 hO.2.1.1 rfl (by decide) wd_124 rfl rfl dX5_list_48 rfl ?_
      refine y_iload_n (n := 52) C dX5_list_51 1 rfl rfl ?_
      refine y_cp (n := 55) C (fun r hr H locs la hP hS hl => y_runVN (ci := 1) (st := []) C ky_X1_sizeOf wd_480 ⟨Nat.le_of_ble_eq_true rfl, Nat.le_of_ble_eq_true rfl⟩ hO.2.1.2.1.1 rfl (mX1_sizeOf hO.2.1.2.1 w a1 g.2.1 r hr) rfl (Nat.le_of_ble_eq_true rfl) rfl dX5_list_52 hP hS hl) rfl (fun v4 hv4 => ?_)
      exact y_rp C hR dX5_list_55
    refine y_if (fun h5 => ?_) (fun h5 => ?_)
    · refine y_swIn (tgt := 56) C 46 dX5_list_10 (by rw [h5]; decide) (by rw [h5]; decide) (by rw [h5]; rfl) (by decide) ?_
      refine y_aload_n (n := 57) C dX5_list_56 0 rfl rfl ?_
      refine y_get (ci := 5) (f := 0) (n := 60) C in_X5 hO.1 rfl (by decide) wd_180 rfl rfl dX5_list_57 rfl ?_
      refine y_getN (ci := 3) (f := 0) (n := 63) C in_X3 hO.2.1.1 rfl (by decide) wd_124 rfl rfl dX5_list_60 rfl ?_
      refine y_iload_n (n := 64) C dX5_list_63 1 rfl rfl ?_
      refine y_cp (n := 67) C (fun r hr H locs la hP hS hl => y_runVN (ci := 1) (st := []) C ky_X1_weightOf wd_481 ⟨Nat.le_of_ble_eq_true rfl, Nat.le_of_ble_eq_true rfl⟩ hO.2.1.2.1.1 rfl (mX1_weightOf hO.2.1.2.1 w a1 g.2.1 r hr) rfl (Nat.le_of_ble_eq_true rfl) rfl dX5_list_64 hP hS hl) rfl (fun v6 hv6 => ?_)
      exact y_rp C hR dX5_list_67
    refine y_if (fun h7 => ?_) (fun h7 => ?_)
    · refine y_swIn (tgt := 68) C 58 dX5_list_10 (by rw [h7]; decide) (by rw [h7]; decide) (by rw [h7]; rfl) (by decide) ?_
      refine y_aload_n (n := 69) C dX5_list_68 0 rfl rfl ?_
      refine y_get (ci := 5) (f := 0) (n := 72) C in_X5 hO.1 rfl (by decide) wd_180 rfl rfl dX5_list_69 rfl ?_
      refine y_getN (ci := 3) (f := 0) (n := 75) C in_X3 hO.2.1.1 rfl (by decide) wd_124 rfl rfl dX5_list_72 rfl ?_
      refine y_getN (ci := 1) (f := 4) (n := 78) C in_X1 hO.2.1.2.1.1 rfl (by decide) wd_39 rfl rfl dX5_list_75 rfl ?_
      refine y_iload_n (n := 79) C dX5_list_78 1 rfl rfl ?_
      refine y_cp (n := 82) C (fun r hr H locs la hP hS hl => y_runS (st := []) C ky_X5_at wd_280 ⟨Nat.le_of_ble_eq_true rfl, Nat.le_of_ble_eq_true rfl⟩ (mX5_at hO.2.1.2.1.2.2.2.2.2 w a1 g.2.1 r hr) rfl (Nat.le_of_ble_eq_true rfl) rfl dX5_list_79 hP hS hl) rfl (fun v8 hv8 => ?_)
      exact y_rp C hR dX5_list_82
    refine y_if (fun h9 => ?_) (fun h9 => ?_)
    · refine y_swIn (tgt := 83) C 73 dX5_list_10 (by rw [h9]; decide) (by rw [h9]; decide) (by rw [h9]; rfl) (by decide) ?_
      refine y_aload_n (n := 84) C dX5_list_83 0 rfl rfl ?_
      refine y_get (ci := 5) (f := 0) (n := 87) C in_X5 hO.1 rfl (by decide) wd_180 rfl rfl dX5_list_84 rfl ?_
      refine y_getN (ci := 3) (f := 0) (n := 90) C in_X3 hO.2.1.1 rfl (by decide) wd_124 rfl rfl dX5_list_87 rfl ?_
      refine y_iload_n (n := 91) C dX5_list_90 1 rfl rfl ?_
      refine y_iconst (n := 92) C (0 : Int32) dX5_list_91 (by decide) rfl ?_
      refine y_cp (n := 95) C (fun r hr H locs la hP hS hl => y_runVN (ci := 1) (st := []) C ky_X1_scoreAt wd_482 ⟨Nat.le_of_ble_eq_true rfl, Nat.le_of_ble_eq_true rfl⟩ hO.2.1.2.1.1 rfl (mX1_scoreAt hO.2.1.2.1 w a1 0 g.2.1 r hr) rfl (Nat.le_of_ble_eq_true rfl) rfl dX5_list_92 hP hS hl) rfl (fun v10 hv10 => ?_)
      exact y_rp C hR dX5_list_95
    refine y_if (fun h11 => ?_) (fun h11 => ?_)
    · refine y_swIn (tgt := 96) C 86 dX5_list_10 (by rw [h11]; decide) (by rw [h11]; decide) (by rw [h11]; rfl) (by decide) ?_
      refine y_aload_n (n := 97) C dX5_list_96 0 rfl rfl ?_
      refine y_get (ci := 5) (f := 0) (n := 100) C in_X5 hO.1 rfl (by decide) wd_180 rfl rfl dX5_list_97 rfl ?_
      refine y_getN (ci := 3) (f := 0) (n := 103) C in_X3 hO.2.1.1 rfl (by decide) wd_124 rfl rfl dX5_list_100 rfl ?_
      refine y_iload_n (n := 104) C dX5_list_103 1 rfl rfl ?_
      refine y_cp (n := 107) C (fun r hr H locs la hP hS hl => y_runVN (ci := 1) (st := []) C ky_X1_deletedIn wd_483 ⟨Nat.le_of_ble_eq_true rfl, Nat.le_of_ble_eq_true rfl⟩ hO.2.1.2.1.1 rfl (mX1_deletedIn hO.2.1.2.1 w a1 g.2.1 r hr) rfl (Nat.le_of_ble_eq_true rfl) rfl dX5_list_104 hP hS hl) rfl (fun v12 hv12 => ?_)
      exact y_rp C hR dX5_list_107
    refine y_swOut (tgt := 108) C dX5_list_10 (by have gh3 := sw_ne (k := 0) (by decide) h3; have gh5 := sw_ne (k := 1) (by decide) h5; have gh7 := sw_ne (k := 2) (by decide) h7; have gh9 := sw_ne (k := 3) (by decide) h9; have gh11 := sw_ne (k := 4) (by decide) h11; omega) (by decide) ?_
    refine y_bipush (n := 110) C ((-2) : Int32) dX5_list_108 (by decide) rfl ?_
    exact y_rp C hR dX5_list_110
  · refine y_iconst (n := 8) C ((-1) : Int32) dX5_list_7 (by decide) rfl ?_
    exact y_rp C hR dX5_list_8
theorem mX5_list {E : Ex} {o : Nat} (hO : shB E.2.2.2.2.2.1 o) (w : Wd) (a1 : Int32) (a2 : Int32) (l : Launch) : MP l yX5_list cX5_list 3 (some .int) { frames := 3, cells := 0, slots := 0, locals := 67 } E [.ref (E.2.2.2.2.1 + o), .int a1, .int a2] w (fX5_list w o a1 a2) :=
  y_met (Qc := fun r => yQi E (r, w)) (by decide +kernel) (Nat.le_of_ble_eq_true rfl) (fun g C hR => eX5_list C hR hO w a1 a2) l
def fX5_reading (w : Wd) (o : Nat) (a1 : Int32) : Option (Int32) :=
  if a1 < 0 then
    some (-2)
  else
    if a1 ≤ 12 then
      if (bz (w.1 (o + 1 + 7) 0)) = 0 then
        some (-4)
      else
        if a1 = 0 then
          some (w.1 (o + 1 + 7) 4)
        else
        if a1 = 1 then
          some (w.1 (o + 1 + 7) 5)
        else
        if a1 = 2 then
          (fX2_allLookUps w (o + 1 + 7)).bind fun v7 =>
          some v7
        else
        if a1 = 3 then
          (fX2_cost w (o + 1 + 7)).bind fun v9 =>
          some v9
        else
        if a1 = 4 then
          some (w.1 (o + 1 + 7) 15)
        else
        if a1 = 5 then
          (fX2_toldSize w (o + 1 + 7) (o + 1 + 1)).bind fun v12 =>
          some v12
        else
        if a1 = 6 then
          (fX2_isOver w (o + 1 + 7) (o + 1 + 1)).bind fun v14 =>
          (fX5_oneIf w v14).bind fun v15 =>
          some v15
        else
        if a1 = 7 then
          (fX2_isOver w (o + 1 + 7) (o + 1 + 1)).bind fun v17 =>
          if v17 = 0 then
            (fX2_nextList w (o + 1 + 7) (o + 1 + 1)).bind fun v19 =>
            some v19
          else
            some (-5)
        else
        if a1 = 8 then
          (fX2_weighedBounds w (o + 1 + 7) (o + 1 + 1)).bind fun v21 =>
          some v21
        else
        if a1 = 9 then
          (fX2_lowOfLastTold w (o + 1 + 7) (o + 1 + 1)).bind fun v23 =>
          some v23
        else
        if a1 = 10 then
          (fX2_caughtSize w (o + 1 + 7)).bind fun v25 =>
          some v25
        else
        if a1 = 11 then
          (fX2_toldNotWanted w (o + 1 + 7) (o + 1 + 1)).bind fun v27 =>
          some v27
        else
        (fX2_tellingLess w (o + 1 + 7) (o + 1 + 1)).bind fun v28 =>
        some v28
    else
      some (-2)
set_option maxRecDepth 4000 in
theorem eX5_reading {g : Gx} {E : Ex} (C : CC g E cX5_reading 2 RX5 6 136) (hR : RT g (some .int)) {o : Nat} (hO : shB E.2.2.2.2.2.1 o) (w : Wd) (a1 : Int32) : YO g E 2 (QP g E w) (fX5_reading w o a1) w 0 [(0, .ref (E.2.2.2.2.1 + o)), (1, .int a1)] [] := by
  unfold fX5_reading
  refine y_iload_n (n := 1) C dX5_reading_0 1 rfl rfl ?_
  refine y_if_lt (tgt := 10) (n := 4) C dX5_reading_1 (by decide) rfl (fun h1 => ?_) (fun h1 => ?_)
  · refine y_bipush (n := 12) C ((-2) : Int32) dX5_reading_10 (by decide) rfl ?_
    exact y_rp C hR dX5_reading_12
  · refine y_iload_n (n := 5) C dX5_reading_4 1 rfl rfl ?_
    refine y_bipush (n := 7) C (12 : Int32) dX5_reading_5 (by decide) rfl ?_
    refine y_icmp_le (tgt := 13) (n := 10) C dX5_reading_7 (by decide) rfl (fun h2 => ?_) (fun h2 => ?_)
    · refine y_aload_n (n := 14) C dX5_reading_13 0 rfl rfl ?_
      refine y_get (ci := 5) (f := 0) (n := 17) C in_X5 hO.1 rfl (by decide) wd_180 rfl rfl dX5_reading_14 rfl ?_
      refine y_getN (ci := 3) (f := 1) (n := 20) C in_X3 hO.2.1.1 rfl (by decide) wd_126 rfl rfl dX5_reading_17 rfl ?_
      refine y_getN (ci := 2) (f := 0) (n := 23) C in_X2 hO.2.1.2.2.1 rfl (by decide) wd_68 rfl rfl dX5_reading_20 rfl ?_
      refine y_if_ne (tgt := 29) (n := 26) C dX5_reading_23 (by decide) rfl (fun h3 => ?_) (fun h3 => ?_)
      · refine y_iload_n (n := 30) C dX5_reading_29 1 rfl rfl ?_
        refine y_if (fun h4 => ?_) (fun h4 => ?_)
        · refine y_swIn (tgt := 92) C 62 dX5_reading_30 (by rw [h4]; decide) (by rw [h4]; decide) (by rw [h4]; rfl) (by decide) ?_
          refine y_aload_n (n := 93) C dX5_reading_92 0 rfl rfl ?_
          refine y_get (ci := 5) (f := 0) (n := 96) C in_X5 hO.1 rfl (by decide) wd_180 rfl rfl dX5_reading_93 rfl ?_
          refine y_getN (ci := 3) (f := 1) (n := 99) C in_X3 hO.2.1.1 rfl (by decide) wd_126 rfl rfl dX5_reading_96 rfl ?_
          refine y_getN (ci := 2) (f := 4) (n := 102) C in_X2 hO.2.1.2.2.1 rfl (by decide) wd_73 rfl rfl dX5_reading_99 rfl ?_
          exact y_rp C hR dX5_reading_102
        refine y_if (fun h5 => ?_) (fun h5 => ?_)
        · refine y_swIn (tgt := 103) C 73 dX5_reading_30 (by rw [h5]; decide) (by rw [h5]; decide) (by rw [h5]; rfl) (by decide) ?_
          refine y_aload_n (n := 104) C dX5_reading_103 0 rfl rfl ?_
          refine y_get (ci := 5) (f := 0) (n := 107) C in_X5 hO.1 rfl (by decide) wd_180 rfl rfl dX5_reading_104 rfl ?_
          refine y_getN (ci := 3) (f := 1) (n := 110) C in_X3 hO.2.1.1 rfl (by decide) wd_126 rfl rfl dX5_reading_107 rfl ?_
          refine y_getN (ci := 2) (f := 5) (n := 113) C in_X2 hO.2.1.2.2.1 rfl (by decide) wd_75 rfl rfl dX5_reading_110 rfl ?_
          exact y_rp C hR dX5_reading_113
        refine y_if (fun h6 => ?_) (fun h6 => ?_)
        · refine y_swIn (tgt := 114) C 84 dX5_reading_30 (by rw [h6]; decide) (by rw [h6]; decide) (by rw [h6]; rfl) (by decide) ?_
          refine y_aload_n (n := 115) C dX5_reading_114 0 rfl rfl ?_
          refine y_get (ci := 5) (f := 0) (n := 118) C in_X5 hO.1 rfl (by decide) wd_180 rfl rfl dX5_reading_115 rfl ?_
          refine y_getN (ci := 3) (f := 1) (n := 121) C in_X3 hO.2.1.1 rfl (by decide) wd_126 rfl rfl dX5_reading_118 rfl ?_
          refine y_cp (n := 124) C (fun r hr H locs la hP hS hl => y_runVN (ci := 2) (st := []) C ky_X2_allLookUps wd_550 ⟨Nat.le_of_ble_eq_true rfl, Nat.le_of_ble_eq_true rfl⟩ hO.2.1.2.2.1 rfl (mX2_allLookUps hO.2.1.2.2 w g.2.1 r hr) rfl (Nat.le_of_ble_eq_true rfl) rfl dX5_reading_121 hP hS hl) rfl (fun v7 hv7 => ?_)
          exact y_rp C hR dX5_reading_124
        refine y_if (fun h8 => ?_) (fun h8 => ?_)
        · refine y_swIn (tgt := 125) C 95 dX5_reading_30 (by rw [h8]; decide) (by rw [h8]; decide) (by rw [h8]; rfl) (by decide) ?_
          refine y_aload_n (n := 126) C dX5_reading_125 0 rfl rfl ?_
          refine y_get (ci := 5) (f := 0) (n := 129) C in_X5 hO.1 rfl (by decide) wd_180 rfl rfl dX5_reading_126 rfl ?_
          refine y_getN (ci := 3) (f := 1) (n := 132) C in_X3 hO.2.1.1 rfl (by decide) wd_126 rfl rfl dX5_reading_129 rfl ?_
          refine y_cp (n := 135) C (fun r hr H locs la hP hS hl => y_runVN (ci := 2) (st := []) C ky_X2_cost wd_431 ⟨Nat.le_of_ble_eq_true rfl, Nat.le_of_ble_eq_true rfl⟩ hO.2.1.2.2.1 rfl (mX2_cost hO.2.1.2.2 w g.2.1 r hr) rfl (Nat.le_of_ble_eq_true rfl) rfl dX5_reading_132 hP hS hl) rfl (fun v9 hv9 => ?_)
          exact y_rp C hR dX5_reading_135
        refine y_if (fun h10 => ?_) (fun h10 => ?_)
        · refine y_swIn (tgt := 136) C 106 dX5_reading_30 (by rw [h10]; decide) (by rw [h10]; decide) (by rw [h10]; rfl) (by decide) ?_
          refine y_aload_n (n := 137) C dX5_reading_136 0 rfl rfl ?_
          refine y_get (ci := 5) (f := 0) (n := 140) C in_X5 hO.1 rfl (by decide) wd_180 rfl rfl dX5_reading_137 rfl ?_
          refine y_getN (ci := 3) (f := 1) (n := 143) C in_X3 hO.2.1.1 rfl (by decide) wd_126 rfl rfl dX5_reading_140 rfl ?_
          refine y_getN (ci := 2) (f := 15) (n := 146) C in_X2 hO.2.1.2.2.1 rfl (by decide) wd_89 rfl rfl dX5_reading_143 rfl ?_
          exact y_rp C hR dX5_reading_146
        refine y_if (fun h11 => ?_) (fun h11 => ?_)
        · refine y_swIn (tgt := 147) C 117 dX5_reading_30 (by rw [h11]; decide) (by rw [h11]; decide) (by rw [h11]; rfl) (by decide) ?_
          refine y_aload_n (n := 148) C dX5_reading_147 0 rfl rfl ?_
          refine y_get (ci := 5) (f := 0) (n := 151) C in_X5 hO.1 rfl (by decide) wd_180 rfl rfl dX5_reading_148 rfl ?_
          refine y_getN (ci := 3) (f := 1) (n := 154) C in_X3 hO.2.1.1 rfl (by decide) wd_126 rfl rfl dX5_reading_151 rfl ?_
          refine y_aload_n (n := 155) C dX5_reading_154 0 rfl rfl ?_
          refine y_get (ci := 5) (f := 0) (n := 158) C in_X5 hO.1 rfl (by decide) wd_180 rfl rfl dX5_reading_155 rfl ?_
          refine y_getN (ci := 3) (f := 0) (n := 161) C in_X3 hO.2.1.1 rfl (by decide) wd_124 rfl rfl dX5_reading_158 rfl ?_
          refine y_cp (n := 164) C (fun r hr H locs la hP hS hl => y_runVN (ci := 2) (st := []) C ky_X2_toldSize wd_551 ⟨Nat.le_of_ble_eq_true rfl, Nat.le_of_ble_eq_true rfl⟩ hO.2.1.2.2.1 rfl (mX2_toldSize hO.2.1.2.2 hO.2.1.2.1 w g.2.1 r hr) rfl (Nat.le_of_ble_eq_true rfl) rfl dX5_reading_161 hP hS hl) rfl (fun v12 hv12 => ?_)
          exact y_rp C hR dX5_reading_164
        refine y_if (fun h13 => ?_) (fun h13 => ?_)
        · refine y_swIn (tgt := 165) C 135 dX5_reading_30 (by rw [h13]; decide) (by rw [h13]; decide) (by rw [h13]; rfl) (by decide) ?_
          refine y_aload_n (n := 166) C dX5_reading_165 0 rfl rfl ?_
          refine y_get (ci := 5) (f := 0) (n := 169) C in_X5 hO.1 rfl (by decide) wd_180 rfl rfl dX5_reading_166 rfl ?_
          refine y_getN (ci := 3) (f := 1) (n := 172) C in_X3 hO.2.1.1 rfl (by decide) wd_126 rfl rfl dX5_reading_169 rfl ?_
          refine y_aload_n (n := 173) C dX5_reading_172 0 rfl rfl ?_
          refine y_get (ci := 5) (f := 0) (n := 176) C in_X5 hO.1 rfl (by decide) wd_180 rfl rfl dX5_reading_173 rfl ?_
          refine y_getN (ci := 3) (f := 0) (n := 179) C in_X3 hO.2.1.1 rfl (by decide) wd_124 rfl rfl dX5_reading_176 rfl ?_
          refine y_cp (n := 182) C (fun r hr H locs la hP hS hl => y_runVN (ci := 2) (st := []) C ky_X2_isOver wd_331 ⟨Nat.le_of_ble_eq_true rfl, Nat.le_of_ble_eq_true rfl⟩ hO.2.1.2.2.1 rfl (mX2_isOver hO.2.1.2.2 hO.2.1.2.1 w g.2.1 r hr) rfl (Nat.le_of_ble_eq_true rfl) rfl dX5_reading_179 hP hS hl) rfl (fun v14 hv14 => ?_)
          refine y_cp (n := 185) C (fun r hr H locs la hP hS hl => y_runS (st := []) C ky_X5_oneIf wd_360 ⟨Nat.le_of_ble_eq_true rfl, Nat.le_of_ble_eq_true rfl⟩ (mX5_oneIf w v14 g.2.1 r hr) rfl (Nat.le_of_ble_eq_true rfl) rfl dX5_reading_182 hP hS hl) rfl (fun v15 hv15 => ?_)
          exact y_rp C hR dX5_reading_185
        refine y_if (fun h16 => ?_) (fun h16 => ?_)
        · refine y_swIn (tgt := 186) C 156 dX5_reading_30 (by rw [h16]; decide) (by rw [h16]; decide) (by rw [h16]; rfl) (by decide) ?_
          refine y_aload_n (n := 187) C dX5_reading_186 0 rfl rfl ?_
          refine y_get (ci := 5) (f := 0) (n := 190) C in_X5 hO.1 rfl (by decide) wd_180 rfl rfl dX5_reading_187 rfl ?_
          refine y_getN (ci := 3) (f := 1) (n := 193) C in_X3 hO.2.1.1 rfl (by decide) wd_126 rfl rfl dX5_reading_190 rfl ?_
          refine y_aload_n (n := 194) C dX5_reading_193 0 rfl rfl ?_
          refine y_get (ci := 5) (f := 0) (n := 197) C in_X5 hO.1 rfl (by decide) wd_180 rfl rfl dX5_reading_194 rfl ?_
          refine y_getN (ci := 3) (f := 0) (n := 200) C in_X3 hO.2.1.1 rfl (by decide) wd_124 rfl rfl dX5_reading_197 rfl ?_
          refine y_cp (n := 203) C (fun r hr H locs la hP hS hl => y_runVN (ci := 2) (st := []) C ky_X2_isOver wd_331 ⟨Nat.le_of_ble_eq_true rfl, Nat.le_of_ble_eq_true rfl⟩ hO.2.1.2.2.1 rfl (mX2_isOver hO.2.1.2.2 hO.2.1.2.1 w g.2.1 r hr) rfl (Nat.le_of_ble_eq_true rfl) rfl dX5_reading_200 hP hS hl) rfl (fun v17 hv17 => ?_)
          refine y_if_eq (tgt := 211) (n := 206) C dX5_reading_203 (by decide) rfl (fun h18 => ?_) (fun h18 => ?_)
          · refine y_aload_n (n := 212) C dX5_reading_211 0 rfl rfl ?_
            refine y_get (ci := 5) (f := 0) (n := 215) C in_X5 hO.1 rfl (by decide) wd_180 rfl rfl dX5_reading_212 rfl ?_
            refine y_getN (ci := 3) (f := 1) (n := 218) C in_X3 hO.2.1.1 rfl (by decide) wd_126 rfl rfl dX5_reading_215 rfl ?_
            refine y_aload_n (n := 219) C dX5_reading_218 0 rfl rfl ?_
            refine y_get (ci := 5) (f := 0) (n := 222) C in_X5 hO.1 rfl (by decide) wd_180 rfl rfl dX5_reading_219 rfl ?_
            refine y_getN (ci := 3) (f := 0) (n := 225) C in_X3 hO.2.1.1 rfl (by decide) wd_124 rfl rfl dX5_reading_222 rfl ?_
            refine y_cp (n := 228) C (fun r hr H locs la hP hS hl => y_runVN (ci := 2) (st := []) C ky_X2_nextList wd_556 ⟨Nat.le_of_ble_eq_true rfl, Nat.le_of_ble_eq_true rfl⟩ hO.2.1.2.2.1 rfl (mX2_nextList hO.2.1.2.2 hO.2.1.2.1 w g.2.1 r hr) rfl (Nat.le_of_ble_eq_true rfl) rfl dX5_reading_225 hP hS hl) rfl (fun v19 hv19 => ?_)
            exact y_rp C hR dX5_reading_228
          · refine y_bipush (n := 208) C ((-5) : Int32) dX5_reading_206 (by decide) rfl ?_
            refine y_goto (tgt := 228) C dX5_reading_208 (by decide) ?_
            exact y_rp C hR dX5_reading_228
        refine y_if (fun h20 => ?_) (fun h20 => ?_)
        · refine y_swIn (tgt := 229) C 199 dX5_reading_30 (by rw [h20]; decide) (by rw [h20]; decide) (by rw [h20]; rfl) (by decide) ?_
          refine y_aload_n (n := 230) C dX5_reading_229 0 rfl rfl ?_
          refine y_get (ci := 5) (f := 0) (n := 233) C in_X5 hO.1 rfl (by decide) wd_180 rfl rfl dX5_reading_230 rfl ?_
          refine y_getN (ci := 3) (f := 1) (n := 236) C in_X3 hO.2.1.1 rfl (by decide) wd_126 rfl rfl dX5_reading_233 rfl ?_
          refine y_aload_n (n := 237) C dX5_reading_236 0 rfl rfl ?_
          refine y_get (ci := 5) (f := 0) (n := 240) C in_X5 hO.1 rfl (by decide) wd_180 rfl rfl dX5_reading_237 rfl ?_
          refine y_getN (ci := 3) (f := 0) (n := 243) C in_X3 hO.2.1.1 rfl (by decide) wd_124 rfl rfl dX5_reading_240 rfl ?_
          refine y_cp (n := 246) C (fun r hr H locs la hP hS hl => y_runVN (ci := 2) (st := []) C ky_X2_weighedBounds wd_557 ⟨Nat.le_of_ble_eq_true rfl, Nat.le_of_ble_eq_true rfl⟩ hO.2.1.2.2.1 rfl (mX2_weighedBounds hO.2.1.2.2 hO.2.1.2.1 w g.2.1 r hr) rfl (Nat.le_of_ble_eq_true rfl) rfl dX5_reading_243 hP hS hl) rfl (fun v21 hv21 => ?_)
          exact y_rp C hR dX5_reading_246
        refine y_if (fun h22 => ?_) (fun h22 => ?_)
        · refine y_swIn (tgt := 247) C 217 dX5_reading_30 (by rw [h22]; decide) (by rw [h22]; decide) (by rw [h22]; rfl) (by decide) ?_
          refine y_aload_n (n := 248) C dX5_reading_247 0 rfl rfl ?_
          refine y_get (ci := 5) (f := 0) (n := 251) C in_X5 hO.1 rfl (by decide) wd_180 rfl rfl dX5_reading_248 rfl ?_
          refine y_getN (ci := 3) (f := 1) (n := 254) C in_X3 hO.2.1.1 rfl (by decide) wd_126 rfl rfl dX5_reading_251 rfl ?_
          refine y_aload_n (n := 255) C dX5_reading_254 0 rfl rfl ?_
          refine y_get (ci := 5) (f := 0) (n := 258) C in_X5 hO.1 rfl (by decide) wd_180 rfl rfl dX5_reading_255 rfl ?_
          refine y_getN (ci := 3) (f := 0) (n := 261) C in_X3 hO.2.1.1 rfl (by decide) wd_124 rfl rfl dX5_reading_258 rfl ?_
          refine y_cp (n := 264) C (fun r hr H locs la hP hS hl => y_runVN (ci := 2) (st := []) C ky_X2_lowOfLastTold wd_558 ⟨Nat.le_of_ble_eq_true rfl, Nat.le_of_ble_eq_true rfl⟩ hO.2.1.2.2.1 rfl (mX2_lowOfLastTold hO.2.1.2.2 hO.2.1.2.1 w g.2.1 r hr) rfl (Nat.le_of_ble_eq_true rfl) rfl dX5_reading_261 hP hS hl) rfl (fun v23 hv23 => ?_)
          exact y_rp C hR dX5_reading_264
        refine y_if (fun h24 => ?_) (fun h24 => ?_)
        · refine y_swIn (tgt := 265) C 235 dX5_reading_30 (by rw [h24]; decide) (by rw [h24]; decide) (by rw [h24]; rfl) (by decide) ?_
          refine y_aload_n (n := 266) C dX5_reading_265 0 rfl rfl ?_
          refine y_get (ci := 5) (f := 0) (n := 269) C in_X5 hO.1 rfl (by decide) wd_180 rfl rfl dX5_reading_266 rfl ?_
          refine y_getN (ci := 3) (f := 1) (n := 272) C in_X3 hO.2.1.1 rfl (by decide) wd_126 rfl rfl dX5_reading_269 rfl ?_
          refine y_cp (n := 275) C (fun r hr H locs la hP hS hl => y_runVN (ci := 2) (st := []) C ky_X2_caughtSize wd_541 ⟨Nat.le_of_ble_eq_true rfl, Nat.le_of_ble_eq_true rfl⟩ hO.2.1.2.2.1 rfl (mX2_caughtSize hO.2.1.2.2 w g.2.1 r hr) rfl (Nat.le_of_ble_eq_true rfl) rfl dX5_reading_272 hP hS hl) rfl (fun v25 hv25 => ?_)
          exact y_rp C hR dX5_reading_275
        refine y_if (fun h26 => ?_) (fun h26 => ?_)
        · refine y_swIn (tgt := 276) C 246 dX5_reading_30 (by rw [h26]; decide) (by rw [h26]; decide) (by rw [h26]; rfl) (by decide) ?_
          refine y_aload_n (n := 277) C dX5_reading_276 0 rfl rfl ?_
          refine y_get (ci := 5) (f := 0) (n := 280) C in_X5 hO.1 rfl (by decide) wd_180 rfl rfl dX5_reading_277 rfl ?_
          refine y_getN (ci := 3) (f := 1) (n := 283) C in_X3 hO.2.1.1 rfl (by decide) wd_126 rfl rfl dX5_reading_280 rfl ?_
          refine y_aload_n (n := 284) C dX5_reading_283 0 rfl rfl ?_
          refine y_get (ci := 5) (f := 0) (n := 287) C in_X5 hO.1 rfl (by decide) wd_180 rfl rfl dX5_reading_284 rfl ?_
          refine y_getN (ci := 3) (f := 0) (n := 290) C in_X3 hO.2.1.1 rfl (by decide) wd_124 rfl rfl dX5_reading_287 rfl ?_
          refine y_cp (n := 293) C (fun r hr H locs la hP hS hl => y_runVN (ci := 2) (st := []) C ky_X2_toldNotWanted wd_563 ⟨Nat.le_of_ble_eq_true rfl, Nat.le_of_ble_eq_true rfl⟩ hO.2.1.2.2.1 rfl (mX2_toldNotWanted hO.2.1.2.2 hO.2.1.2.1 w g.2.1 r hr) rfl (Nat.le_of_ble_eq_true rfl) rfl dX5_reading_290 hP hS hl) rfl (fun v27 hv27 => ?_)
          exact y_rp C hR dX5_reading_293
        refine y_swOut (tgt := 294) C dX5_reading_30 (by have gh4 := sw_ne (k := 0) (by decide) h4; have gh5 := sw_ne (k := 1) (by decide) h5; have gh6 := sw_ne (k := 2) (by decide) h6; have gh8 := sw_ne (k := 3) (by decide) h8; have gh10 := sw_ne (k := 4) (by decide) h10; have gh11 := sw_ne (k := 5) (by decide) h11; have gh13 := sw_ne (k := 6) (by decide) h13; have gh16 := sw_ne (k := 7) (by decide) h16; have gh20 := sw_ne (k := 8) (by decide) h20; have gh22 := sw_ne (k := 9) (by decide) h22; have gh24 := sw_ne (k := 10) (by decide) h24; have gh26 := sw_ne (k := 11) (by decide) h26; omega) (by decide) ?_
        refine y_aload_n (n := 295) C dX5_reading_294 0 rfl rfl ?_
        refine y_get (ci := 5) (f := 0) (n := 298) C in_X5 hO.1 rfl (by decide) wd_180 rfl rfl dX5_reading_295 rfl ?_
        refine y_getN (ci := 3) (f := 1) (n := 301) C in_X3 hO.2.1.1 rfl (by decide) wd_126 rfl rfl dX5_reading_298 rfl ?_
        refine y_aload_n (n := 302) C dX5_reading_301 0 rfl rfl ?_
        refine y_get (ci := 5) (f := 0) (n := 305) C in_X5 hO.1 rfl (by decide) wd_180 rfl rfl dX5_reading_302 rfl ?_
        refine y_getN (ci := 3) (f := 0) (n := 308) C in_X3 hO.2.1.1 rfl (by decide) wd_124 rfl rfl dX5_reading_305 rfl ?_
        refine y_cp (n := 311) C (fun r hr H locs la hP hS hl => y_runVN (ci := 2) (st := []) C ky_X2_tellingLess wd_569 ⟨Nat.le_of_ble_eq_true rfl, Nat.le_of_ble_eq_true rfl⟩ hO.2.1.2.2.1 rfl (mX2_tellingLess hO.2.1.2.2 hO.2.1.2.1 w g.2.1 r hr) rfl (Nat.le_of_ble_eq_true rfl) rfl dX5_reading_308 hP hS hl) rfl (fun v28 hv28 => ?_)
        exact y_rp C hR dX5_reading_311
      · refine y_bipush (n := 28) C ((-4) : Int32) dX5_reading_26 (by decide) rfl ?_
        exact y_rp C hR dX5_reading_28
    · refine y_bipush (n := 12) C ((-2) : Int32) dX5_reading_10 (by decide) rfl ?_
      exact y_rp C hR dX5_reading_12
theorem mX5_reading {E : Ex} {o : Nat} (hO : shB E.2.2.2.2.2.1 o) (w : Wd) (a1 : Int32) (l : Launch) : MP l yX5_reading cX5_reading 2 (some .int) { frames := 6, cells := 0, slots := 0, locals := 136 } E [.ref (E.2.2.2.2.1 + o), .int a1] w (fX5_reading w o a1) :=
  y_met (Qc := fun r => yQi E (r, w)) (by decide +kernel) (Nat.le_of_ble_eq_true rfl) (fun g C hR => eX5_reading C hR hO w a1) l
def fX5_seen (w : Wd) (o : Nat) (a1 : Int32) (a2 : Int32) : Option (Int32) :=
  (fX5_isDocument w a1).bind fun v1 =>
  if v1 = 0 then
    some (-1)
  else
    if a2 < 0 then
      some (-2)
    else
      if a2 ≤ 4 then
        if (bz (w.1 (o + 1 + 7) 0)) = 0 then
          some (-4)
        else
          (fX2_isSeen w (o + 1 + 7) a1).bind fun v6 =>
          if v6 = 0 then
            some (-5)
          else
            if a2 = 0 then
              (fX5_at w (o + 1 + 7 + 6) 60 a1).bind fun v9 =>
              some v9
            else
            if a2 = 1 then
              (fX2_highOf w (o + 1 + 7) (o + 1 + 1) a1).bind fun v11 =>
              some v11
            else
            if a2 = 2 then
              (fX2_knownListsOf w (o + 1 + 7) (o + 1 + 1) a1).bind fun v13 =>
              some v13
            else
            if a2 = 3 then
              (fX2_frontPlaceOf w (o + 1 + 7) a1).bind fun v15 =>
              some v15
            else
            (fX5_at w (o + 1 + 7 + 7) 60 a1).bind fun v16 =>
            some v16
      else
        some (-2)
set_option maxRecDepth 4000 in
theorem eX5_seen {g : Gx} {E : Ex} (C : CC g E cX5_seen 3 RX5 4 89) (hR : RT g (some .int)) {o : Nat} (hO : shB E.2.2.2.2.2.1 o) (w : Wd) (a1 : Int32) (a2 : Int32) : YO g E 3 (QP g E w) (fX5_seen w o a1 a2) w 0 [(0, .ref (E.2.2.2.2.1 + o)), (1, .int a1), (2, .int a2)] [] := by
  unfold fX5_seen
  refine y_iload_n (n := 1) C dX5_seen_0 1 rfl rfl ?_
  refine y_cp (n := 4) C (fun r hr H locs la hP hS hl => y_runS (st := []) C ky_X5_isDocument wd_207 ⟨Nat.le_of_ble_eq_true rfl, Nat.le_of_ble_eq_true rfl⟩ (mX5_isDocument w a1 g.2.1 r hr) rfl (Nat.le_of_ble_eq_true rfl) rfl dX5_seen_1 hP hS hl) rfl (fun v1 hv1 => ?_)
  refine y_if_ne (tgt := 9) (n := 7) C dX5_seen_4 (by decide) rfl (fun h2 => ?_) (fun h2 => ?_)
  · refine y_iload_n (n := 10) C dX5_seen_9 2 rfl rfl ?_
    refine y_if_lt (tgt := 18) (n := 13) C dX5_seen_10 (by decide) rfl (fun h3 => ?_) (fun h3 => ?_)
    · refine y_bipush (n := 20) C ((-2) : Int32) dX5_seen_18 (by decide) rfl ?_
      exact y_rp C hR dX5_seen_20
    · refine y_iload_n (n := 14) C dX5_seen_13 2 rfl rfl ?_
      refine y_iconst (n := 15) C (4 : Int32) dX5_seen_14 (by decide) rfl ?_
      refine y_icmp_le (tgt := 21) (n := 18) C dX5_seen_15 (by decide) rfl (fun h4 => ?_) (fun h4 => ?_)
      · refine y_aload_n (n := 22) C dX5_seen_21 0 rfl rfl ?_
        refine y_get (ci := 5) (f := 0) (n := 25) C in_X5 hO.1 rfl (by decide) wd_180 rfl rfl dX5_seen_22 rfl ?_
        refine y_getN (ci := 3) (f := 1) (n := 28) C in_X3 hO.2.1.1 rfl (by decide) wd_126 rfl rfl dX5_seen_25 rfl ?_
        refine y_getN (ci := 2) (f := 0) (n := 31) C in_X2 hO.2.1.2.2.1 rfl (by decide) wd_68 rfl rfl dX5_seen_28 rfl ?_
        refine y_if_ne (tgt := 37) (n := 34) C dX5_seen_31 (by decide) rfl (fun h5 => ?_) (fun h5 => ?_)
        · refine y_aload_n (n := 38) C dX5_seen_37 0 rfl rfl ?_
          refine y_get (ci := 5) (f := 0) (n := 41) C in_X5 hO.1 rfl (by decide) wd_180 rfl rfl dX5_seen_38 rfl ?_
          refine y_getN (ci := 3) (f := 1) (n := 44) C in_X3 hO.2.1.1 rfl (by decide) wd_126 rfl rfl dX5_seen_41 rfl ?_
          refine y_iload_n (n := 45) C dX5_seen_44 1 rfl rfl ?_
          refine y_cp (n := 48) C (fun r hr H locs la hP hS hl => y_runVN (ci := 2) (st := []) C ky_X2_isSeen wd_581 ⟨Nat.le_of_ble_eq_true rfl, Nat.le_of_ble_eq_true rfl⟩ hO.2.1.2.2.1 rfl (mX2_isSeen hO.2.1.2.2 w a1 g.2.1 r hr) rfl (Nat.le_of_ble_eq_true rfl) rfl dX5_seen_45 hP hS hl) rfl (fun v6 hv6 => ?_)
          refine y_if_ne (tgt := 54) (n := 51) C dX5_seen_48 (by decide) rfl (fun h7 => ?_) (fun h7 => ?_)
          · refine y_iload_n (n := 55) C dX5_seen_54 2 rfl rfl ?_
            refine y_if (fun h8 => ?_) (fun h8 => ?_)
            · refine y_swIn (tgt := 84) C 29 dX5_seen_55 (by rw [h8]; decide) (by rw [h8]; decide) (by rw [h8]; rfl) (by decide) ?_
              refine y_aload_n (n := 85) C dX5_seen_84 0 rfl rfl ?_
              refine y_get (ci := 5) (f := 0) (n := 88) C in_X5 hO.1 rfl (by decide) wd_180 rfl rfl dX5_seen_85 rfl ?_
              refine y_getN (ci := 3) (f := 1) (n := 91) C in_X3 hO.2.1.1 rfl (by decide) wd_126 rfl rfl dX5_seen_88 rfl ?_
              refine y_getN (ci := 2) (f := 12) (n := 94) C in_X2 hO.2.1.2.2.1 rfl (by decide) wd_83 rfl rfl dX5_seen_91 rfl ?_
              refine y_iload_n (n := 95) C dX5_seen_94 1 rfl rfl ?_
              refine y_cp (n := 98) C (fun r hr H locs la hP hS hl => y_runS (st := []) C ky_X5_at wd_280 ⟨Nat.le_of_ble_eq_true rfl, Nat.le_of_ble_eq_true rfl⟩ (mX5_at hO.2.1.2.2.2.2.2.2.2.2.1 w a1 g.2.1 r hr) rfl (Nat.le_of_ble_eq_true rfl) rfl dX5_seen_95 hP hS hl) rfl (fun v9 hv9 => ?_)
              exact y_rp C hR dX5_seen_98
            refine y_if (fun h10 => ?_) (fun h10 => ?_)
            · refine y_swIn (tgt := 99) C 44 dX5_seen_55 (by rw [h10]; decide) (by rw [h10]; decide) (by rw [h10]; rfl) (by decide) ?_
              refine y_aload_n (n := 100) C dX5_seen_99 0 rfl rfl ?_
              refine y_get (ci := 5) (f := 0) (n := 103) C in_X5 hO.1 rfl (by decide) wd_180 rfl rfl dX5_seen_100 rfl ?_
              refine y_getN (ci := 3) (f := 1) (n := 106) C in_X3 hO.2.1.1 rfl (by decide) wd_126 rfl rfl dX5_seen_103 rfl ?_
              refine y_aload_n (n := 107) C dX5_seen_106 0 rfl rfl ?_
              refine y_get (ci := 5) (f := 0) (n := 110) C in_X5 hO.1 rfl (by decide) wd_180 rfl rfl dX5_seen_107 rfl ?_
              refine y_getN (ci := 3) (f := 0) (n := 113) C in_X3 hO.2.1.1 rfl (by decide) wd_124 rfl rfl dX5_seen_110 rfl ?_
              refine y_iload_n (n := 114) C dX5_seen_113 1 rfl rfl ?_
              refine y_cp (n := 117) C (fun r hr H locs la hP hS hl => y_runVN (ci := 2) (st := []) C ky_X2_highOf wd_582 ⟨Nat.le_of_ble_eq_true rfl, Nat.le_of_ble_eq_true rfl⟩ hO.2.1.2.2.1 rfl (mX2_highOf hO.2.1.2.2 hO.2.1.2.1 w a1 g.2.1 r hr) rfl (Nat.le_of_ble_eq_true rfl) rfl dX5_seen_114 hP hS hl) rfl (fun v11 hv11 => ?_)
              exact y_rp C hR dX5_seen_117
            refine y_if (fun h12 => ?_) (fun h12 => ?_)
            · refine y_swIn (tgt := 118) C 63 dX5_seen_55 (by rw [h12]; decide) (by rw [h12]; decide) (by rw [h12]; rfl) (by decide) ?_
              refine y_aload_n (n := 119) C dX5_seen_118 0 rfl rfl ?_
              refine y_get (ci := 5) (f := 0) (n := 122) C in_X5 hO.1 rfl (by decide) wd_180 rfl rfl dX5_seen_119 rfl ?_
              refine y_getN (ci := 3) (f := 1) (n := 125) C in_X3 hO.2.1.1 rfl (by decide) wd_126 rfl rfl dX5_seen_122 rfl ?_
              refine y_aload_n (n := 126) C dX5_seen_125 0 rfl rfl ?_
              refine y_get (ci := 5) (f := 0) (n := 129) C in_X5 hO.1 rfl (by decide) wd_180 rfl rfl dX5_seen_126 rfl ?_
              refine y_getN (ci := 3) (f := 0) (n := 132) C in_X3 hO.2.1.1 rfl (by decide) wd_124 rfl rfl dX5_seen_129 rfl ?_
              refine y_iload_n (n := 133) C dX5_seen_132 1 rfl rfl ?_
              refine y_cp (n := 136) C (fun r hr H locs la hP hS hl => y_runVN (ci := 2) (st := []) C ky_X2_knownListsOf wd_583 ⟨Nat.le_of_ble_eq_true rfl, Nat.le_of_ble_eq_true rfl⟩ hO.2.1.2.2.1 rfl (mX2_knownListsOf hO.2.1.2.2 hO.2.1.2.1 w a1 g.2.1 r hr) rfl (Nat.le_of_ble_eq_true rfl) rfl dX5_seen_133 hP hS hl) rfl (fun v13 hv13 => ?_)
              exact y_rp C hR dX5_seen_136
            refine y_if (fun h14 => ?_) (fun h14 => ?_)
            · refine y_swIn (tgt := 137) C 82 dX5_seen_55 (by rw [h14]; decide) (by rw [h14]; decide) (by rw [h14]; rfl) (by decide) ?_
              refine y_aload_n (n := 138) C dX5_seen_137 0 rfl rfl ?_
              refine y_get (ci := 5) (f := 0) (n := 141) C in_X5 hO.1 rfl (by decide) wd_180 rfl rfl dX5_seen_138 rfl ?_
              refine y_getN (ci := 3) (f := 1) (n := 144) C in_X3 hO.2.1.1 rfl (by decide) wd_126 rfl rfl dX5_seen_141 rfl ?_
              refine y_iload_n (n := 145) C dX5_seen_144 1 rfl rfl ?_
              refine y_cp (n := 148) C (fun r hr H locs la hP hS hl => y_runVN (ci := 2) (st := []) C ky_X2_frontPlaceOf wd_587 ⟨Nat.le_of_ble_eq_true rfl, Nat.le_of_ble_eq_true rfl⟩ hO.2.1.2.2.1 rfl (mX2_frontPlaceOf hO.2.1.2.2 w a1 g.2.1 r hr) rfl (Nat.le_of_ble_eq_true rfl) rfl dX5_seen_145 hP hS hl) rfl (fun v15 hv15 => ?_)
              exact y_rp C hR dX5_seen_148
            refine y_swOut (tgt := 149) C dX5_seen_55 (by have gh8 := sw_ne (k := 0) (by decide) h8; have gh10 := sw_ne (k := 1) (by decide) h10; have gh12 := sw_ne (k := 2) (by decide) h12; have gh14 := sw_ne (k := 3) (by decide) h14; omega) (by decide) ?_
            refine y_aload_n (n := 150) C dX5_seen_149 0 rfl rfl ?_
            refine y_get (ci := 5) (f := 0) (n := 153) C in_X5 hO.1 rfl (by decide) wd_180 rfl rfl dX5_seen_150 rfl ?_
            refine y_getN (ci := 3) (f := 1) (n := 156) C in_X3 hO.2.1.1 rfl (by decide) wd_126 rfl rfl dX5_seen_153 rfl ?_
            refine y_getN (ci := 2) (f := 13) (n := 159) C in_X2 hO.2.1.2.2.1 rfl (by decide) wd_85 rfl rfl dX5_seen_156 rfl ?_
            refine y_iload_n (n := 160) C dX5_seen_159 1 rfl rfl ?_
            refine y_cp (n := 163) C (fun r hr H locs la hP hS hl => y_runS (st := []) C ky_X5_at wd_280 ⟨Nat.le_of_ble_eq_true rfl, Nat.le_of_ble_eq_true rfl⟩ (mX5_at hO.2.1.2.2.2.2.2.2.2.2.2.1 w a1 g.2.1 r hr) rfl (Nat.le_of_ble_eq_true rfl) rfl dX5_seen_160 hP hS hl) rfl (fun v16 hv16 => ?_)
            exact y_rp C hR dX5_seen_163
          · refine y_bipush (n := 53) C ((-5) : Int32) dX5_seen_51 (by decide) rfl ?_
            exact y_rp C hR dX5_seen_53
        · refine y_bipush (n := 36) C ((-4) : Int32) dX5_seen_34 (by decide) rfl ?_
          exact y_rp C hR dX5_seen_36
      · refine y_bipush (n := 20) C ((-2) : Int32) dX5_seen_18 (by decide) rfl ?_
        exact y_rp C hR dX5_seen_20
  · refine y_iconst (n := 8) C ((-1) : Int32) dX5_seen_7 (by decide) rfl ?_
    exact y_rp C hR dX5_seen_8
theorem mX5_seen {E : Ex} {o : Nat} (hO : shB E.2.2.2.2.2.1 o) (w : Wd) (a1 : Int32) (a2 : Int32) (l : Launch) : MP l yX5_seen cX5_seen 3 (some .int) { frames := 4, cells := 0, slots := 0, locals := 89 } E [.ref (E.2.2.2.2.1 + o), .int a1, .int a2] w (fX5_seen w o a1 a2) :=
  y_met (Qc := fun r => yQi E (r, w)) (by decide +kernel) (Nat.le_of_ble_eq_true rfl) (fun g C hR => eX5_seen C hR hO w a1 a2) l
