/-! X5_delete X5_document X5_drop X5_end X5_entry X5_keep X5_list X5_want X5_weight X5_perform X5_reading X5_restore X5_seen X5_step X5_told X5_trial -/
def fX5_delete (y : Ly) (w : Wd) (o : Nat) (a1 : Int32) : Option (Int32 × Wd) :=
  ob2 (fX5_setDeleted y w o a1 1) fun v1 w2 =>
  some (v1, w2)
set_option maxRecDepth 4000 in
theorem eX5_delete {g : Gx} {E : Ex} (C : CC g E cX5_delete 2 RX5 6 155) (hR : RT g (some .int)) {o : Nat} (hO : shB E.2.2.2.2.2.1 o) (w : Wd) (a1 : Int32) : YO g E 2 (QI g E) (fX5_delete E.2.2.2.2.2.1 w o a1) w 0 [(0, .ref (E.2.2.2.2.1 + o)), (1, .int a1)] [] := by
  unfold fX5_delete
  refine y_aload_n (n := 1) C dX5_delete_0 0 rfl rfl ?_
  refine y_iload_n (n := 2) C dX5_delete_1 1 rfl rfl ?_
  refine y_iconst (n := 3) C (1 : Int32) dX5_delete_2 (by decide) rfl ?_
  refine y_ci2 (n := 6) C (fun r hr H locs la hP hS hl => y_runV (ci := 5) (st := []) C ky_X5_setDeleted wd_299 ⟨Nat.le_of_ble_eq_true rfl, Nat.le_of_ble_eq_true rfl⟩ hO.1 rfl (mX5_setDeleted hO w a1 1 g.2.1 r hr) rfl (Nat.le_of_ble_eq_true rfl) rfl dX5_delete_3 hP hS hl) rfl (fun v1 w2 hv1 => ?_)
  exact y_ri C hR dX5_delete_6
theorem mX5_delete {E : Ex} {o : Nat} (hO : shB E.2.2.2.2.2.1 o) (w : Wd) (a1 : Int32) (l : Launch) : MI l yX5_delete cX5_delete 2 (some .int) { frames := 6, cells := 0, slots := 0, locals := 155 } E [.ref (E.2.2.2.2.1 + o), .int a1] w (fX5_delete E.2.2.2.2.2.1 w o a1) :=
  y_met (Qc := yQi E) (by decide +kernel) (Nat.le_of_ble_eq_true rfl) (fun g C hR => eX5_delete C hR hO w a1) l
def fX5_document (w : Wd) (o : Nat) (a1 : Int32) (a2 : Int32) : Option (Int32) :=
  (fX5_isDocument w a1).bind fun v1 =>
  if v1 = 0 then
    some (-1)
  else
    if a2 = 0 then
      (fX1_isDeleted w (o + 1 + 1) a1).bind fun v4 =>
      (fX5_oneIf w v4).bind fun v5 =>
      some v5
    else
    if a2 = 1 then
      (fX1_valueOf w (o + 1 + 1) a1).bind fun v7 =>
      some v7
    else
    if a2 = 2 then
      (fX1_listsWith w (o + 1 + 1) a1).bind fun v9 =>
      some v9
    else
    if a2 = 3 then
      (fX1_wantedPlaceOf w (o + 1 + 1) a1).bind fun v11 =>
      some v11
    else
    some (-2)
set_option maxRecDepth 4000 in
theorem eX5_document {g : Gx} {E : Ex} (C : CC g E cX5_document 3 RX5 5 112) (hR : RT g (some .int)) {o : Nat} (hO : shB E.2.2.2.2.2.1 o) (w : Wd) (a1 : Int32) (a2 : Int32) : YO g E 3 (QP g E w) (fX5_document w o a1 a2) w 0 [(0, .ref (E.2.2.2.2.1 + o)), (1, .int a1), (2, .int a2)] [] := by
  unfold fX5_document
  refine y_iload_n (n := 1) C dX5_document_0 1 rfl rfl ?_
  refine y_cp (n := 4) C (fun r hr H locs la hP hS hl => y_runS (st := []) C ky_X5_isDocument wd_217 ⟨Nat.le_of_ble_eq_true rfl, Nat.le_of_ble_eq_true rfl⟩ (mX5_isDocument w a1 g.2.1 r hr) rfl (Nat.le_of_ble_eq_true rfl) rfl dX5_document_1 hP hS hl) rfl (fun v1 hv1 => ?_)
  refine y_if_ne (tgt := 9) (n := 7) C dX5_document_4 (by decide) rfl (fun h2 => ?_) (fun h2 => ?_)
  · refine y_iload_n (n := 10) C dX5_document_9 2 rfl rfl ?_
    refine y_if (fun h3 => ?_) (fun h3 => ?_)
    · refine y_swIn (tgt := 40) C 30 dX5_document_10 (by rw [h3]; decide) (by rw [h3]; decide) (by rw [h3]; rfl) (by decide) ?_
      refine y_aload_n (n := 41) C dX5_document_40 0 rfl rfl ?_
      refine y_get (ci := 5) (f := 0) (n := 44) C in_X5 hO.1 rfl (by decide) wd_191 rfl rfl dX5_document_41 rfl ?_
      refine y_getN (ci := 3) (f := 0) (n := 47) C in_X3 hO.2.1.1 rfl (by decide) wd_133 rfl rfl dX5_document_44 rfl ?_
      refine y_iload_n (n := 48) C dX5_document_47 1 rfl rfl ?_
      refine y_cp (n := 51) C (fun r hr H locs la hP hS hl => y_runVN (ci := 1) (st := []) C ky_X1_isDeleted wd_303 ⟨Nat.le_of_ble_eq_true rfl, Nat.le_of_ble_eq_true rfl⟩ hO.2.1.2.1.1 rfl (mX1_isDeleted hO.2.1.2.1 w a1 g.2.1 r hr) rfl (Nat.le_of_ble_eq_true rfl) rfl dX5_document_48 hP hS hl) rfl (fun v4 hv4 => ?_)
      refine y_cp (n := 54) C (fun r hr H locs la hP hS hl => y_runS (st := []) C ky_X5_oneIf wd_404 ⟨Nat.le_of_ble_eq_true rfl, Nat.le_of_ble_eq_true rfl⟩ (mX5_oneIf w v4 g.2.1 r hr) rfl (Nat.le_of_ble_eq_true rfl) rfl dX5_document_51 hP hS hl) rfl (fun v5 hv5 => ?_)
      exact y_rp C hR dX5_document_54
    refine y_if (fun h6 => ?_) (fun h6 => ?_)
    · refine y_swIn (tgt := 55) C 45 dX5_document_10 (by rw [h6]; decide) (by rw [h6]; decide) (by rw [h6]; rfl) (by decide) ?_
      refine y_aload_n (n := 56) C dX5_document_55 0 rfl rfl ?_
      refine y_get (ci := 5) (f := 0) (n := 59) C in_X5 hO.1 rfl (by decide) wd_191 rfl rfl dX5_document_56 rfl ?_
      refine y_getN (ci := 3) (f := 0) (n := 62) C in_X3 hO.2.1.1 rfl (by decide) wd_133 rfl rfl dX5_document_59 rfl ?_
      refine y_iload_n (n := 63) C dX5_document_62 1 rfl rfl ?_
      refine y_cp (n := 66) C (fun r hr H locs la hP hS hl => y_runVN (ci := 1) (st := []) C ky_X1_valueOf wd_629 ⟨Nat.le_of_ble_eq_true rfl, Nat.le_of_ble_eq_true rfl⟩ hO.2.1.2.1.1 rfl (mX1_valueOf hO.2.1.2.1 w a1 g.2.1 r hr) rfl (Nat.le_of_ble_eq_true rfl) rfl dX5_document_63 hP hS hl) rfl (fun v7 hv7 => ?_)
      exact y_rp C hR dX5_document_66
    refine y_if (fun h8 => ?_) (fun h8 => ?_)
    · refine y_swIn (tgt := 67) C 57 dX5_document_10 (by rw [h8]; decide) (by rw [h8]; decide) (by rw [h8]; rfl) (by decide) ?_
      refine y_aload_n (n := 68) C dX5_document_67 0 rfl rfl ?_
      refine y_get (ci := 5) (f := 0) (n := 71) C in_X5 hO.1 rfl (by decide) wd_191 rfl rfl dX5_document_68 rfl ?_
      refine y_getN (ci := 3) (f := 0) (n := 74) C in_X3 hO.2.1.1 rfl (by decide) wd_133 rfl rfl dX5_document_71 rfl ?_
      refine y_iload_n (n := 75) C dX5_document_74 1 rfl rfl ?_
      refine y_cp (n := 78) C (fun r hr H locs la hP hS hl => y_runVN (ci := 1) (st := []) C ky_X1_listsWith wd_307 ⟨Nat.le_of_ble_eq_true rfl, Nat.le_of_ble_eq_true rfl⟩ hO.2.1.2.1.1 rfl (mX1_listsWith hO.2.1.2.1 w a1 g.2.1 r hr) rfl (Nat.le_of_ble_eq_true rfl) rfl dX5_document_75 hP hS hl) rfl (fun v9 hv9 => ?_)
      exact y_rp C hR dX5_document_78
    refine y_if (fun h10 => ?_) (fun h10 => ?_)
    · refine y_swIn (tgt := 79) C 69 dX5_document_10 (by rw [h10]; decide) (by rw [h10]; decide) (by rw [h10]; rfl) (by decide) ?_
      refine y_aload_n (n := 80) C dX5_document_79 0 rfl rfl ?_
      refine y_get (ci := 5) (f := 0) (n := 83) C in_X5 hO.1 rfl (by decide) wd_191 rfl rfl dX5_document_80 rfl ?_
      refine y_getN (ci := 3) (f := 0) (n := 86) C in_X3 hO.2.1.1 rfl (by decide) wd_133 rfl rfl dX5_document_83 rfl ?_
      refine y_iload_n (n := 87) C dX5_document_86 1 rfl rfl ?_
      refine y_cp (n := 90) C (fun r hr H locs la hP hS hl => y_runVN (ci := 1) (st := []) C ky_X1_wantedPlaceOf wd_633 ⟨Nat.le_of_ble_eq_true rfl, Nat.le_of_ble_eq_true rfl⟩ hO.2.1.2.1.1 rfl (mX1_wantedPlaceOf hO.2.1.2.1 w a1 g.2.1 r hr) rfl (Nat.le_of_ble_eq_true rfl) rfl dX5_document_87 hP hS hl) rfl (fun v11 hv11 => ?_)
      exact y_rp C hR dX5_document_90
    refine y_swOut (tgt := 91) C dX5_document_10 (by have gh3 := sw_ne (k := 0) (by decide) h3; have gh6 := sw_ne (k := 1) (by decide) h6; have gh8 := sw_ne (k := 2) (by decide) h8; have gh10 := sw_ne (k := 3) (by decide) h10; omega) (by decide) ?_
    refine y_bipush (n := 93) C ((-2) : Int32) dX5_document_91 (by decide) rfl ?_
    exact y_rp C hR dX5_document_93
  · refine y_iconst (n := 8) C ((-1) : Int32) dX5_document_7 (by decide) rfl ?_
    exact y_rp C hR dX5_document_8
theorem mX5_document {E : Ex} {o : Nat} (hO : shB E.2.2.2.2.2.1 o) (w : Wd) (a1 : Int32) (a2 : Int32) (l : Launch) : MP l yX5_document cX5_document 3 (some .int) { frames := 5, cells := 0, slots := 0, locals := 112 } E [.ref (E.2.2.2.2.1 + o), .int a1, .int a2] w (fX5_document w o a1 a2) :=
  y_met (Qc := fun r => yQi E (r, w)) (by decide +kernel) (Nat.le_of_ble_eq_true rfl) (fun g C hR => eX5_document C hR hO w a1 a2) l
def fX5_drop (y : Ly) (w : Wd) (o : Nat) (a1 : Int32) (a2 : Int32) : Option (Int32 × Wd) :=
  (fX5_isList w a1).bind fun v1 =>
  if v1 = 0 then
    some ((-1), w)
  else
    (fX5_isDocument w a2).bind fun v3 =>
    if v3 = 0 then
      some ((-1), w)
    else
      (fX1_scoreOf w (o + 1 + 1) a1 a2).bind fun v5 =>
      if v5 = 0 then
        some ((-1), w)
      else
        if (bz (w.1 (o + 1 + 7) 0)) = 0 then
          (fX0_record y w (o + 17) (o + 1)).bind fun w8 =>
          (fX1_takeOut w8 (o + 1 + 1) a1 a2).bind fun w9 =>
          (fX1_sizeOf w9 (o + 1 + 1) a1).bind fun v10 =>
          some (v10, w9)
        else
          some ((-4), w)
set_option maxRecDepth 4000 in
theorem eX5_drop {g : Gx} {E : Ex} (C : CC g E cX5_drop 3 RX5 5 133) (hR : RT g (some .int)) {o : Nat} (hO : shB E.2.2.2.2.2.1 o) (w : Wd) (a1 : Int32) (a2 : Int32) : YO g E 3 (QI g E) (fX5_drop E.2.2.2.2.2.1 w o a1 a2) w 0 [(0, .ref (E.2.2.2.2.1 + o)), (1, .int a1), (2, .int a2)] [] := by
  unfold fX5_drop
  refine y_iload_n (n := 1) C dX5_drop_0 1 rfl rfl ?_
  refine y_cp (n := 4) C (fun r hr H locs la hP hS hl => y_runS (st := []) C ky_X5_isList wd_214 ⟨Nat.le_of_ble_eq_true rfl, Nat.le_of_ble_eq_true rfl⟩ (mX5_isList w a1 g.2.1 r hr) rfl (Nat.le_of_ble_eq_true rfl) rfl dX5_drop_1 hP hS hl) rfl (fun v1 hv1 => ?_)
  refine y_if_eq (tgt := 14) (n := 7) C dX5_drop_4 (by decide) rfl (fun h2 => ?_) (fun h2 => ?_)
  · refine y_iconst (n := 15) C ((-1) : Int32) dX5_drop_14 (by decide) rfl ?_
    exact y_ri C hR dX5_drop_15
  · refine y_iload_n (n := 8) C dX5_drop_7 2 rfl rfl ?_
    refine y_cp (n := 11) C (fun r hr H locs la hP hS hl => y_runS (st := []) C ky_X5_isDocument wd_217 ⟨Nat.le_of_ble_eq_true rfl, Nat.le_of_ble_eq_true rfl⟩ (mX5_isDocument w a2 g.2.1 r hr) rfl (Nat.le_of_ble_eq_true rfl) rfl dX5_drop_8 hP hS hl) rfl (fun v3 hv3 => ?_)
    refine y_if_ne (tgt := 16) (n := 14) C dX5_drop_11 (by decide) rfl (fun h4 => ?_) (fun h4 => ?_)
    · refine y_aload_n (n := 17) C dX5_drop_16 0 rfl rfl ?_
      refine y_get (ci := 5) (f := 0) (n := 20) C in_X5 hO.1 rfl (by decide) wd_191 rfl rfl dX5_drop_17 rfl ?_
      refine y_getN (ci := 3) (f := 0) (n := 23) C in_X3 hO.2.1.1 rfl (by decide) wd_133 rfl rfl dX5_drop_20 rfl ?_
      refine y_iload_n (n := 24) C dX5_drop_23 1 rfl rfl ?_
      refine y_iload_n (n := 25) C dX5_drop_24 2 rfl rfl ?_
      refine y_cp (n := 28) C (fun r hr H locs la hP hS hl => y_runVN (ci := 1) (st := []) C ky_X1_scoreOf wd_220 ⟨Nat.le_of_ble_eq_true rfl, Nat.le_of_ble_eq_true rfl⟩ hO.2.1.2.1.1 rfl (mX1_scoreOf hO.2.1.2.1 w a1 a2 g.2.1 r hr) rfl (Nat.le_of_ble_eq_true rfl) rfl dX5_drop_25 hP hS hl) rfl (fun v5 hv5 => ?_)
      refine y_if_ne (tgt := 33) (n := 31) C dX5_drop_28 (by decide) rfl (fun h6 => ?_) (fun h6 => ?_)
      · refine y_aload_n (n := 34) C dX5_drop_33 0 rfl rfl ?_
        refine y_get (ci := 5) (f := 0) (n := 37) C in_X5 hO.1 rfl (by decide) wd_191 rfl rfl dX5_drop_34 rfl ?_
        refine y_getN (ci := 3) (f := 1) (n := 40) C in_X3 hO.2.1.1 rfl (by decide) wd_135 rfl rfl dX5_drop_37 rfl ?_
        refine y_getN (ci := 2) (f := 0) (n := 43) C in_X2 hO.2.1.2.2.1 rfl (by decide) wd_73 rfl rfl dX5_drop_40 rfl ?_
        refine y_if_eq (tgt := 49) (n := 46) C dX5_drop_43 (by decide) rfl (fun h7 => ?_) (fun h7 => ?_)
        · refine y_aload_n (n := 50) C dX5_drop_49 0 rfl rfl ?_
          refine y_get (ci := 5) (f := 1) (n := 53) C in_X5 hO.1 rfl (by decide) wd_192 rfl rfl dX5_drop_50 rfl ?_
          refine y_aload_n (n := 54) C dX5_drop_53 0 rfl rfl ?_
          refine y_get (ci := 5) (f := 0) (n := 57) C in_X5 hO.1 rfl (by decide) wd_191 rfl rfl dX5_drop_54 rfl ?_
          refine y_cv (n := 60) C (fun r hr H locs la hP hS hl => y_runVN (ci := 0) (st := []) C ky_X0_record wd_232 ⟨Nat.le_of_ble_eq_true rfl, Nat.le_of_ble_eq_true rfl⟩ hO.2.2.1.1 rfl (mX0_record hO.2.2.1 hO.2.1 w g.2.1 r hr) rfl (Nat.le_of_ble_eq_true rfl) rfl dX5_drop_57 hP hS hl) rfl (fun w8 hw8 => ?_)
          refine y_aload_n (n := 61) C dX5_drop_60 0 rfl rfl ?_
          refine y_get (ci := 5) (f := 0) (n := 64) C in_X5 hO.1 rfl (by decide) wd_191 rfl rfl dX5_drop_61 rfl ?_
          refine y_getN (ci := 3) (f := 0) (n := 67) C in_X3 hO.2.1.1 rfl (by decide) wd_133 rfl rfl dX5_drop_64 rfl ?_
          refine y_iload_n (n := 68) C dX5_drop_67 1 rfl rfl ?_
          refine y_iload_n (n := 69) C dX5_drop_68 2 rfl rfl ?_
          refine y_cv (n := 72) C (fun r hr H locs la hP hS hl => y_runVN (ci := 1) (st := []) C ky_X1_takeOut wd_294 ⟨Nat.le_of_ble_eq_true rfl, Nat.le_of_ble_eq_true rfl⟩ hO.2.1.2.1.1 rfl (mX1_takeOut hO.2.1.2.1 w8 a1 a2 g.2.1 r hr) rfl (Nat.le_of_ble_eq_true rfl) rfl dX5_drop_69 hP hS hl) rfl (fun w9 hw9 => ?_)
          refine y_aload_n (n := 73) C dX5_drop_72 0 rfl rfl ?_
          refine y_get (ci := 5) (f := 0) (n := 76) C in_X5 hO.1 rfl (by decide) wd_191 rfl rfl dX5_drop_73 rfl ?_
          refine y_getN (ci := 3) (f := 0) (n := 79) C in_X3 hO.2.1.1 rfl (by decide) wd_133 rfl rfl dX5_drop_76 rfl ?_
          refine y_iload_n (n := 80) C dX5_drop_79 1 rfl rfl ?_
          refine y_cp (n := 83) C (fun r hr H locs la hP hS hl => y_runVN (ci := 1) (st := []) C ky_X1_sizeOf wd_228 ⟨Nat.le_of_ble_eq_true rfl, Nat.le_of_ble_eq_true rfl⟩ hO.2.1.2.1.1 rfl (mX1_sizeOf hO.2.1.2.1 w9 a1 g.2.1 r hr) rfl (Nat.le_of_ble_eq_true rfl) rfl dX5_drop_80 hP hS hl) rfl (fun v10 hv10 => ?_)
          exact y_ri C hR dX5_drop_83
        · refine y_bipush (n := 48) C ((-4) : Int32) dX5_drop_46 (by decide) rfl ?_
          exact y_ri C hR dX5_drop_48
      · refine y_iconst (n := 32) C ((-1) : Int32) dX5_drop_31 (by decide) rfl ?_
        exact y_ri C hR dX5_drop_32
    · refine y_iconst (n := 15) C ((-1) : Int32) dX5_drop_14 (by decide) rfl ?_
      exact y_ri C hR dX5_drop_15
theorem mX5_drop {E : Ex} {o : Nat} (hO : shB E.2.2.2.2.2.1 o) (w : Wd) (a1 : Int32) (a2 : Int32) (l : Launch) : MI l yX5_drop cX5_drop 3 (some .int) { frames := 5, cells := 0, slots := 0, locals := 133 } E [.ref (E.2.2.2.2.1 + o), .int a1, .int a2] w (fX5_drop E.2.2.2.2.2.1 w o a1 a2) :=
  y_met (Qc := yQi E) (by decide +kernel) (Nat.le_of_ble_eq_true rfl) (fun g C hR => eX5_drop C hR hO w a1 a2) l
def fX5_end (y : Ly) (w : Wd) (o : Nat)  : Option (Int32 × Wd) :=
  if (bz (w.1 (o + 1 + 7) 0)) = 0 then
    some ((-4), w)
  else
    (fX0_record y w (o + 17) (o + 1)).bind fun w2 =>
    (stZ w2 (o + 1 + 7) 0 0).bind fun w3 =>
    (fX2_toldSize w3 (o + 1 + 7) (o + 1 + 1)).bind fun v4 =>
    some (v4, w3)
set_option maxRecDepth 4000 in
theorem eX5_end {g : Gx} {E : Ex} (C : CC g E cX5_end 1 RX5 5 133) (hR : RT g (some .int)) {o : Nat} (hO : shB E.2.2.2.2.2.1 o) (w : Wd)  : YO g E 1 (QI g E) (fX5_end E.2.2.2.2.2.1 w o) w 0 [(0, .ref (E.2.2.2.2.1 + o))] [] := by
  unfold fX5_end
  refine y_aload_n (n := 1) C dX5_end_0 0 rfl rfl ?_
  refine y_get (ci := 5) (f := 0) (n := 4) C in_X5 hO.1 rfl (by decide) wd_191 rfl rfl dX5_end_1 rfl ?_
  refine y_getN (ci := 3) (f := 1) (n := 7) C in_X3 hO.2.1.1 rfl (by decide) wd_135 rfl rfl dX5_end_4 rfl ?_
  refine y_getN (ci := 2) (f := 0) (n := 10) C in_X2 hO.2.1.2.2.1 rfl (by decide) wd_73 rfl rfl dX5_end_7 rfl ?_
  refine y_if_ne (tgt := 16) (n := 13) C dX5_end_10 (by decide) rfl (fun h1 => ?_) (fun h1 => ?_)
  · refine y_aload_n (n := 17) C dX5_end_16 0 rfl rfl ?_
    refine y_get (ci := 5) (f := 1) (n := 20) C in_X5 hO.1 rfl (by decide) wd_192 rfl rfl dX5_end_17 rfl ?_
    refine y_aload_n (n := 21) C dX5_end_20 0 rfl rfl ?_
    refine y_get (ci := 5) (f := 0) (n := 24) C in_X5 hO.1 rfl (by decide) wd_191 rfl rfl dX5_end_21 rfl ?_
    refine y_cv (n := 27) C (fun r hr H locs la hP hS hl => y_runVN (ci := 0) (st := []) C ky_X0_record wd_232 ⟨Nat.le_of_ble_eq_true rfl, Nat.le_of_ble_eq_true rfl⟩ hO.2.2.1.1 rfl (mX0_record hO.2.2.1 hO.2.1 w g.2.1 r hr) rfl (Nat.le_of_ble_eq_true rfl) rfl dX5_end_24 hP hS hl) rfl (fun w2 hw2 => ?_)
    refine y_aload_n (n := 28) C dX5_end_27 0 rfl rfl ?_
    refine y_get (ci := 5) (f := 0) (n := 31) C in_X5 hO.1 rfl (by decide) wd_191 rfl rfl dX5_end_28 rfl ?_
    refine y_getN (ci := 3) (f := 1) (n := 34) C in_X3 hO.2.1.1 rfl (by decide) wd_135 rfl rfl dX5_end_31 rfl ?_
    refine y_iconst (n := 35) C (0 : Int32) dX5_end_34 (by decide) rfl ?_
    refine y_putZN (ci := 2) (f := 0) (n := 38) C in_X2 tyX2 tyX2_ok nmX2 hO.2.1.2.2.1 rfl (by decide) wd_73 rfl rfl (by decide +kernel) (Nat.le_of_ble_eq_true rfl) st_X2_0 dX5_end_35 rfl (fun w3 hw3 => ?_)
    refine y_aload_n (n := 39) C dX5_end_38 0 rfl rfl ?_
    refine y_get (ci := 5) (f := 0) (n := 42) C in_X5 hO.1 rfl (by decide) wd_191 rfl rfl dX5_end_39 rfl ?_
    refine y_getN (ci := 3) (f := 1) (n := 45) C in_X3 hO.2.1.1 rfl (by decide) wd_135 rfl rfl dX5_end_42 rfl ?_
    refine y_aload_n (n := 46) C dX5_end_45 0 rfl rfl ?_
    refine y_get (ci := 5) (f := 0) (n := 49) C in_X5 hO.1 rfl (by decide) wd_191 rfl rfl dX5_end_46 rfl ?_
    refine y_getN (ci := 3) (f := 0) (n := 52) C in_X3 hO.2.1.1 rfl (by decide) wd_133 rfl rfl dX5_end_49 rfl ?_
    refine y_cp (n := 55) C (fun r hr H locs la hP hS hl => y_runVN (ci := 2) (st := []) C ky_X2_toldSize wd_466 ⟨Nat.le_of_ble_eq_true rfl, Nat.le_of_ble_eq_true rfl⟩ hO.2.1.2.2.1 rfl (mX2_toldSize hO.2.1.2.2 hO.2.1.2.1 w3 g.2.1 r hr) rfl (Nat.le_of_ble_eq_true rfl) rfl dX5_end_52 hP hS hl) rfl (fun v4 hv4 => ?_)
    exact y_ri C hR dX5_end_55
  · refine y_bipush (n := 15) C ((-4) : Int32) dX5_end_13 (by decide) rfl ?_
    exact y_ri C hR dX5_end_15
theorem mX5_end {E : Ex} {o : Nat} (hO : shB E.2.2.2.2.2.1 o) (w : Wd)  (l : Launch) : MI l yX5_end cX5_end 1 (some .int) { frames := 5, cells := 0, slots := 0, locals := 133 } E [.ref (E.2.2.2.2.1 + o)] w (fX5_end E.2.2.2.2.2.1 w o) :=
  y_met (Qc := yQi E) (by decide +kernel) (Nat.le_of_ble_eq_true rfl) (fun g C hR => eX5_end C hR hO w ) l
def fX5_entry (w : Wd) (o : Nat) (a1 : Int32) (a2 : Int32) (a3 : Int32) : Option (Int32) :=
  (fX5_isList w a1).bind fun v1 =>
  if v1 = 0 then
    some (-1)
  else
    if a2 < 0 then
      some (-2)
    else
      if a3 < 0 then
        some (-2)
      else
        if a3 ≤ 1 then
          (fX1_sizeOf w (o + 1 + 1) a1).bind fun v6 =>
          if a2 < v6 then
            if a3 = 0 then
              (fX1_documentAt w (o + 1 + 1) a1 a2).bind fun v10 =>
              some v10
            else
              (fX1_scoreAt w (o + 1 + 1) a1 a2).bind fun v9 =>
              some v9
          else
            some (-5)
        else
          some (-2)
set_option maxRecDepth 4000 in
theorem eX5_entry {g : Gx} {E : Ex} (C : CC g E cX5_entry 4 RX5 3 65) (hR : RT g (some .int)) {o : Nat} (hO : shB E.2.2.2.2.2.1 o) (w : Wd) (a1 : Int32) (a2 : Int32) (a3 : Int32) : YO g E 4 (QP g E w) (fX5_entry w o a1 a2 a3) w 0 [(0, .ref (E.2.2.2.2.1 + o)), (1, .int a1), (2, .int a2), (3, .int a3)] [] := by
  unfold fX5_entry
  refine y_iload_n (n := 1) C dX5_entry_0 1 rfl rfl ?_
  refine y_cp (n := 4) C (fun r hr H locs la hP hS hl => y_runS (st := []) C ky_X5_isList wd_214 ⟨Nat.le_of_ble_eq_true rfl, Nat.le_of_ble_eq_true rfl⟩ (mX5_isList w a1 g.2.1 r hr) rfl (Nat.le_of_ble_eq_true rfl) rfl dX5_entry_1 hP hS hl) rfl (fun v1 hv1 => ?_)
  refine y_if_ne (tgt := 9) (n := 7) C dX5_entry_4 (by decide) rfl (fun h2 => ?_) (fun h2 => ?_)
  · refine y_iload_n (n := 10) C dX5_entry_9 2 rfl rfl ?_
    refine y_if_lt (tgt := 22) (n := 13) C dX5_entry_10 (by decide) rfl (fun h3 => ?_) (fun h3 => ?_)
    · refine y_bipush (n := 24) C ((-2) : Int32) dX5_entry_22 (by decide) rfl ?_
      exact y_rp C hR dX5_entry_24
    · refine y_iload_n (n := 14) C dX5_entry_13 3 rfl rfl ?_
      refine y_if_lt (tgt := 22) (n := 17) C dX5_entry_14 (by decide) rfl (fun h4 => ?_) (fun h4 => ?_)
      · refine y_bipush (n := 24) C ((-2) : Int32) dX5_entry_22 (by decide) rfl ?_
        exact y_rp C hR dX5_entry_24
      · refine y_iload_n (n := 18) C dX5_entry_17 3 rfl rfl ?_
        refine y_iconst (n := 19) C (1 : Int32) dX5_entry_18 (by decide) rfl ?_
        refine y_icmp_le (tgt := 25) (n := 22) C dX5_entry_19 (by decide) rfl (fun h5 => ?_) (fun h5 => ?_)
        · refine y_iload_n (n := 26) C dX5_entry_25 2 rfl rfl ?_
          refine y_aload_n (n := 27) C dX5_entry_26 0 rfl rfl ?_
          refine y_get (ci := 5) (f := 0) (n := 30) C in_X5 hO.1 rfl (by decide) wd_191 rfl rfl dX5_entry_27 rfl ?_
          refine y_getN (ci := 3) (f := 0) (n := 33) C in_X3 hO.2.1.1 rfl (by decide) wd_133 rfl rfl dX5_entry_30 rfl ?_
          refine y_iload_n (n := 34) C dX5_entry_33 1 rfl rfl ?_
          refine y_cp (n := 37) C (fun r hr H locs la hP hS hl => y_runVN (ci := 1) (st := [.int a2]) C ky_X1_sizeOf wd_228 ⟨Nat.le_of_ble_eq_true rfl, Nat.le_of_ble_eq_true rfl⟩ hO.2.1.2.1.1 rfl (mX1_sizeOf hO.2.1.2.1 w a1 g.2.1 r hr) rfl (Nat.le_of_ble_eq_true rfl) rfl dX5_entry_34 hP hS hl) rfl (fun v6 hv6 => ?_)
          refine y_icmp_lt (tgt := 43) (n := 40) C dX5_entry_37 (by decide) rfl (fun h7 => ?_) (fun h7 => ?_)
          · refine y_iload_n (n := 44) C dX5_entry_43 3 rfl rfl ?_
            refine y_if_ne (tgt := 62) (n := 47) C dX5_entry_44 (by decide) rfl (fun h8 => ?_) (fun h8 => ?_)
            · refine y_aload_n (n := 63) C dX5_entry_62 0 rfl rfl ?_
              refine y_get (ci := 5) (f := 0) (n := 66) C in_X5 hO.1 rfl (by decide) wd_191 rfl rfl dX5_entry_63 rfl ?_
              refine y_getN (ci := 3) (f := 0) (n := 69) C in_X3 hO.2.1.1 rfl (by decide) wd_133 rfl rfl dX5_entry_66 rfl ?_
              refine y_iload_n (n := 70) C dX5_entry_69 1 rfl rfl ?_
              refine y_iload_n (n := 71) C dX5_entry_70 2 rfl rfl ?_
              refine y_cp (n := 74) C (fun r hr H locs la hP hS hl => y_runVN (ci := 1) (st := []) C ky_X1_scoreAt wd_614 ⟨Nat.le_of_ble_eq_true rfl, Nat.le_of_ble_eq_true rfl⟩ hO.2.1.2.1.1 rfl (mX1_scoreAt hO.2.1.2.1 w a1 a2 g.2.1 r hr) rfl (Nat.le_of_ble_eq_true rfl) rfl dX5_entry_71 hP hS hl) rfl (fun v9 hv9 => ?_)
              exact y_rp C hR dX5_entry_74
            · refine y_aload_n (n := 48) C dX5_entry_47 0 rfl rfl ?_
              refine y_get (ci := 5) (f := 0) (n := 51) C in_X5 hO.1 rfl (by decide) wd_191 rfl rfl dX5_entry_48 rfl ?_
              refine y_getN (ci := 3) (f := 0) (n := 54) C in_X3 hO.2.1.1 rfl (by decide) wd_133 rfl rfl dX5_entry_51 rfl ?_
              refine y_iload_n (n := 55) C dX5_entry_54 1 rfl rfl ?_
              refine y_iload_n (n := 56) C dX5_entry_55 2 rfl rfl ?_
              refine y_cp (n := 59) C (fun r hr H locs la hP hS hl => y_runVN (ci := 1) (st := []) C ky_X1_documentAt wd_624 ⟨Nat.le_of_ble_eq_true rfl, Nat.le_of_ble_eq_true rfl⟩ hO.2.1.2.1.1 rfl (mX1_documentAt hO.2.1.2.1 w a1 a2 g.2.1 r hr) rfl (Nat.le_of_ble_eq_true rfl) rfl dX5_entry_56 hP hS hl) rfl (fun v10 hv10 => ?_)
              refine y_goto (tgt := 74) C dX5_entry_59 (by decide) ?_
              exact y_rp C hR dX5_entry_74
          · refine y_bipush (n := 42) C ((-5) : Int32) dX5_entry_40 (by decide) rfl ?_
            exact y_rp C hR dX5_entry_42
        · refine y_bipush (n := 24) C ((-2) : Int32) dX5_entry_22 (by decide) rfl ?_
          exact y_rp C hR dX5_entry_24
  · refine y_iconst (n := 8) C ((-1) : Int32) dX5_entry_7 (by decide) rfl ?_
    exact y_rp C hR dX5_entry_8
theorem mX5_entry {E : Ex} {o : Nat} (hO : shB E.2.2.2.2.2.1 o) (w : Wd) (a1 : Int32) (a2 : Int32) (a3 : Int32) (l : Launch) : MP l yX5_entry cX5_entry 4 (some .int) { frames := 3, cells := 0, slots := 0, locals := 65 } E [.ref (E.2.2.2.2.1 + o), .int a1, .int a2, .int a3] w (fX5_entry w o a1 a2 a3) :=
  y_met (Qc := fun r => yQi E (r, w)) (by decide +kernel) (Nat.le_of_ble_eq_true rfl) (fun g C hR => eX5_entry C hR hO w a1 a2 a3) l
def fX5_keep (w : Wd) (o : Nat)  : Option (Int32 × Wd) :=
  (fX3_copyFrom w (o + 83) (o + 1)).bind fun w1 =>
  (stZ w1 o 3 1).bind fun w2 =>
  (fX1_entries w2 (o + 1 + 1)).bind fun v3 =>
  some (v3, w2)
set_option maxRecDepth 4000 in
theorem eX5_keep {g : Gx} {E : Ex} (C : CC g E cX5_keep 1 RX5 4 111) (hR : RT g (some .int)) {o : Nat} (hO : shB E.2.2.2.2.2.1 o) (w : Wd)  : YO g E 1 (QI g E) (fX5_keep w o) w 0 [(0, .ref (E.2.2.2.2.1 + o))] [] := by
  unfold fX5_keep
  refine y_aload_n (n := 1) C dX5_keep_0 0 rfl rfl ?_
  refine y_get (ci := 5) (f := 2) (n := 4) C in_X5 hO.1 rfl (by decide) wd_193 rfl rfl dX5_keep_1 rfl ?_
  refine y_aload_n (n := 5) C dX5_keep_4 0 rfl rfl ?_
  refine y_get (ci := 5) (f := 0) (n := 8) C in_X5 hO.1 rfl (by decide) wd_191 rfl rfl dX5_keep_5 rfl ?_
  refine y_cv (n := 11) C (fun r hr H locs la hP hS hl => y_runVN (ci := 3) (st := []) C ky_X3_copyFrom wd_600 ⟨Nat.le_of_ble_eq_true rfl, Nat.le_of_ble_eq_true rfl⟩ hO.2.2.2.1.1 rfl (mX3_copyFrom hO.2.2.2.1 hO.2.1 w g.2.1 r hr) rfl (Nat.le_of_ble_eq_true rfl) rfl dX5_keep_8 hP hS hl) rfl (fun w1 hw1 => ?_)
  refine y_aload_n (n := 12) C dX5_keep_11 0 rfl rfl ?_
  refine y_iconst (n := 13) C (1 : Int32) dX5_keep_12 (by decide) rfl ?_
  refine y_putZ (ci := 5) (f := 3) (n := 16) C in_X5 tyX5 tyX5_ok nmX5 hO.1 rfl (by decide) wd_194 rfl rfl (by decide +kernel) (Nat.le_of_ble_eq_true rfl) st_X5_3 dX5_keep_13 rfl (fun w2 hw2 => ?_)
  refine y_aload_n (n := 17) C dX5_keep_16 0 rfl rfl ?_
  refine y_get (ci := 5) (f := 0) (n := 20) C in_X5 hO.1 rfl (by decide) wd_191 rfl rfl dX5_keep_17 rfl ?_
  refine y_getN (ci := 3) (f := 0) (n := 23) C in_X3 hO.2.1.1 rfl (by decide) wd_133 rfl rfl dX5_keep_20 rfl ?_
  refine y_cp (n := 26) C (fun r hr H locs la hP hS hl => y_runVN (ci := 1) (st := []) C ky_X1_entries wd_601 ⟨Nat.le_of_ble_eq_true rfl, Nat.le_of_ble_eq_true rfl⟩ hO.2.1.2.1.1 rfl (mX1_entries hO.2.1.2.1 w2 g.2.1 r hr) rfl (Nat.le_of_ble_eq_true rfl) rfl dX5_keep_23 hP hS hl) rfl (fun v3 hv3 => ?_)
  exact y_ri C hR dX5_keep_26
theorem mX5_keep {E : Ex} {o : Nat} (hO : shB E.2.2.2.2.2.1 o) (w : Wd)  (l : Launch) : MI l yX5_keep cX5_keep 1 (some .int) { frames := 4, cells := 0, slots := 0, locals := 111 } E [.ref (E.2.2.2.2.1 + o)] w (fX5_keep w o) :=
  y_met (Qc := yQi E) (by decide +kernel) (Nat.le_of_ble_eq_true rfl) (fun g C hR => eX5_keep C hR hO w ) l
def fX5_list (w : Wd) (o : Nat) (a1 : Int32) (a2 : Int32) : Option (Int32) :=
  (fX5_isList w a1).bind fun v1 =>
  if v1 = 0 then
    some (-1)
  else
    if a2 = 0 then
      (fX1_sizeOf w (o + 1 + 1) a1).bind fun v4 =>
      some v4
    else
    if a2 = 1 then
      (fX1_weightOf w (o + 1 + 1) a1).bind fun v6 =>
      some v6
    else
    if a2 = 2 then
      (fX5_at w (o + 1 + 1 + 5) 6 a1).bind fun v8 =>
      some v8
    else
    if a2 = 3 then
      (fX1_scoreAt w (o + 1 + 1) a1 0).bind fun v10 =>
      some v10
    else
    if a2 = 4 then
      (fX1_deletedIn w (o + 1 + 1) a1).bind fun v12 =>
      some v12
    else
    some (-2)
set_option maxRecDepth 4000 in
theorem eX5_list {g : Gx} {E : Ex} (C : CC g E cX5_list 3 RX5 3 67) (hR : RT g (some .int)) {o : Nat} (hO : shB E.2.2.2.2.2.1 o) (w : Wd) (a1 : Int32) (a2 : Int32) : YO g E 3 (QP g E w) (fX5_list w o a1 a2) w 0 [(0, .ref (E.2.2.2.2.1 + o)), (1, .int a1), (2, .int a2)] [] := by
  unfold fX5_list
  refine y_iload_n (n := 1) C dX5_list_0 1 rfl rfl ?_
  refine y_cp (n := 4) C (fun r hr H locs la hP hS hl => y_runS (st := []) C ky_X5_isList wd_214 ⟨Nat.le_of_ble_eq_true rfl, Nat.le_of_ble_eq_true rfl⟩ (mX5_isList w a1 g.2.1 r hr) rfl (Nat.le_of_ble_eq_true rfl) rfl dX5_list_1 hP hS hl) rfl (fun v1 hv1 => ?_)
  refine y_if_ne (tgt := 9) (n := 7) C dX5_list_4 (by decide) rfl (fun h2 => ?_) (fun h2 => ?_)
  · refine y_iload_n (n := 10) C dX5_list_9 2 rfl rfl ?_
    refine y_if (fun h3 => ?_) (fun h3 => ?_)
    · refine y_swIn (tgt := 44) C 34 dX5_list_10 (by rw [h3]; decide) (by rw [h3]; decide) (by rw [h3]; rfl) (by decide) ?_
      refine y_aload_n (n := 45) C dX5_list_44 0 rfl rfl ?_
      refine y_get (ci := 5) (f := 0) (n := 48) C in_X5 hO.1 rfl (by decide) wd_191 rfl rfl dX5_list_45 rfl ?_
      refine y_getN (ci := 3) (f := 0) (n := 51) C in_X3 hO.2.1.1 rfl (by decide) wd_133 rfl rfl dX5_list_48 rfl ?_
      refine y_iload_n (n := 52) C dX5_list_51 1 rfl rfl ?_
      refine y_cp (n := 55) C (fun r hr H locs la hP hS hl => y_runVN (ci := 1) (st := []) C ky_X1_sizeOf wd_228 ⟨Nat.le_of_ble_eq_true rfl, Nat.le_of_ble_eq_true rfl⟩ hO.2.1.2.1.1 rfl (mX1_sizeOf hO.2.1.2.1 w a1 g.2.1 r hr) rfl (Nat.le_of_ble_eq_true rfl) rfl dX5_list_52 hP hS hl) rfl (fun v4 hv4 => ?_)
      exact y_rp C hR dX5_list_55
    refine y_if (fun h5 => ?_) (fun h5 => ?_)
    · refine y_swIn (tgt := 56) C 46 dX5_list_10 (by rw [h5]; decide) (by rw [h5]; decide) (by rw [h5]; rfl) (by decide) ?_
      refine y_aload_n (n := 57) C dX5_list_56 0 rfl rfl ?_
      refine y_get (ci := 5) (f := 0) (n := 60) C in_X5 hO.1 rfl (by decide) wd_191 rfl rfl dX5_list_57 rfl ?_
      refine y_getN (ci := 3) (f := 0) (n := 63) C in_X3 hO.2.1.1 rfl (by decide) wd_133 rfl rfl dX5_list_60 rfl ?_
      refine y_iload_n (n := 64) C dX5_list_63 1 rfl rfl ?_
      refine y_cp (n := 67) C (fun r hr H locs la hP hS hl => y_runVN (ci := 1) (st := []) C ky_X1_weightOf wd_613 ⟨Nat.le_of_ble_eq_true rfl, Nat.le_of_ble_eq_true rfl⟩ hO.2.1.2.1.1 rfl (mX1_weightOf hO.2.1.2.1 w a1 g.2.1 r hr) rfl (Nat.le_of_ble_eq_true rfl) rfl dX5_list_64 hP hS hl) rfl (fun v6 hv6 => ?_)
      exact y_rp C hR dX5_list_67
    refine y_if (fun h7 => ?_) (fun h7 => ?_)
    · refine y_swIn (tgt := 68) C 58 dX5_list_10 (by rw [h7]; decide) (by rw [h7]; decide) (by rw [h7]; rfl) (by decide) ?_
      refine y_aload_n (n := 69) C dX5_list_68 0 rfl rfl ?_
      refine y_get (ci := 5) (f := 0) (n := 72) C in_X5 hO.1 rfl (by decide) wd_191 rfl rfl dX5_list_69 rfl ?_
      refine y_getN (ci := 3) (f := 0) (n := 75) C in_X3 hO.2.1.1 rfl (by decide) wd_133 rfl rfl dX5_list_72 rfl ?_
      refine y_getN (ci := 1) (f := 4) (n := 78) C in_X1 hO.2.1.2.1.1 rfl (by decide) wd_44 rfl rfl dX5_list_75 rfl ?_
      refine y_iload_n (n := 79) C dX5_list_78 1 rfl rfl ?_
      refine y_cp (n := 82) C (fun r hr H locs la hP hS hl => y_runS (st := []) C ky_X5_at wd_332 ⟨Nat.le_of_ble_eq_true rfl, Nat.le_of_ble_eq_true rfl⟩ (mX5_at hO.2.1.2.1.2.2.2.2.2 w a1 g.2.1 r hr) rfl (Nat.le_of_ble_eq_true rfl) rfl dX5_list_79 hP hS hl) rfl (fun v8 hv8 => ?_)
      exact y_rp C hR dX5_list_82
    refine y_if (fun h9 => ?_) (fun h9 => ?_)
    · refine y_swIn (tgt := 83) C 73 dX5_list_10 (by rw [h9]; decide) (by rw [h9]; decide) (by rw [h9]; rfl) (by decide) ?_
      refine y_aload_n (n := 84) C dX5_list_83 0 rfl rfl ?_
      refine y_get (ci := 5) (f := 0) (n := 87) C in_X5 hO.1 rfl (by decide) wd_191 rfl rfl dX5_list_84 rfl ?_
      refine y_getN (ci := 3) (f := 0) (n := 90) C in_X3 hO.2.1.1 rfl (by decide) wd_133 rfl rfl dX5_list_87 rfl ?_
      refine y_iload_n (n := 91) C dX5_list_90 1 rfl rfl ?_
      refine y_iconst (n := 92) C (0 : Int32) dX5_list_91 (by decide) rfl ?_
      refine y_cp (n := 95) C (fun r hr H locs la hP hS hl => y_runVN (ci := 1) (st := []) C ky_X1_scoreAt wd_614 ⟨Nat.le_of_ble_eq_true rfl, Nat.le_of_ble_eq_true rfl⟩ hO.2.1.2.1.1 rfl (mX1_scoreAt hO.2.1.2.1 w a1 0 g.2.1 r hr) rfl (Nat.le_of_ble_eq_true rfl) rfl dX5_list_92 hP hS hl) rfl (fun v10 hv10 => ?_)
      exact y_rp C hR dX5_list_95
    refine y_if (fun h11 => ?_) (fun h11 => ?_)
    · refine y_swIn (tgt := 96) C 86 dX5_list_10 (by rw [h11]; decide) (by rw [h11]; decide) (by rw [h11]; rfl) (by decide) ?_
      refine y_aload_n (n := 97) C dX5_list_96 0 rfl rfl ?_
      refine y_get (ci := 5) (f := 0) (n := 100) C in_X5 hO.1 rfl (by decide) wd_191 rfl rfl dX5_list_97 rfl ?_
      refine y_getN (ci := 3) (f := 0) (n := 103) C in_X3 hO.2.1.1 rfl (by decide) wd_133 rfl rfl dX5_list_100 rfl ?_
      refine y_iload_n (n := 104) C dX5_list_103 1 rfl rfl ?_
      refine y_cp (n := 107) C (fun r hr H locs la hP hS hl => y_runVN (ci := 1) (st := []) C ky_X1_deletedIn wd_615 ⟨Nat.le_of_ble_eq_true rfl, Nat.le_of_ble_eq_true rfl⟩ hO.2.1.2.1.1 rfl (mX1_deletedIn hO.2.1.2.1 w a1 g.2.1 r hr) rfl (Nat.le_of_ble_eq_true rfl) rfl dX5_list_104 hP hS hl) rfl (fun v12 hv12 => ?_)
      exact y_rp C hR dX5_list_107
    refine y_swOut (tgt := 108) C dX5_list_10 (by have gh3 := sw_ne (k := 0) (by decide) h3; have gh5 := sw_ne (k := 1) (by decide) h5; have gh7 := sw_ne (k := 2) (by decide) h7; have gh9 := sw_ne (k := 3) (by decide) h9; have gh11 := sw_ne (k := 4) (by decide) h11; omega) (by decide) ?_
    refine y_bipush (n := 110) C ((-2) : Int32) dX5_list_108 (by decide) rfl ?_
    exact y_rp C hR dX5_list_110
  · refine y_iconst (n := 8) C ((-1) : Int32) dX5_list_7 (by decide) rfl ?_
    exact y_rp C hR dX5_list_8
theorem mX5_list {E : Ex} {o : Nat} (hO : shB E.2.2.2.2.2.1 o) (w : Wd) (a1 : Int32) (a2 : Int32) (l : Launch) : MP l yX5_list cX5_list 3 (some .int) { frames := 3, cells := 0, slots := 0, locals := 67 } E [.ref (E.2.2.2.2.1 + o), .int a1, .int a2] w (fX5_list w o a1 a2) :=
  y_met (Qc := fun r => yQi E (r, w)) (by decide +kernel) (Nat.le_of_ble_eq_true rfl) (fun g C hR => eX5_list C hR hO w a1 a2) l
def fX5_want (y : Ly) (w : Wd) (o : Nat) (a1 : Int32) : Option (Int32 × Wd) :=
  if a1 < 1 then
    some ((-2), w)
  else
    if a1 ≤ 10 then
      if (bz (w.1 (o + 1 + 7) 0)) = 0 then
        if (w.1 (o + 1 + 1) 6) = a1 then
          some ((-5), w)
        else
          (fX0_record y w (o + 17) (o + 1)).bind fun w5 =>
          (pI w5 (o + 1 + 1) 6 a1).bind fun w6 =>
          some (w.1 (o + 1 + 1) 6, w6)
      else
        some ((-4), w)
    else
      some ((-2), w)
set_option maxRecDepth 4000 in
theorem eX5_want {g : Gx} {E : Ex} (C : CC g E cX5_want 3 RX5 5 133) (hR : RT g (some .int)) {o : Nat} (hO : shB E.2.2.2.2.2.1 o) (w : Wd) (a1 : Int32) : YO g E 3 (QI g E) (fX5_want E.2.2.2.2.2.1 w o a1) w 0 [(0, .ref (E.2.2.2.2.1 + o)), (1, .int a1)] [] := by
  unfold fX5_want
  refine y_iload_n (n := 1) C dX5_want_0 1 rfl rfl ?_
  refine y_iconst (n := 2) C (1 : Int32) dX5_want_1 (by decide) rfl ?_
  refine y_icmp_lt (tgt := 11) (n := 5) C dX5_want_2 (by decide) rfl (fun h1 => ?_) (fun h1 => ?_)
  · refine y_bipush (n := 13) C ((-2) : Int32) dX5_want_11 (by decide) rfl ?_
    exact y_ri C hR dX5_want_13
  · refine y_iload_n (n := 6) C dX5_want_5 1 rfl rfl ?_
    refine y_bipush (n := 8) C (10 : Int32) dX5_want_6 (by decide) rfl ?_
    refine y_icmp_le (tgt := 14) (n := 11) C dX5_want_8 (by decide) rfl (fun h2 => ?_) (fun h2 => ?_)
    · refine y_aload_n (n := 15) C dX5_want_14 0 rfl rfl ?_
      refine y_get (ci := 5) (f := 0) (n := 18) C in_X5 hO.1 rfl (by decide) wd_191 rfl rfl dX5_want_15 rfl ?_
      refine y_getN (ci := 3) (f := 1) (n := 21) C in_X3 hO.2.1.1 rfl (by decide) wd_135 rfl rfl dX5_want_18 rfl ?_
      refine y_getN (ci := 2) (f := 0) (n := 24) C in_X2 hO.2.1.2.2.1 rfl (by decide) wd_73 rfl rfl dX5_want_21 rfl ?_
      refine y_if_eq (tgt := 30) (n := 27) C dX5_want_24 (by decide) rfl (fun h3 => ?_) (fun h3 => ?_)
      · refine y_aload_n (n := 31) C dX5_want_30 0 rfl rfl ?_
        refine y_get (ci := 5) (f := 0) (n := 34) C in_X5 hO.1 rfl (by decide) wd_191 rfl rfl dX5_want_31 rfl ?_
        refine y_getN (ci := 3) (f := 0) (n := 37) C in_X3 hO.2.1.1 rfl (by decide) wd_133 rfl rfl dX5_want_34 rfl ?_
        refine y_getN (ci := 1) (f := 6) (n := 40) C in_X1 hO.2.1.2.1.1 rfl (by decide) wd_48 rfl rfl dX5_want_37 rfl ?_
        refine y_istore_n (n := 41) (ls' := [(2, .int (w.1 (o + 1 + 1) 6)), (0, .ref (E.2.2.2.2.1 + o)), (1, .int a1)]) C dX5_want_40 (by decide) rfl rfl ?_
        refine y_iload_n (n := 42) C dX5_want_41 0 rfl rfl ?_
        refine y_iload_n (n := 43) C dX5_want_42 2 rfl rfl ?_
        refine y_icmp_ne (tgt := 49) (n := 46) C dX5_want_43 (by decide) rfl (fun h4 => ?_) (fun h4 => ?_)
        · refine y_aload_n (n := 50) C dX5_want_49 1 rfl rfl ?_
          refine y_get (ci := 5) (f := 1) (n := 53) C in_X5 hO.1 rfl (by decide) wd_192 rfl rfl dX5_want_50 rfl ?_
          refine y_aload_n (n := 54) C dX5_want_53 1 rfl rfl ?_
          refine y_get (ci := 5) (f := 0) (n := 57) C in_X5 hO.1 rfl (by decide) wd_191 rfl rfl dX5_want_54 rfl ?_
          refine y_cv (n := 60) C (fun r hr H locs la hP hS hl => y_runVN (ci := 0) (st := []) C ky_X0_record wd_232 ⟨Nat.le_of_ble_eq_true rfl, Nat.le_of_ble_eq_true rfl⟩ hO.2.2.1.1 rfl (mX0_record hO.2.2.1 hO.2.1 w g.2.1 r hr) rfl (Nat.le_of_ble_eq_true rfl) rfl dX5_want_57 hP hS hl) rfl (fun w5 hw5 => ?_)
          refine y_aload_n (n := 61) C dX5_want_60 1 rfl rfl ?_
          refine y_get (ci := 5) (f := 0) (n := 64) C in_X5 hO.1 rfl (by decide) wd_191 rfl rfl dX5_want_61 rfl ?_
          refine y_getN (ci := 3) (f := 0) (n := 67) C in_X3 hO.2.1.1 rfl (by decide) wd_133 rfl rfl dX5_want_64 rfl ?_
          refine y_iload_n (n := 68) C dX5_want_67 2 rfl rfl ?_
          refine y_putIN (ci := 1) (f := 6) (n := 71) C in_X1 tyX1 tyX1_ok nmX1 hO.2.1.2.1.1 rfl (by decide) wd_48 rfl rfl (by decide +kernel) (Nat.le_of_ble_eq_true rfl) st_X1_6 dX5_want_68 rfl (fun w6 hw6 => ?_)
          refine y_iload_n (n := 72) C dX5_want_71 0 rfl rfl ?_
          exact y_ri C hR dX5_want_72
        · refine y_bipush (n := 48) C ((-5) : Int32) dX5_want_46 (by decide) rfl ?_
          exact y_ri C hR dX5_want_48
      · refine y_bipush (n := 29) C ((-4) : Int32) dX5_want_27 (by decide) rfl ?_
        exact y_ri C hR dX5_want_29
    · refine y_bipush (n := 13) C ((-2) : Int32) dX5_want_11 (by decide) rfl ?_
      exact y_ri C hR dX5_want_13
theorem mX5_want {E : Ex} {o : Nat} (hO : shB E.2.2.2.2.2.1 o) (w : Wd) (a1 : Int32) (l : Launch) : MI l yX5_want cX5_want 3 (some .int) { frames := 5, cells := 0, slots := 0, locals := 133 } E [.ref (E.2.2.2.2.1 + o), .int a1] w (fX5_want E.2.2.2.2.2.1 w o a1) :=
  y_met (Qc := yQi E) (by decide +kernel) (Nat.le_of_ble_eq_true rfl) (fun g C hR => eX5_want C hR hO w a1) l
def fX5_weight (y : Ly) (w : Wd) (o : Nat) (a1 : Int32) (a2 : Int32) : Option (Int32 × Wd) :=
  ob2 (fX5_setOfList y w o (o + 1 + 1 + 4) 6 a1 a2 9) fun v1 w2 =>
  some (v1, w2)
set_option maxRecDepth 4000 in
theorem eX5_weight {g : Gx} {E : Ex} (C : CC g E cX5_weight 3 RX5 6 158) (hR : RT g (some .int)) {o : Nat} (hO : shB E.2.2.2.2.2.1 o) (w : Wd) (a1 : Int32) (a2 : Int32) : YO g E 3 (QI g E) (fX5_weight E.2.2.2.2.2.1 w o a1 a2) w 0 [(0, .ref (E.2.2.2.2.1 + o)), (1, .int a1), (2, .int a2)] [] := by
  unfold fX5_weight
  refine y_aload_n (n := 1) C dX5_weight_0 0 rfl rfl ?_
  refine y_aload_n (n := 2) C dX5_weight_1 0 rfl rfl ?_
  refine y_get (ci := 5) (f := 0) (n := 5) C in_X5 hO.1 rfl (by decide) wd_191 rfl rfl dX5_weight_2 rfl ?_
  refine y_getN (ci := 3) (f := 0) (n := 8) C in_X3 hO.2.1.1 rfl (by decide) wd_133 rfl rfl dX5_weight_5 rfl ?_
  refine y_getN (ci := 1) (f := 3) (n := 11) C in_X1 hO.2.1.2.1.1 rfl (by decide) wd_41 rfl rfl dX5_weight_8 rfl ?_
  refine y_iload_n (n := 12) C dX5_weight_11 1 rfl rfl ?_
  refine y_iload_n (n := 13) C dX5_weight_12 2 rfl rfl ?_
  refine y_bipush (n := 15) C (9 : Int32) dX5_weight_13 (by decide) rfl ?_
  refine y_ci2 (n := 18) C (fun r hr H locs la hP hS hl => y_runV (ci := 5) (st := []) C ky_X5_setOfList wd_328 ⟨Nat.le_of_ble_eq_true rfl, Nat.le_of_ble_eq_true rfl⟩ hO.1 rfl (mX5_setOfList hO hO.2.1.2.1.2.2.2.2.1 w a1 a2 9 g.2.1 r hr) rfl (Nat.le_of_ble_eq_true rfl) rfl dX5_weight_15 hP hS hl) rfl (fun v1 w2 hv1 => ?_)
  exact y_ri C hR dX5_weight_18
theorem mX5_weight {E : Ex} {o : Nat} (hO : shB E.2.2.2.2.2.1 o) (w : Wd) (a1 : Int32) (a2 : Int32) (l : Launch) : MI l yX5_weight cX5_weight 3 (some .int) { frames := 6, cells := 0, slots := 0, locals := 158 } E [.ref (E.2.2.2.2.1 + o), .int a1, .int a2] w (fX5_weight E.2.2.2.2.2.1 w o a1 a2) :=
  y_met (Qc := yQi E) (by decide +kernel) (Nat.le_of_ble_eq_true rfl) (fun g C hR => eX5_weight C hR hO w a1 a2) l
def fX5_perform (y : Ly) (w : Wd) (o : Nat)  : Option (Int32 × Wd) :=
  ob2 (fX4_readCommand w (o + 99)) fun v1 w2 =>
  if v1 = (-1) then
    (fX5_at w2 (o + 99 + 2) 3 0).bind fun v4 =>
    (fX5_at w2 (o + 99 + 2) 3 1).bind fun v5 =>
    (fX5_at w2 (o + 99 + 2) 3 2).bind fun v6 =>
    if (w2.1 (o + 99) 2) = 0 then
      ob2 (fX5_add y w2 o v4 v5 v6) fun v8 w9 =>
      some (v8, w9)
    else
    if (w2.1 (o + 99) 2) = 1 then
      ob2 (fX5_drop y w2 o v4 v5) fun v11 w12 =>
      some (v11, w12)
    else
    if (w2.1 (o + 99) 2) = 2 then
      ob2 (fX5_weight y w2 o v4 v5) fun v14 w15 =>
      some (v14, w15)
    else
    if (w2.1 (o + 99) 2) = 3 then
      ob2 (fX5_bribe y w2 o v4 v5) fun v17 w18 =>
      some (v17, w18)
    else
    if (w2.1 (o + 99) 2) = 4 then
      ob2 (fX5_delete y w2 o v4) fun v20 w21 =>
      some (v20, w21)
    else
    if (w2.1 (o + 99) 2) = 5 then
      ob2 (fX5_bring y w2 o v4) fun v23 w24 =>
      some (v23, w24)
    else
    ob2 (fX5_want y w2 o v4) fun v25 w26 =>
    some (v25, w26)
  else
    some ((-100) - v1, w2)
set_option maxRecDepth 4000 in
theorem eX5_perform {g : Gx} {E : Ex} (C : CC g E cX5_perform 5 RX5 7 180) (hR : RT g (some .int)) {o : Nat} (hO : shB E.2.2.2.2.2.1 o) (w : Wd)  : YO g E 5 (QI g E) (fX5_perform E.2.2.2.2.2.1 w o) w 0 [(0, .ref (E.2.2.2.2.1 + o))] [] := by
  unfold fX5_perform
  refine y_aload_n (n := 1) C dX5_perform_0 0 rfl rfl ?_
  refine y_get (ci := 5) (f := 4) (n := 4) C in_X5 hO.1 rfl (by decide) wd_195 rfl rfl dX5_perform_1 rfl ?_
  refine y_ci2 (n := 7) C (fun r hr H locs la hP hS hl => y_runVN (ci := 4) (st := []) C ky_X4_readCommand wd_487 ⟨Nat.le_of_ble_eq_true rfl, Nat.le_of_ble_eq_true rfl⟩ hO.2.2.2.2.1.1 rfl (mX4_readCommand hO.2.2.2.2.1 w g.2.1 r hr) rfl (Nat.le_of_ble_eq_true rfl) rfl dX5_perform_4 hP hS hl) rfl (fun v1 w2 hv1 => ?_)
  refine y_istore_n (n := 8) (ls' := [(1, .int v1), (0, .ref (E.2.2.2.2.1 + o))]) C dX5_perform_7 (by decide) rfl rfl ?_
  refine y_iload_n (n := 9) C dX5_perform_8 0 rfl rfl ?_
  refine y_iconst (n := 10) C ((-1) : Int32) dX5_perform_9 (by decide) rfl ?_
  refine y_icmp_eq (tgt := 18) (n := 13) C dX5_perform_10 (by decide) rfl (fun h3 => ?_) (fun h3 => ?_)
  · refine y_aload_n (n := 19) C dX5_perform_18 1 rfl rfl ?_
    refine y_get (ci := 5) (f := 4) (n := 22) C in_X5 hO.1 rfl (by decide) wd_195 rfl rfl dX5_perform_19 rfl ?_
    refine y_getN (ci := 4) (f := 3) (n := 25) C in_X4 hO.2.2.2.2.1.1 rfl (by decide) wd_178 rfl rfl dX5_perform_22 rfl ?_
    refine y_iconst (n := 26) C (0 : Int32) dX5_perform_25 (by decide) rfl ?_
    refine y_cp (n := 29) C (fun r hr H locs la hP hS hl => y_runS (st := []) C ky_X5_at wd_332 ⟨Nat.le_of_ble_eq_true rfl, Nat.le_of_ble_eq_true rfl⟩ (mX5_at hO.2.2.2.2.1.2.2 w2 0 g.2.1 r hr) rfl (Nat.le_of_ble_eq_true rfl) rfl dX5_perform_26 hP hS hl) rfl (fun v4 hv4 => ?_)
    refine y_istore_n (n := 30) (ls' := [(2, .int v4), (1, .int v1), (0, .ref (E.2.2.2.2.1 + o))]) C dX5_perform_29 (by decide) rfl rfl ?_
    refine y_aload_n (n := 31) C dX5_perform_30 2 rfl rfl ?_
    refine y_get (ci := 5) (f := 4) (n := 34) C in_X5 hO.1 rfl (by decide) wd_195 rfl rfl dX5_perform_31 rfl ?_
    refine y_getN (ci := 4) (f := 3) (n := 37) C in_X4 hO.2.2.2.2.1.1 rfl (by decide) wd_178 rfl rfl dX5_perform_34 rfl ?_
    refine y_iconst (n := 38) C (1 : Int32) dX5_perform_37 (by decide) rfl ?_
    refine y_cp (n := 41) C (fun r hr H locs la hP hS hl => y_runS (st := []) C ky_X5_at wd_332 ⟨Nat.le_of_ble_eq_true rfl, Nat.le_of_ble_eq_true rfl⟩ (mX5_at hO.2.2.2.2.1.2.2 w2 1 g.2.1 r hr) rfl (Nat.le_of_ble_eq_true rfl) rfl dX5_perform_38 hP hS hl) rfl (fun v5 hv5 => ?_)
    refine y_istore_n (n := 42) (ls' := [(3, .int v5), (2, .int v4), (1, .int v1), (0, .ref (E.2.2.2.2.1 + o))]) C dX5_perform_41 (by decide) rfl rfl ?_
    refine y_aload_n (n := 43) C dX5_perform_42 3 rfl rfl ?_
    refine y_get (ci := 5) (f := 4) (n := 46) C in_X5 hO.1 rfl (by decide) wd_195 rfl rfl dX5_perform_43 rfl ?_
    refine y_getN (ci := 4) (f := 3) (n := 49) C in_X4 hO.2.2.2.2.1.1 rfl (by decide) wd_178 rfl rfl dX5_perform_46 rfl ?_
    refine y_iconst (n := 50) C (2 : Int32) dX5_perform_49 (by decide) rfl ?_
    refine y_cp (n := 53) C (fun r hr H locs la hP hS hl => y_runS (st := []) C ky_X5_at wd_332 ⟨Nat.le_of_ble_eq_true rfl, Nat.le_of_ble_eq_true rfl⟩ (mX5_at hO.2.2.2.2.1.2.2 w2 2 g.2.1 r hr) rfl (Nat.le_of_ble_eq_true rfl) rfl dX5_perform_50 hP hS hl) rfl (fun v6 hv6 => ?_)
    refine y_istore (n := 55) (ls' := [(4, .int v6), (3, .int v5), (2, .int v4), (1, .int v1), (0, .ref (E.2.2.2.2.1 + o))]) C dX5_perform_53 (by decide) rfl rfl ?_
    refine y_aload_n (n := 56) C dX5_perform_55 4 rfl rfl ?_
    refine y_get (ci := 5) (f := 4) (n := 59) C in_X5 hO.1 rfl (by decide) wd_195 rfl rfl dX5_perform_56 rfl ?_
    refine y_getN (ci := 4) (f := 2) (n := 62) C in_X4 hO.2.2.2.2.1.1 rfl (by decide) wd_176 rfl rfl dX5_perform_59 rfl ?_
    refine y_if (fun h7 => ?_) (fun h7 => ?_)
    · refine y_swIn (tgt := 100) C 38 dX5_perform_62 (by rw [h7]; decide) (by rw [h7]; decide) (by rw [h7]; rfl) (by decide) ?_
      refine y_aload_n (n := 101) C dX5_perform_100 4 rfl rfl ?_
      refine y_iload_n (n := 102) C dX5_perform_101 2 rfl rfl ?_
      refine y_iload_n (n := 103) C dX5_perform_102 1 rfl rfl ?_
      refine y_iload (n := 105) C dX5_perform_103 0 rfl rfl ?_
      refine y_ci2 (n := 108) C (fun r hr H locs la hP hS hl => y_runV (ci := 5) (st := []) C ky_X5_add wd_580 ⟨Nat.le_of_ble_eq_true rfl, Nat.le_of_ble_eq_true rfl⟩ hO.1 rfl (mX5_add hO w2 v4 v5 v6 g.2.1 r hr) rfl (Nat.le_of_ble_eq_true rfl) rfl dX5_perform_105 hP hS hl) rfl (fun v8 w9 hv8 => ?_)
      exact y_ri C hR dX5_perform_108
    refine y_if (fun h10 => ?_) (fun h10 => ?_)
    · refine y_swIn (tgt := 109) C 47 dX5_perform_62 (by rw [h10]; decide) (by rw [h10]; decide) (by rw [h10]; rfl) (by decide) ?_
      refine y_aload_n (n := 110) C dX5_perform_109 4 rfl rfl ?_
      refine y_iload_n (n := 111) C dX5_perform_110 2 rfl rfl ?_
      refine y_iload_n (n := 112) C dX5_perform_111 1 rfl rfl ?_
      refine y_ci2 (n := 115) C (fun r hr H locs la hP hS hl => y_runV (ci := 5) (st := []) C ky_X5_drop wd_581 ⟨Nat.le_of_ble_eq_true rfl, Nat.le_of_ble_eq_true rfl⟩ hO.1 rfl (mX5_drop hO w2 v4 v5 g.2.1 r hr) rfl (Nat.le_of_ble_eq_true rfl) rfl dX5_perform_112 hP hS hl) rfl (fun v11 w12 hv11 => ?_)
      exact y_ri C hR dX5_perform_115
    refine y_if (fun h13 => ?_) (fun h13 => ?_)
    · refine y_swIn (tgt := 116) C 54 dX5_perform_62 (by rw [h13]; decide) (by rw [h13]; decide) (by rw [h13]; rfl) (by decide) ?_
      refine y_aload_n (n := 117) C dX5_perform_116 4 rfl rfl ?_
      refine y_iload_n (n := 118) C dX5_perform_117 2 rfl rfl ?_
      refine y_iload_n (n := 119) C dX5_perform_118 1 rfl rfl ?_
      refine y_ci2 (n := 122) C (fun r hr H locs la hP hS hl => y_runV (ci := 5) (st := []) C ky_X5_weight wd_582 ⟨Nat.le_of_ble_eq_true rfl, Nat.le_of_ble_eq_true rfl⟩ hO.1 rfl (mX5_weight hO w2 v4 v5 g.2.1 r hr) rfl (Nat.le_of_ble_eq_true rfl) rfl dX5_perform_119 hP hS hl) rfl (fun v14 w15 hv14 => ?_)
      exact y_ri C hR dX5_perform_122
    refine y_if (fun h16 => ?_) (fun h16 => ?_)
    · refine y_swIn (tgt := 123) C 61 dX5_perform_62 (by rw [h16]; decide) (by rw [h16]; decide) (by rw [h16]; rfl) (by decide) ?_
      refine y_aload_n (n := 124) C dX5_perform_123 4 rfl rfl ?_
      refine y_iload_n (n := 125) C dX5_perform_124 2 rfl rfl ?_
      refine y_iload_n (n := 126) C dX5_perform_125 1 rfl rfl ?_
      refine y_ci2 (n := 129) C (fun r hr H locs la hP hS hl => y_runV (ci := 5) (st := []) C ky_X5_bribe wd_583 ⟨Nat.le_of_ble_eq_true rfl, Nat.le_of_ble_eq_true rfl⟩ hO.1 rfl (mX5_bribe hO w2 v4 v5 g.2.1 r hr) rfl (Nat.le_of_ble_eq_true rfl) rfl dX5_perform_126 hP hS hl) rfl (fun v17 w18 hv17 => ?_)
      exact y_ri C hR dX5_perform_129
    refine y_if (fun h19 => ?_) (fun h19 => ?_)
    · refine y_swIn (tgt := 130) C 68 dX5_perform_62 (by rw [h19]; decide) (by rw [h19]; decide) (by rw [h19]; rfl) (by decide) ?_
      refine y_aload_n (n := 131) C dX5_perform_130 4 rfl rfl ?_
      refine y_iload_n (n := 132) C dX5_perform_131 2 rfl rfl ?_
      refine y_ci2 (n := 135) C (fun r hr H locs la hP hS hl => y_runV (ci := 5) (st := []) C ky_X5_delete wd_584 ⟨Nat.le_of_ble_eq_true rfl, Nat.le_of_ble_eq_true rfl⟩ hO.1 rfl (mX5_delete hO w2 v4 g.2.1 r hr) rfl (Nat.le_of_ble_eq_true rfl) rfl dX5_perform_132 hP hS hl) rfl (fun v20 w21 hv20 => ?_)
      exact y_ri C hR dX5_perform_135
    refine y_if (fun h22 => ?_) (fun h22 => ?_)
    · refine y_swIn (tgt := 136) C 74 dX5_perform_62 (by rw [h22]; decide) (by rw [h22]; decide) (by rw [h22]; rfl) (by decide) ?_
      refine y_aload_n (n := 137) C dX5_perform_136 4 rfl rfl ?_
      refine y_iload_n (n := 138) C dX5_perform_137 2 rfl rfl ?_
      refine y_ci2 (n := 141) C (fun r hr H locs la hP hS hl => y_runV (ci := 5) (st := []) C ky_X5_bring wd_585 ⟨Nat.le_of_ble_eq_true rfl, Nat.le_of_ble_eq_true rfl⟩ hO.1 rfl (mX5_bring hO w2 v4 g.2.1 r hr) rfl (Nat.le_of_ble_eq_true rfl) rfl dX5_perform_138 hP hS hl) rfl (fun v23 w24 hv23 => ?_)
      exact y_ri C hR dX5_perform_141
    refine y_swOut (tgt := 142) C dX5_perform_62 (by have gh7 := sw_ne (k := 0) (by decide) h7; have gh10 := sw_ne (k := 1) (by decide) h10; have gh13 := sw_ne (k := 2) (by decide) h13; have gh16 := sw_ne (k := 3) (by decide) h16; have gh19 := sw_ne (k := 4) (by decide) h19; have gh22 := sw_ne (k := 5) (by decide) h22; omega) (by decide) ?_
    refine y_aload_n (n := 143) C dX5_perform_142 4 rfl rfl ?_
    refine y_iload_n (n := 144) C dX5_perform_143 2 rfl rfl ?_
    refine y_ci2 (n := 147) C (fun r hr H locs la hP hS hl => y_runV (ci := 5) (st := []) C ky_X5_want wd_586 ⟨Nat.le_of_ble_eq_true rfl, Nat.le_of_ble_eq_true rfl⟩ hO.1 rfl (mX5_want hO w2 v4 g.2.1 r hr) rfl (Nat.le_of_ble_eq_true rfl) rfl dX5_perform_144 hP hS hl) rfl (fun v25 w26 hv25 => ?_)
    exact y_ri C hR dX5_perform_147
  · refine y_bipush (n := 15) C ((-100) : Int32) dX5_perform_13 (by decide) rfl ?_
    refine y_iload_n (n := 16) C dX5_perform_15 0 rfl rfl ?_
    refine y_isub (n := 17) C dX5_perform_16 rfl ?_
    exact y_ri C hR dX5_perform_17
theorem mX5_perform {E : Ex} {o : Nat} (hO : shB E.2.2.2.2.2.1 o) (w : Wd)  (l : Launch) : MI l yX5_perform cX5_perform 5 (some .int) { frames := 7, cells := 0, slots := 0, locals := 180 } E [.ref (E.2.2.2.2.1 + o)] w (fX5_perform E.2.2.2.2.2.1 w o) :=
  y_met (Qc := yQi E) (by decide +kernel) (Nat.le_of_ble_eq_true rfl) (fun g C hR => eX5_perform C hR hO w ) l
def fX5_reading (w : Wd) (o : Nat) (a1 : Int32) : Option (Int32) :=
  if a1 < 0 then
    some (-2)
  else
    if a1 ≤ 12 then
      if (bz (w.1 (o + 1 + 7) 0)) = 0 then
        some (-4)
      else
        if a1 = 0 then
          some (w.1 (o + 1 + 7) 4)
        else
        if a1 = 1 then
          some (w.1 (o + 1 + 7) 5)
        else
        if a1 = 2 then
          (fX2_allLookUps w (o + 1 + 7)).bind fun v7 =>
          some v7
        else
        if a1 = 3 then
          (fX2_cost w (o + 1 + 7)).bind fun v9 =>
          some v9
        else
        if a1 = 4 then
          some (w.1 (o + 1 + 7) 15)
        else
        if a1 = 5 then
          (fX2_toldSize w (o + 1 + 7) (o + 1 + 1)).bind fun v12 =>
          some v12
        else
        if a1 = 6 then
          (fX2_isOver w (o + 1 + 7) (o + 1 + 1)).bind fun v14 =>
          (fX5_oneIf w v14).bind fun v15 =>
          some v15
        else
        if a1 = 7 then
          (fX2_isOver w (o + 1 + 7) (o + 1 + 1)).bind fun v17 =>
          if v17 = 0 then
            (fX2_nextList w (o + 1 + 7) (o + 1 + 1)).bind fun v19 =>
            some v19
          else
            some (-5)
        else
        if a1 = 8 then
          (fX2_weighedBounds w (o + 1 + 7) (o + 1 + 1)).bind fun v21 =>
          some v21
        else
        if a1 = 9 then
          (fX2_lowOfLastTold w (o + 1 + 7) (o + 1 + 1)).bind fun v23 =>
          some v23
        else
        if a1 = 10 then
          (fX2_caughtSize w (o + 1 + 7)).bind fun v25 =>
          some v25
        else
        if a1 = 11 then
          (fX2_toldNotWanted w (o + 1 + 7) (o + 1 + 1)).bind fun v27 =>
          some v27
        else
        (fX2_tellingLess w (o + 1 + 7) (o + 1 + 1)).bind fun v28 =>
        some v28
    else
      some (-2)
set_option maxRecDepth 4000 in
theorem eX5_reading {g : Gx} {E : Ex} (C : CC g E cX5_reading 2 RX5 6 136) (hR : RT g (some .int)) {o : Nat} (hO : shB E.2.2.2.2.2.1 o) (w : Wd) (a1 : Int32) : YO g E 2 (QP g E w) (fX5_reading w o a1) w 0 [(0, .ref (E.2.2.2.2.1 + o)), (1, .int a1)] [] := by
  unfold fX5_reading
  refine y_iload_n (n := 1) C dX5_reading_0 1 rfl rfl ?_
  refine y_if_lt (tgt := 10) (n := 4) C dX5_reading_1 (by decide) rfl (fun h1 => ?_) (fun h1 => ?_)
  · refine y_bipush (n := 12) C ((-2) : Int32) dX5_reading_10 (by decide) rfl ?_
    exact y_rp C hR dX5_reading_12
  · refine y_iload_n (n := 5) C dX5_reading_4 1 rfl rfl ?_
    refine y_bipush (n := 7) C (12 : Int32) dX5_reading_5 (by decide) rfl ?_
    refine y_icmp_le (tgt := 13) (n := 10) C dX5_reading_7 (by decide) rfl (fun h2 => ?_) (fun h2 => ?_)
    · refine y_aload_n (n := 14) C dX5_reading_13 0 rfl rfl ?_
      refine y_get (ci := 5) (f := 0) (n := 17) C in_X5 hO.1 rfl (by decide) wd_191 rfl rfl dX5_reading_14 rfl ?_
      refine y_getN (ci := 3) (f := 1) (n := 20) C in_X3 hO.2.1.1 rfl (by decide) wd_135 rfl rfl dX5_reading_17 rfl ?_
      refine y_getN (ci := 2) (f := 0) (n := 23) C in_X2 hO.2.1.2.2.1 rfl (by decide) wd_73 rfl rfl dX5_reading_20 rfl ?_
      refine y_if_ne (tgt := 29) (n := 26) C dX5_reading_23 (by decide) rfl (fun h3 => ?_) (fun h3 => ?_)
      · refine y_iload_n (n := 30) C dX5_reading_29 1 rfl rfl ?_
        refine y_if (fun h4 => ?_) (fun h4 => ?_)
        · refine y_swIn (tgt := 92) C 62 dX5_reading_30 (by rw [h4]; decide) (by rw [h4]; decide) (by rw [h4]; rfl) (by decide) ?_
          refine y_aload_n (n := 93) C dX5_reading_92 0 rfl rfl ?_
          refine y_get (ci := 5) (f := 0) (n := 96) C in_X5 hO.1 rfl (by decide) wd_191 rfl rfl dX5_reading_93 rfl ?_
          refine y_getN (ci := 3) (f := 1) (n := 99) C in_X3 hO.2.1.1 rfl (by decide) wd_135 rfl rfl dX5_reading_96 rfl ?_
          refine y_getN (ci := 2) (f := 4) (n := 102) C in_X2 hO.2.1.2.2.1 rfl (by decide) wd_78 rfl rfl dX5_reading_99 rfl ?_
          exact y_rp C hR dX5_reading_102
        refine y_if (fun h5 => ?_) (fun h5 => ?_)
        · refine y_swIn (tgt := 103) C 73 dX5_reading_30 (by rw [h5]; decide) (by rw [h5]; decide) (by rw [h5]; rfl) (by decide) ?_
          refine y_aload_n (n := 104) C dX5_reading_103 0 rfl rfl ?_
          refine y_get (ci := 5) (f := 0) (n := 107) C in_X5 hO.1 rfl (by decide) wd_191 rfl rfl dX5_reading_104 rfl ?_
          refine y_getN (ci := 3) (f := 1) (n := 110) C in_X3 hO.2.1.1 rfl (by decide) wd_135 rfl rfl dX5_reading_107 rfl ?_
          refine y_getN (ci := 2) (f := 5) (n := 113) C in_X2 hO.2.1.2.2.1 rfl (by decide) wd_80 rfl rfl dX5_reading_110 rfl ?_
          exact y_rp C hR dX5_reading_113
        refine y_if (fun h6 => ?_) (fun h6 => ?_)
        · refine y_swIn (tgt := 114) C 84 dX5_reading_30 (by rw [h6]; decide) (by rw [h6]; decide) (by rw [h6]; rfl) (by decide) ?_
          refine y_aload_n (n := 115) C dX5_reading_114 0 rfl rfl ?_
          refine y_get (ci := 5) (f := 0) (n := 118) C in_X5 hO.1 rfl (by decide) wd_191 rfl rfl dX5_reading_115 rfl ?_
          refine y_getN (ci := 3) (f := 1) (n := 121) C in_X3 hO.2.1.1 rfl (by decide) wd_135 rfl rfl dX5_reading_118 rfl ?_
          refine y_cp (n := 124) C (fun r hr H locs la hP hS hl => y_runVN (ci := 2) (st := []) C ky_X2_allLookUps wd_677 ⟨Nat.le_of_ble_eq_true rfl, Nat.le_of_ble_eq_true rfl⟩ hO.2.1.2.2.1 rfl (mX2_allLookUps hO.2.1.2.2 w g.2.1 r hr) rfl (Nat.le_of_ble_eq_true rfl) rfl dX5_reading_121 hP hS hl) rfl (fun v7 hv7 => ?_)
          exact y_rp C hR dX5_reading_124
        refine y_if (fun h8 => ?_) (fun h8 => ?_)
        · refine y_swIn (tgt := 125) C 95 dX5_reading_30 (by rw [h8]; decide) (by rw [h8]; decide) (by rw [h8]; rfl) (by decide) ?_
          refine y_aload_n (n := 126) C dX5_reading_125 0 rfl rfl ?_
          refine y_get (ci := 5) (f := 0) (n := 129) C in_X5 hO.1 rfl (by decide) wd_191 rfl rfl dX5_reading_126 rfl ?_
          refine y_getN (ci := 3) (f := 1) (n := 132) C in_X3 hO.2.1.1 rfl (by decide) wd_135 rfl rfl dX5_reading_129 rfl ?_
          refine y_cp (n := 135) C (fun r hr H locs la hP hS hl => y_runVN (ci := 2) (st := []) C ky_X2_cost wd_681 ⟨Nat.le_of_ble_eq_true rfl, Nat.le_of_ble_eq_true rfl⟩ hO.2.1.2.2.1 rfl (mX2_cost hO.2.1.2.2 w g.2.1 r hr) rfl (Nat.le_of_ble_eq_true rfl) rfl dX5_reading_132 hP hS hl) rfl (fun v9 hv9 => ?_)
          exact y_rp C hR dX5_reading_135
        refine y_if (fun h10 => ?_) (fun h10 => ?_)
        · refine y_swIn (tgt := 136) C 106 dX5_reading_30 (by rw [h10]; decide) (by rw [h10]; decide) (by rw [h10]; rfl) (by decide) ?_
          refine y_aload_n (n := 137) C dX5_reading_136 0 rfl rfl ?_
          refine y_get (ci := 5) (f := 0) (n := 140) C in_X5 hO.1 rfl (by decide) wd_191 rfl rfl dX5_reading_137 rfl ?_
          refine y_getN (ci := 3) (f := 1) (n := 143) C in_X3 hO.2.1.1 rfl (by decide) wd_135 rfl rfl dX5_reading_140 rfl ?_
          refine y_getN (ci := 2) (f := 15) (n := 146) C in_X2 hO.2.1.2.2.1 rfl (by decide) wd_98 rfl rfl dX5_reading_143 rfl ?_
          exact y_rp C hR dX5_reading_146
        refine y_if (fun h11 => ?_) (fun h11 => ?_)
        · refine y_swIn (tgt := 147) C 117 dX5_reading_30 (by rw [h11]; decide) (by rw [h11]; decide) (by rw [h11]; rfl) (by decide) ?_
          refine y_aload_n (n := 148) C dX5_reading_147 0 rfl rfl ?_
          refine y_get (ci := 5) (f := 0) (n := 151) C in_X5 hO.1 rfl (by decide) wd_191 rfl rfl dX5_reading_148 rfl ?_
          refine y_getN (ci := 3) (f := 1) (n := 154) C in_X3 hO.2.1.1 rfl (by decide) wd_135 rfl rfl dX5_reading_151 rfl ?_
          refine y_aload_n (n := 155) C dX5_reading_154 0 rfl rfl ?_
          refine y_get (ci := 5) (f := 0) (n := 158) C in_X5 hO.1 rfl (by decide) wd_191 rfl rfl dX5_reading_155 rfl ?_
          refine y_getN (ci := 3) (f := 0) (n := 161) C in_X3 hO.2.1.1 rfl (by decide) wd_133 rfl rfl dX5_reading_158 rfl ?_
          refine y_cp (n := 164) C (fun r hr H locs la hP hS hl => y_runVN (ci := 2) (st := []) C ky_X2_toldSize wd_466 ⟨Nat.le_of_ble_eq_true rfl, Nat.le_of_ble_eq_true rfl⟩ hO.2.1.2.2.1 rfl (mX2_toldSize hO.2.1.2.2 hO.2.1.2.1 w g.2.1 r hr) rfl (Nat.le_of_ble_eq_true rfl) rfl dX5_reading_161 hP hS hl) rfl (fun v12 hv12 => ?_)
          exact y_rp C hR dX5_reading_164
        refine y_if (fun h13 => ?_) (fun h13 => ?_)
        · refine y_swIn (tgt := 165) C 135 dX5_reading_30 (by rw [h13]; decide) (by rw [h13]; decide) (by rw [h13]; rfl) (by decide) ?_
          refine y_aload_n (n := 166) C dX5_reading_165 0 rfl rfl ?_
          refine y_get (ci := 5) (f := 0) (n := 169) C in_X5 hO.1 rfl (by decide) wd_191 rfl rfl dX5_reading_166 rfl ?_
          refine y_getN (ci := 3) (f := 1) (n := 172) C in_X3 hO.2.1.1 rfl (by decide) wd_135 rfl rfl dX5_reading_169 rfl ?_
          refine y_aload_n (n := 173) C dX5_reading_172 0 rfl rfl ?_
          refine y_get (ci := 5) (f := 0) (n := 176) C in_X5 hO.1 rfl (by decide) wd_191 rfl rfl dX5_reading_173 rfl ?_
          refine y_getN (ci := 3) (f := 0) (n := 179) C in_X3 hO.2.1.1 rfl (by decide) wd_133 rfl rfl dX5_reading_176 rfl ?_
          refine y_cp (n := 182) C (fun r hr H locs la hP hS hl => y_runVN (ci := 2) (st := []) C ky_X2_isOver wd_378 ⟨Nat.le_of_ble_eq_true rfl, Nat.le_of_ble_eq_true rfl⟩ hO.2.1.2.2.1 rfl (mX2_isOver hO.2.1.2.2 hO.2.1.2.1 w g.2.1 r hr) rfl (Nat.le_of_ble_eq_true rfl) rfl dX5_reading_179 hP hS hl) rfl (fun v14 hv14 => ?_)
          refine y_cp (n := 185) C (fun r hr H locs la hP hS hl => y_runS (st := []) C ky_X5_oneIf wd_404 ⟨Nat.le_of_ble_eq_true rfl, Nat.le_of_ble_eq_true rfl⟩ (mX5_oneIf w v14 g.2.1 r hr) rfl (Nat.le_of_ble_eq_true rfl) rfl dX5_reading_182 hP hS hl) rfl (fun v15 hv15 => ?_)
          exact y_rp C hR dX5_reading_185
        refine y_if (fun h16 => ?_) (fun h16 => ?_)
        · refine y_swIn (tgt := 186) C 156 dX5_reading_30 (by rw [h16]; decide) (by rw [h16]; decide) (by rw [h16]; rfl) (by decide) ?_
          refine y_aload_n (n := 187) C dX5_reading_186 0 rfl rfl ?_
          refine y_get (ci := 5) (f := 0) (n := 190) C in_X5 hO.1 rfl (by decide) wd_191 rfl rfl dX5_reading_187 rfl ?_
          refine y_getN (ci := 3) (f := 1) (n := 193) C in_X3 hO.2.1.1 rfl (by decide) wd_135 rfl rfl dX5_reading_190 rfl ?_
          refine y_aload_n (n := 194) C dX5_reading_193 0 rfl rfl ?_
          refine y_get (ci := 5) (f := 0) (n := 197) C in_X5 hO.1 rfl (by decide) wd_191 rfl rfl dX5_reading_194 rfl ?_
          refine y_getN (ci := 3) (f := 0) (n := 200) C in_X3 hO.2.1.1 rfl (by decide) wd_133 rfl rfl dX5_reading_197 rfl ?_
          refine y_cp (n := 203) C (fun r hr H locs la hP hS hl => y_runVN (ci := 2) (st := []) C ky_X2_isOver wd_378 ⟨Nat.le_of_ble_eq_true rfl, Nat.le_of_ble_eq_true rfl⟩ hO.2.1.2.2.1 rfl (mX2_isOver hO.2.1.2.2 hO.2.1.2.1 w g.2.1 r hr) rfl (Nat.le_of_ble_eq_true rfl) rfl dX5_reading_200 hP hS hl) rfl (fun v17 hv17 => ?_)
          refine y_if_eq (tgt := 211) (n := 206) C dX5_reading_203 (by decide) rfl (fun h18 => ?_) (fun h18 => ?_)
          · refine y_aload_n (n := 212) C dX5_reading_211 0 rfl rfl ?_
            refine y_get (ci := 5) (f := 0) (n := 215) C in_X5 hO.1 rfl (by decide) wd_191 rfl rfl dX5_reading_212 rfl ?_
            refine y_getN (ci := 3) (f := 1) (n := 218) C in_X3 hO.2.1.1 rfl (by decide) wd_135 rfl rfl dX5_reading_215 rfl ?_
            refine y_aload_n (n := 219) C dX5_reading_218 0 rfl rfl ?_
            refine y_get (ci := 5) (f := 0) (n := 222) C in_X5 hO.1 rfl (by decide) wd_191 rfl rfl dX5_reading_219 rfl ?_
            refine y_getN (ci := 3) (f := 0) (n := 225) C in_X3 hO.2.1.1 rfl (by decide) wd_133 rfl rfl dX5_reading_222 rfl ?_
            refine y_cp (n := 228) C (fun r hr H locs la hP hS hl => y_runVN (ci := 2) (st := []) C ky_X2_nextList wd_686 ⟨Nat.le_of_ble_eq_true rfl, Nat.le_of_ble_eq_true rfl⟩ hO.2.1.2.2.1 rfl (mX2_nextList hO.2.1.2.2 hO.2.1.2.1 w g.2.1 r hr) rfl (Nat.le_of_ble_eq_true rfl) rfl dX5_reading_225 hP hS hl) rfl (fun v19 hv19 => ?_)
            exact y_rp C hR dX5_reading_228
          · refine y_bipush (n := 208) C ((-5) : Int32) dX5_reading_206 (by decide) rfl ?_
            refine y_goto (tgt := 228) C dX5_reading_208 (by decide) ?_
            exact y_rp C hR dX5_reading_228
        refine y_if (fun h20 => ?_) (fun h20 => ?_)
        · refine y_swIn (tgt := 229) C 199 dX5_reading_30 (by rw [h20]; decide) (by rw [h20]; decide) (by rw [h20]; rfl) (by decide) ?_
          refine y_aload_n (n := 230) C dX5_reading_229 0 rfl rfl ?_
          refine y_get (ci := 5) (f := 0) (n := 233) C in_X5 hO.1 rfl (by decide) wd_191 rfl rfl dX5_reading_230 rfl ?_
          refine y_getN (ci := 3) (f := 1) (n := 236) C in_X3 hO.2.1.1 rfl (by decide) wd_135 rfl rfl dX5_reading_233 rfl ?_
          refine y_aload_n (n := 237) C dX5_reading_236 0 rfl rfl ?_
          refine y_get (ci := 5) (f := 0) (n := 240) C in_X5 hO.1 rfl (by decide) wd_191 rfl rfl dX5_reading_237 rfl ?_
          refine y_getN (ci := 3) (f := 0) (n := 243) C in_X3 hO.2.1.1 rfl (by decide) wd_133 rfl rfl dX5_reading_240 rfl ?_
          refine y_cp (n := 246) C (fun r hr H locs la hP hS hl => y_runVN (ci := 2) (st := []) C ky_X2_weighedBounds wd_687 ⟨Nat.le_of_ble_eq_true rfl, Nat.le_of_ble_eq_true rfl⟩ hO.2.1.2.2.1 rfl (mX2_weighedBounds hO.2.1.2.2 hO.2.1.2.1 w g.2.1 r hr) rfl (Nat.le_of_ble_eq_true rfl) rfl dX5_reading_243 hP hS hl) rfl (fun v21 hv21 => ?_)
          exact y_rp C hR dX5_reading_246
        refine y_if (fun h22 => ?_) (fun h22 => ?_)
        · refine y_swIn (tgt := 247) C 217 dX5_reading_30 (by rw [h22]; decide) (by rw [h22]; decide) (by rw [h22]; rfl) (by decide) ?_
          refine y_aload_n (n := 248) C dX5_reading_247 0 rfl rfl ?_
          refine y_get (ci := 5) (f := 0) (n := 251) C in_X5 hO.1 rfl (by decide) wd_191 rfl rfl dX5_reading_248 rfl ?_
          refine y_getN (ci := 3) (f := 1) (n := 254) C in_X3 hO.2.1.1 rfl (by decide) wd_135 rfl rfl dX5_reading_251 rfl ?_
          refine y_aload_n (n := 255) C dX5_reading_254 0 rfl rfl ?_
          refine y_get (ci := 5) (f := 0) (n := 258) C in_X5 hO.1 rfl (by decide) wd_191 rfl rfl dX5_reading_255 rfl ?_
          refine y_getN (ci := 3) (f := 0) (n := 261) C in_X3 hO.2.1.1 rfl (by decide) wd_133 rfl rfl dX5_reading_258 rfl ?_
          refine y_cp (n := 264) C (fun r hr H locs la hP hS hl => y_runVN (ci := 2) (st := []) C ky_X2_lowOfLastTold wd_688 ⟨Nat.le_of_ble_eq_true rfl, Nat.le_of_ble_eq_true rfl⟩ hO.2.1.2.2.1 rfl (mX2_lowOfLastTold hO.2.1.2.2 hO.2.1.2.1 w g.2.1 r hr) rfl (Nat.le_of_ble_eq_true rfl) rfl dX5_reading_261 hP hS hl) rfl (fun v23 hv23 => ?_)
          exact y_rp C hR dX5_reading_264
        refine y_if (fun h24 => ?_) (fun h24 => ?_)
        · refine y_swIn (tgt := 265) C 235 dX5_reading_30 (by rw [h24]; decide) (by rw [h24]; decide) (by rw [h24]; rfl) (by decide) ?_
          refine y_aload_n (n := 266) C dX5_reading_265 0 rfl rfl ?_
          refine y_get (ci := 5) (f := 0) (n := 269) C in_X5 hO.1 rfl (by decide) wd_191 rfl rfl dX5_reading_266 rfl ?_
          refine y_getN (ci := 3) (f := 1) (n := 272) C in_X3 hO.2.1.1 rfl (by decide) wd_135 rfl rfl dX5_reading_269 rfl ?_
          refine y_cp (n := 275) C (fun r hr H locs la hP hS hl => y_runVN (ci := 2) (st := []) C ky_X2_caughtSize wd_409 ⟨Nat.le_of_ble_eq_true rfl, Nat.le_of_ble_eq_true rfl⟩ hO.2.1.2.2.1 rfl (mX2_caughtSize hO.2.1.2.2 w g.2.1 r hr) rfl (Nat.le_of_ble_eq_true rfl) rfl dX5_reading_272 hP hS hl) rfl (fun v25 hv25 => ?_)
          exact y_rp C hR dX5_reading_275
        refine y_if (fun h26 => ?_) (fun h26 => ?_)
        · refine y_swIn (tgt := 276) C 246 dX5_reading_30 (by rw [h26]; decide) (by rw [h26]; decide) (by rw [h26]; rfl) (by decide) ?_
          refine y_aload_n (n := 277) C dX5_reading_276 0 rfl rfl ?_
          refine y_get (ci := 5) (f := 0) (n := 280) C in_X5 hO.1 rfl (by decide) wd_191 rfl rfl dX5_reading_277 rfl ?_
          refine y_getN (ci := 3) (f := 1) (n := 283) C in_X3 hO.2.1.1 rfl (by decide) wd_135 rfl rfl dX5_reading_280 rfl ?_
          refine y_aload_n (n := 284) C dX5_reading_283 0 rfl rfl ?_
          refine y_get (ci := 5) (f := 0) (n := 287) C in_X5 hO.1 rfl (by decide) wd_191 rfl rfl dX5_reading_284 rfl ?_
          refine y_getN (ci := 3) (f := 0) (n := 290) C in_X3 hO.2.1.1 rfl (by decide) wd_133 rfl rfl dX5_reading_287 rfl ?_
          refine y_cp (n := 293) C (fun r hr H locs la hP hS hl => y_runVN (ci := 2) (st := []) C ky_X2_toldNotWanted wd_693 ⟨Nat.le_of_ble_eq_true rfl, Nat.le_of_ble_eq_true rfl⟩ hO.2.1.2.2.1 rfl (mX2_toldNotWanted hO.2.1.2.2 hO.2.1.2.1 w g.2.1 r hr) rfl (Nat.le_of_ble_eq_true rfl) rfl dX5_reading_290 hP hS hl) rfl (fun v27 hv27 => ?_)
          exact y_rp C hR dX5_reading_293
        refine y_swOut (tgt := 294) C dX5_reading_30 (by have gh4 := sw_ne (k := 0) (by decide) h4; have gh5 := sw_ne (k := 1) (by decide) h5; have gh6 := sw_ne (k := 2) (by decide) h6; have gh8 := sw_ne (k := 3) (by decide) h8; have gh10 := sw_ne (k := 4) (by decide) h10; have gh11 := sw_ne (k := 5) (by decide) h11; have gh13 := sw_ne (k := 6) (by decide) h13; have gh16 := sw_ne (k := 7) (by decide) h16; have gh20 := sw_ne (k := 8) (by decide) h20; have gh22 := sw_ne (k := 9) (by decide) h22; have gh24 := sw_ne (k := 10) (by decide) h24; have gh26 := sw_ne (k := 11) (by decide) h26; omega) (by decide) ?_
        refine y_aload_n (n := 295) C dX5_reading_294 0 rfl rfl ?_
        refine y_get (ci := 5) (f := 0) (n := 298) C in_X5 hO.1 rfl (by decide) wd_191 rfl rfl dX5_reading_295 rfl ?_
        refine y_getN (ci := 3) (f := 1) (n := 301) C in_X3 hO.2.1.1 rfl (by decide) wd_135 rfl rfl dX5_reading_298 rfl ?_
        refine y_aload_n (n := 302) C dX5_reading_301 0 rfl rfl ?_
        refine y_get (ci := 5) (f := 0) (n := 305) C in_X5 hO.1 rfl (by decide) wd_191 rfl rfl dX5_reading_302 rfl ?_
        refine y_getN (ci := 3) (f := 0) (n := 308) C in_X3 hO.2.1.1 rfl (by decide) wd_133 rfl rfl dX5_reading_305 rfl ?_
        refine y_cp (n := 311) C (fun r hr H locs la hP hS hl => y_runVN (ci := 2) (st := []) C ky_X2_tellingLess wd_698 ⟨Nat.le_of_ble_eq_true rfl, Nat.le_of_ble_eq_true rfl⟩ hO.2.1.2.2.1 rfl (mX2_tellingLess hO.2.1.2.2 hO.2.1.2.1 w g.2.1 r hr) rfl (Nat.le_of_ble_eq_true rfl) rfl dX5_reading_308 hP hS hl) rfl (fun v28 hv28 => ?_)
        exact y_rp C hR dX5_reading_311
      · refine y_bipush (n := 28) C ((-4) : Int32) dX5_reading_26 (by decide) rfl ?_
        exact y_rp C hR dX5_reading_28
    · refine y_bipush (n := 12) C ((-2) : Int32) dX5_reading_10 (by decide) rfl ?_
      exact y_rp C hR dX5_reading_12
theorem mX5_reading {E : Ex} {o : Nat} (hO : shB E.2.2.2.2.2.1 o) (w : Wd) (a1 : Int32) (l : Launch) : MP l yX5_reading cX5_reading 2 (some .int) { frames := 6, cells := 0, slots := 0, locals := 136 } E [.ref (E.2.2.2.2.1 + o), .int a1] w (fX5_reading w o a1) :=
  y_met (Qc := fun r => yQi E (r, w)) (by decide +kernel) (Nat.le_of_ble_eq_true rfl) (fun g C hR => eX5_reading C hR hO w a1) l
def fX5_restore (y : Ly) (w : Wd) (o : Nat)  : Option (Int32 × Wd) :=
  if (bz (w.1 o 3)) = 0 then
    some ((-5), w)
  else
    (fX0_record y w (o + 17) (o + 1)).bind fun w2 =>
    (fX3_copyFrom w2 (o + 1) (o + 83)).bind fun w3 =>
    (fX1_entries w3 (o + 1 + 1)).bind fun v4 =>
    some (v4, w3)
set_option maxRecDepth 4000 in
theorem eX5_restore {g : Gx} {E : Ex} (C : CC g E cX5_restore 1 RX5 5 133) (hR : RT g (some .int)) {o : Nat} (hO : shB E.2.2.2.2.2.1 o) (w : Wd)  : YO g E 1 (QI g E) (fX5_restore E.2.2.2.2.2.1 w o) w 0 [(0, .ref (E.2.2.2.2.1 + o))] [] := by
  unfold fX5_restore
  refine y_aload_n (n := 1) C dX5_restore_0 0 rfl rfl ?_
  refine y_get (ci := 5) (f := 3) (n := 4) C in_X5 hO.1 rfl (by decide) wd_194 rfl rfl dX5_restore_1 rfl ?_
  refine y_if_ne (tgt := 10) (n := 7) C dX5_restore_4 (by decide) rfl (fun h1 => ?_) (fun h1 => ?_)
  · refine y_aload_n (n := 11) C dX5_restore_10 0 rfl rfl ?_
    refine y_get (ci := 5) (f := 1) (n := 14) C in_X5 hO.1 rfl (by decide) wd_192 rfl rfl dX5_restore_11 rfl ?_
    refine y_aload_n (n := 15) C dX5_restore_14 0 rfl rfl ?_
    refine y_get (ci := 5) (f := 0) (n := 18) C in_X5 hO.1 rfl (by decide) wd_191 rfl rfl dX5_restore_15 rfl ?_
    refine y_cv (n := 21) C (fun r hr H locs la hP hS hl => y_runVN (ci := 0) (st := []) C ky_X0_record wd_232 ⟨Nat.le_of_ble_eq_true rfl, Nat.le_of_ble_eq_true rfl⟩ hO.2.2.1.1 rfl (mX0_record hO.2.2.1 hO.2.1 w g.2.1 r hr) rfl (Nat.le_of_ble_eq_true rfl) rfl dX5_restore_18 hP hS hl) rfl (fun w2 hw2 => ?_)
    refine y_aload_n (n := 22) C dX5_restore_21 0 rfl rfl ?_
    refine y_get (ci := 5) (f := 0) (n := 25) C in_X5 hO.1 rfl (by decide) wd_191 rfl rfl dX5_restore_22 rfl ?_
    refine y_aload_n (n := 26) C dX5_restore_25 0 rfl rfl ?_
    refine y_get (ci := 5) (f := 2) (n := 29) C in_X5 hO.1 rfl (by decide) wd_193 rfl rfl dX5_restore_26 rfl ?_
    refine y_cv (n := 32) C (fun r hr H locs la hP hS hl => y_runVN (ci := 3) (st := []) C ky_X3_copyFrom wd_600 ⟨Nat.le_of_ble_eq_true rfl, Nat.le_of_ble_eq_true rfl⟩ hO.2.1.1 rfl (mX3_copyFrom hO.2.1 hO.2.2.2.1 w2 g.2.1 r hr) rfl (Nat.le_of_ble_eq_true rfl) rfl dX5_restore_29 hP hS hl) rfl (fun w3 hw3 => ?_)
    refine y_aload_n (n := 33) C dX5_restore_32 0 rfl rfl ?_
    refine y_get (ci := 5) (f := 0) (n := 36) C in_X5 hO.1 rfl (by decide) wd_191 rfl rfl dX5_restore_33 rfl ?_
    refine y_getN (ci := 3) (f := 0) (n := 39) C in_X3 hO.2.1.1 rfl (by decide) wd_133 rfl rfl dX5_restore_36 rfl ?_
    refine y_cp (n := 42) C (fun r hr H locs la hP hS hl => y_runVN (ci := 1) (st := []) C ky_X1_entries wd_601 ⟨Nat.le_of_ble_eq_true rfl, Nat.le_of_ble_eq_true rfl⟩ hO.2.1.2.1.1 rfl (mX1_entries hO.2.1.2.1 w3 g.2.1 r hr) rfl (Nat.le_of_ble_eq_true rfl) rfl dX5_restore_39 hP hS hl) rfl (fun v4 hv4 => ?_)
    exact y_ri C hR dX5_restore_42
  · refine y_bipush (n := 9) C ((-5) : Int32) dX5_restore_7 (by decide) rfl ?_
    exact y_ri C hR dX5_restore_9
theorem mX5_restore {E : Ex} {o : Nat} (hO : shB E.2.2.2.2.2.1 o) (w : Wd)  (l : Launch) : MI l yX5_restore cX5_restore 1 (some .int) { frames := 5, cells := 0, slots := 0, locals := 133 } E [.ref (E.2.2.2.2.1 + o)] w (fX5_restore E.2.2.2.2.2.1 w o) :=
  y_met (Qc := yQi E) (by decide +kernel) (Nat.le_of_ble_eq_true rfl) (fun g C hR => eX5_restore C hR hO w ) l
def fX5_seen (w : Wd) (o : Nat) (a1 : Int32) (a2 : Int32) : Option (Int32) :=
  (fX5_isDocument w a1).bind fun v1 =>
  if v1 = 0 then
    some (-1)
  else
    if a2 < 0 then
      some (-2)
    else
      if a2 ≤ 4 then
        if (bz (w.1 (o + 1 + 7) 0)) = 0 then
          some (-4)
        else
          (fX2_isSeen w (o + 1 + 7) a1).bind fun v6 =>
          if v6 = 0 then
            some (-5)
          else
            if a2 = 0 then
              (fX5_at w (o + 1 + 7 + 6) 60 a1).bind fun v9 =>
              some v9
            else
            if a2 = 1 then
              (fX2_highOf w (o + 1 + 7) (o + 1 + 1) a1).bind fun v11 =>
              some v11
            else
            if a2 = 2 then
              (fX2_knownListsOf w (o + 1 + 7) (o + 1 + 1) a1).bind fun v13 =>
              some v13
            else
            if a2 = 3 then
              (fX2_frontPlaceOf w (o + 1 + 7) a1).bind fun v15 =>
              some v15
            else
            (fX5_at w (o + 1 + 7 + 7) 60 a1).bind fun v16 =>
            some v16
      else
        some (-2)
set_option maxRecDepth 4000 in
theorem eX5_seen {g : Gx} {E : Ex} (C : CC g E cX5_seen 3 RX5 4 89) (hR : RT g (some .int)) {o : Nat} (hO : shB E.2.2.2.2.2.1 o) (w : Wd) (a1 : Int32) (a2 : Int32) : YO g E 3 (QP g E w) (fX5_seen w o a1 a2) w 0 [(0, .ref (E.2.2.2.2.1 + o)), (1, .int a1), (2, .int a2)] [] := by
  unfold fX5_seen
  refine y_iload_n (n := 1) C dX5_seen_0 1 rfl rfl ?_
  refine y_cp (n := 4) C (fun r hr H locs la hP hS hl => y_runS (st := []) C ky_X5_isDocument wd_217 ⟨Nat.le_of_ble_eq_true rfl, Nat.le_of_ble_eq_true rfl⟩ (mX5_isDocument w a1 g.2.1 r hr) rfl (Nat.le_of_ble_eq_true rfl) rfl dX5_seen_1 hP hS hl) rfl (fun v1 hv1 => ?_)
  refine y_if_ne (tgt := 9) (n := 7) C dX5_seen_4 (by decide) rfl (fun h2 => ?_) (fun h2 => ?_)
  · refine y_iload_n (n := 10) C dX5_seen_9 2 rfl rfl ?_
    refine y_if_lt (tgt := 18) (n := 13) C dX5_seen_10 (by decide) rfl (fun h3 => ?_) (fun h3 => ?_)
    · refine y_bipush (n := 20) C ((-2) : Int32) dX5_seen_18 (by decide) rfl ?_
      exact y_rp C hR dX5_seen_20
    · refine y_iload_n (n := 14) C dX5_seen_13 2 rfl rfl ?_
      refine y_iconst (n := 15) C (4 : Int32) dX5_seen_14 (by decide) rfl ?_
      refine y_icmp_le (tgt := 21) (n := 18) C dX5_seen_15 (by decide) rfl (fun h4 => ?_) (fun h4 => ?_)
      · refine y_aload_n (n := 22) C dX5_seen_21 0 rfl rfl ?_
        refine y_get (ci := 5) (f := 0) (n := 25) C in_X5 hO.1 rfl (by decide) wd_191 rfl rfl dX5_seen_22 rfl ?_
        refine y_getN (ci := 3) (f := 1) (n := 28) C in_X3 hO.2.1.1 rfl (by decide) wd_135 rfl rfl dX5_seen_25 rfl ?_
        refine y_getN (ci := 2) (f := 0) (n := 31) C in_X2 hO.2.1.2.2.1 rfl (by decide) wd_73 rfl rfl dX5_seen_28 rfl ?_
        refine y_if_ne (tgt := 37) (n := 34) C dX5_seen_31 (by decide) rfl (fun h5 => ?_) (fun h5 => ?_)
        · refine y_aload_n (n := 38) C dX5_seen_37 0 rfl rfl ?_
          refine y_get (ci := 5) (f := 0) (n := 41) C in_X5 hO.1 rfl (by decide) wd_191 rfl rfl dX5_seen_38 rfl ?_
          refine y_getN (ci := 3) (f := 1) (n := 44) C in_X3 hO.2.1.1 rfl (by decide) wd_135 rfl rfl dX5_seen_41 rfl ?_
          refine y_iload_n (n := 45) C dX5_seen_44 1 rfl rfl ?_
          refine y_cp (n := 48) C (fun r hr H locs la hP hS hl => y_runVN (ci := 2) (st := []) C ky_X2_isSeen wd_661 ⟨Nat.le_of_ble_eq_true rfl, Nat.le_of_ble_eq_true rfl⟩ hO.2.1.2.2.1 rfl (mX2_isSeen hO.2.1.2.2 w a1 g.2.1 r hr) rfl (Nat.le_of_ble_eq_true rfl) rfl dX5_seen_45 hP hS hl) rfl (fun v6 hv6 => ?_)
          refine y_if_ne (tgt := 54) (n := 51) C dX5_seen_48 (by decide) rfl (fun h7 => ?_) (fun h7 => ?_)
          · refine y_iload_n (n := 55) C dX5_seen_54 2 rfl rfl ?_
            refine y_if (fun h8 => ?_) (fun h8 => ?_)
            · refine y_swIn (tgt := 84) C 29 dX5_seen_55 (by rw [h8]; decide) (by rw [h8]; decide) (by rw [h8]; rfl) (by decide) ?_
              refine y_aload_n (n := 85) C dX5_seen_84 0 rfl rfl ?_
              refine y_get (ci := 5) (f := 0) (n := 88) C in_X5 hO.1 rfl (by decide) wd_191 rfl rfl dX5_seen_85 rfl ?_
              refine y_getN (ci := 3) (f := 1) (n := 91) C in_X3 hO.2.1.1 rfl (by decide) wd_135 rfl rfl dX5_seen_88 rfl ?_
              refine y_getN (ci := 2) (f := 12) (n := 94) C in_X2 hO.2.1.2.2.1 rfl (by decide) wd_92 rfl rfl dX5_seen_91 rfl ?_
              refine y_iload_n (n := 95) C dX5_seen_94 1 rfl rfl ?_
              refine y_cp (n := 98) C (fun r hr H locs la hP hS hl => y_runS (st := []) C ky_X5_at wd_332 ⟨Nat.le_of_ble_eq_true rfl, Nat.le_of_ble_eq_true rfl⟩ (mX5_at hO.2.1.2.2.2.2.2.2.2.2.1 w a1 g.2.1 r hr) rfl (Nat.le_of_ble_eq_true rfl) rfl dX5_seen_95 hP hS hl) rfl (fun v9 hv9 => ?_)
              exact y_rp C hR dX5_seen_98
            refine y_if (fun h10 => ?_) (fun h10 => ?_)
            · refine y_swIn (tgt := 99) C 44 dX5_seen_55 (by rw [h10]; decide) (by rw [h10]; decide) (by rw [h10]; rfl) (by decide) ?_
              refine y_aload_n (n := 100) C dX5_seen_99 0 rfl rfl ?_
              refine y_get (ci := 5) (f := 0) (n := 103) C in_X5 hO.1 rfl (by decide) wd_191 rfl rfl dX5_seen_100 rfl ?_
              refine y_getN (ci := 3) (f := 1) (n := 106) C in_X3 hO.2.1.1 rfl (by decide) wd_135 rfl rfl dX5_seen_103 rfl ?_
              refine y_aload_n (n := 107) C dX5_seen_106 0 rfl rfl ?_
              refine y_get (ci := 5) (f := 0) (n := 110) C in_X5 hO.1 rfl (by decide) wd_191 rfl rfl dX5_seen_107 rfl ?_
              refine y_getN (ci := 3) (f := 0) (n := 113) C in_X3 hO.2.1.1 rfl (by decide) wd_133 rfl rfl dX5_seen_110 rfl ?_
              refine y_iload_n (n := 114) C dX5_seen_113 1 rfl rfl ?_
              refine y_cp (n := 117) C (fun r hr H locs la hP hS hl => y_runVN (ci := 2) (st := []) C ky_X2_highOf wd_662 ⟨Nat.le_of_ble_eq_true rfl, Nat.le_of_ble_eq_true rfl⟩ hO.2.1.2.2.1 rfl (mX2_highOf hO.2.1.2.2 hO.2.1.2.1 w a1 g.2.1 r hr) rfl (Nat.le_of_ble_eq_true rfl) rfl dX5_seen_114 hP hS hl) rfl (fun v11 hv11 => ?_)
              exact y_rp C hR dX5_seen_117
            refine y_if (fun h12 => ?_) (fun h12 => ?_)
            · refine y_swIn (tgt := 118) C 63 dX5_seen_55 (by rw [h12]; decide) (by rw [h12]; decide) (by rw [h12]; rfl) (by decide) ?_
              refine y_aload_n (n := 119) C dX5_seen_118 0 rfl rfl ?_
              refine y_get (ci := 5) (f := 0) (n := 122) C in_X5 hO.1 rfl (by decide) wd_191 rfl rfl dX5_seen_119 rfl ?_
              refine y_getN (ci := 3) (f := 1) (n := 125) C in_X3 hO.2.1.1 rfl (by decide) wd_135 rfl rfl dX5_seen_122 rfl ?_
              refine y_aload_n (n := 126) C dX5_seen_125 0 rfl rfl ?_
              refine y_get (ci := 5) (f := 0) (n := 129) C in_X5 hO.1 rfl (by decide) wd_191 rfl rfl dX5_seen_126 rfl ?_
              refine y_getN (ci := 3) (f := 0) (n := 132) C in_X3 hO.2.1.1 rfl (by decide) wd_133 rfl rfl dX5_seen_129 rfl ?_
              refine y_iload_n (n := 133) C dX5_seen_132 1 rfl rfl ?_
              refine y_cp (n := 136) C (fun r hr H locs la hP hS hl => y_runVN (ci := 2) (st := []) C ky_X2_knownListsOf wd_663 ⟨Nat.le_of_ble_eq_true rfl, Nat.le_of_ble_eq_true rfl⟩ hO.2.1.2.2.1 rfl (mX2_knownListsOf hO.2.1.2.2 hO.2.1.2.1 w a1 g.2.1 r hr) rfl (Nat.le_of_ble_eq_true rfl) rfl dX5_seen_133 hP hS hl) rfl (fun v13 hv13 => ?_)
              exact y_rp C hR dX5_seen_136
            refine y_if (fun h14 => ?_) (fun h14 => ?_)
            · refine y_swIn (tgt := 137) C 82 dX5_seen_55 (by rw [h14]; decide) (by rw [h14]; decide) (by rw [h14]; rfl) (by decide) ?_
              refine y_aload_n (n := 138) C dX5_seen_137 0 rfl rfl ?_
              refine y_get (ci := 5) (f := 0) (n := 141) C in_X5 hO.1 rfl (by decide) wd_191 rfl rfl dX5_seen_138 rfl ?_
              refine y_getN (ci := 3) (f := 1) (n := 144) C in_X3 hO.2.1.1 rfl (by decide) wd_135 rfl rfl dX5_seen_141 rfl ?_
              refine y_iload_n (n := 145) C dX5_seen_144 1 rfl rfl ?_
              refine y_cp (n := 148) C (fun r hr H locs la hP hS hl => y_runVN (ci := 2) (st := []) C ky_X2_frontPlaceOf wd_668 ⟨Nat.le_of_ble_eq_true rfl, Nat.le_of_ble_eq_true rfl⟩ hO.2.1.2.2.1 rfl (mX2_frontPlaceOf hO.2.1.2.2 w a1 g.2.1 r hr) rfl (Nat.le_of_ble_eq_true rfl) rfl dX5_seen_145 hP hS hl) rfl (fun v15 hv15 => ?_)
              exact y_rp C hR dX5_seen_148
            refine y_swOut (tgt := 149) C dX5_seen_55 (by have gh8 := sw_ne (k := 0) (by decide) h8; have gh10 := sw_ne (k := 1) (by decide) h10; have gh12 := sw_ne (k := 2) (by decide) h12; have gh14 := sw_ne (k := 3) (by decide) h14; omega) (by decide) ?_
            refine y_aload_n (n := 150) C dX5_seen_149 0 rfl rfl ?_
            refine y_get (ci := 5) (f := 0) (n := 153) C in_X5 hO.1 rfl (by decide) wd_191 rfl rfl dX5_seen_150 rfl ?_
            refine y_getN (ci := 3) (f := 1) (n := 156) C in_X3 hO.2.1.1 rfl (by decide) wd_135 rfl rfl dX5_seen_153 rfl ?_
            refine y_getN (ci := 2) (f := 13) (n := 159) C in_X2 hO.2.1.2.2.1 rfl (by decide) wd_94 rfl rfl dX5_seen_156 rfl ?_
            refine y_iload_n (n := 160) C dX5_seen_159 1 rfl rfl ?_
            refine y_cp (n := 163) C (fun r hr H locs la hP hS hl => y_runS (st := []) C ky_X5_at wd_332 ⟨Nat.le_of_ble_eq_true rfl, Nat.le_of_ble_eq_true rfl⟩ (mX5_at hO.2.1.2.2.2.2.2.2.2.2.2.1 w a1 g.2.1 r hr) rfl (Nat.le_of_ble_eq_true rfl) rfl dX5_seen_160 hP hS hl) rfl (fun v16 hv16 => ?_)
            exact y_rp C hR dX5_seen_163
          · refine y_bipush (n := 53) C ((-5) : Int32) dX5_seen_51 (by decide) rfl ?_
            exact y_rp C hR dX5_seen_53
        · refine y_bipush (n := 36) C ((-4) : Int32) dX5_seen_34 (by decide) rfl ?_
          exact y_rp C hR dX5_seen_36
      · refine y_bipush (n := 20) C ((-2) : Int32) dX5_seen_18 (by decide) rfl ?_
        exact y_rp C hR dX5_seen_20
  · refine y_iconst (n := 8) C ((-1) : Int32) dX5_seen_7 (by decide) rfl ?_
    exact y_rp C hR dX5_seen_8
theorem mX5_seen {E : Ex} {o : Nat} (hO : shB E.2.2.2.2.2.1 o) (w : Wd) (a1 : Int32) (a2 : Int32) (l : Launch) : MP l yX5_seen cX5_seen 3 (some .int) { frames := 4, cells := 0, slots := 0, locals := 89 } E [.ref (E.2.2.2.2.1 + o), .int a1, .int a2] w (fX5_seen w o a1 a2) :=
  y_met (Qc := fun r => yQi E (r, w)) (by decide +kernel) (Nat.le_of_ble_eq_true rfl) (fun g C hR => eX5_seen C hR hO w a1 a2) l
def fX5_step (y : Ly) (w : Wd) (o : Nat) (a1 : Int32) : Option (Int32 × Wd) :=
  if a1 < 1 then
    some ((-2), w)
  else
    if a1 ≤ 240 then
      if (bz (w.1 (o + 1 + 7) 0)) = 0 then
        some ((-4), w)
      else
        (fX2_isOver w (o + 1 + 7) (o + 1 + 1)).bind fun v4 =>
        if v4 = 0 then
          (fX0_record y w (o + 17) (o + 1)).bind fun w6 =>
          (fX2_caughtSize w6 (o + 1 + 7)).bind fun v7 =>
          ob2 (fX2_goOn w6 (o + 1 + 7) (o + 1 + 1) a1) fun v8 w9 =>
          (fX2_caughtSize w9 (o + 1 + 7)).bind fun v10 =>
          (pI w9 (o + 1) 3 ((w9.1 (o + 1) 3) + (v10 - v7))).bind fun w11 =>
          some (v8, w11)
        else
          some ((-5), w)
    else
      some ((-2), w)
set_option maxRecDepth 4000 in
theorem eX5_step {g : Gx} {E : Ex} (C : CC g E cX5_step 4 RX5 6 140) (hR : RT g (some .int)) {o : Nat} (hO : shB E.2.2.2.2.2.1 o) (w : Wd) (a1 : Int32) : YO g E 4 (QI g E) (fX5_step E.2.2.2.2.2.1 w o a1) w 0 [(0, .ref (E.2.2.2.2.1 + o)), (1, .int a1)] [] := by
  unfold fX5_step
  refine y_iload_n (n := 1) C dX5_step_0 1 rfl rfl ?_
  refine y_iconst (n := 2) C (1 : Int32) dX5_step_1 (by decide) rfl ?_
  refine y_icmp_lt (tgt := 12) (n := 5) C dX5_step_2 (by decide) rfl (fun h1 => ?_) (fun h1 => ?_)
  · refine y_bipush (n := 14) C ((-2) : Int32) dX5_step_12 (by decide) rfl ?_
    exact y_ri C hR dX5_step_14
  · refine y_iload_n (n := 6) C dX5_step_5 1 rfl rfl ?_
    refine y_sipush (n := 9) C (240 : Int32) dX5_step_6 (by decide) rfl ?_
    refine y_icmp_le (tgt := 15) (n := 12) C dX5_step_9 (by decide) rfl (fun h2 => ?_) (fun h2 => ?_)
    · refine y_aload_n (n := 16) C dX5_step_15 0 rfl rfl ?_
      refine y_get (ci := 5) (f := 0) (n := 19) C in_X5 hO.1 rfl (by decide) wd_191 rfl rfl dX5_step_16 rfl ?_
      refine y_getN (ci := 3) (f := 1) (n := 22) C in_X3 hO.2.1.1 rfl (by decide) wd_135 rfl rfl dX5_step_19 rfl ?_
      refine y_getN (ci := 2) (f := 0) (n := 25) C in_X2 hO.2.1.2.2.1 rfl (by decide) wd_73 rfl rfl dX5_step_22 rfl ?_
      refine y_if_ne (tgt := 31) (n := 28) C dX5_step_25 (by decide) rfl (fun h3 => ?_) (fun h3 => ?_)
      · refine y_aload_n (n := 32) C dX5_step_31 0 rfl rfl ?_
        refine y_get (ci := 5) (f := 0) (n := 35) C in_X5 hO.1 rfl (by decide) wd_191 rfl rfl dX5_step_32 rfl ?_
        refine y_getN (ci := 3) (f := 1) (n := 38) C in_X3 hO.2.1.1 rfl (by decide) wd_135 rfl rfl dX5_step_35 rfl ?_
        refine y_aload_n (n := 39) C dX5_step_38 0 rfl rfl ?_
        refine y_get (ci := 5) (f := 0) (n := 42) C in_X5 hO.1 rfl (by decide) wd_191 rfl rfl dX5_step_39 rfl ?_
        refine y_getN (ci := 3) (f := 0) (n := 45) C in_X3 hO.2.1.1 rfl (by decide) wd_133 rfl rfl dX5_step_42 rfl ?_
        refine y_cp (n := 48) C (fun r hr H locs la hP hS hl => y_runVN (ci := 2) (st := []) C ky_X2_isOver wd_378 ⟨Nat.le_of_ble_eq_true rfl, Nat.le_of_ble_eq_true rfl⟩ hO.2.1.2.2.1 rfl (mX2_isOver hO.2.1.2.2 hO.2.1.2.1 w g.2.1 r hr) rfl (Nat.le_of_ble_eq_true rfl) rfl dX5_step_45 hP hS hl) rfl (fun v4 hv4 => ?_)
        refine y_if_eq (tgt := 54) (n := 51) C dX5_step_48 (by decide) rfl (fun h5 => ?_) (fun h5 => ?_)
        · refine y_aload_n (n := 55) C dX5_step_54 0 rfl rfl ?_
          refine y_get (ci := 5) (f := 1) (n := 58) C in_X5 hO.1 rfl (by decide) wd_192 rfl rfl dX5_step_55 rfl ?_
          refine y_aload_n (n := 59) C dX5_step_58 0 rfl rfl ?_
          refine y_get (ci := 5) (f := 0) (n := 62) C in_X5 hO.1 rfl (by decide) wd_191 rfl rfl dX5_step_59 rfl ?_
          refine y_cv (n := 65) C (fun r hr H locs la hP hS hl => y_runVN (ci := 0) (st := []) C ky_X0_record wd_232 ⟨Nat.le_of_ble_eq_true rfl, Nat.le_of_ble_eq_true rfl⟩ hO.2.2.1.1 rfl (mX0_record hO.2.2.1 hO.2.1 w g.2.1 r hr) rfl (Nat.le_of_ble_eq_true rfl) rfl dX5_step_62 hP hS hl) rfl (fun w6 hw6 => ?_)
          refine y_aload_n (n := 66) C dX5_step_65 0 rfl rfl ?_
          refine y_get (ci := 5) (f := 0) (n := 69) C in_X5 hO.1 rfl (by decide) wd_191 rfl rfl dX5_step_66 rfl ?_
          refine y_getN (ci := 3) (f := 1) (n := 72) C in_X3 hO.2.1.1 rfl (by decide) wd_135 rfl rfl dX5_step_69 rfl ?_
          refine y_cp (n := 75) C (fun r hr H locs la hP hS hl => y_runVN (ci := 2) (st := []) C ky_X2_caughtSize wd_409 ⟨Nat.le_of_ble_eq_true rfl, Nat.le_of_ble_eq_true rfl⟩ hO.2.1.2.2.1 rfl (mX2_caughtSize hO.2.1.2.2 w6 g.2.1 r hr) rfl (Nat.le_of_ble_eq_true rfl) rfl dX5_step_72 hP hS hl) rfl (fun v7 hv7 => ?_)
          refine y_istore_n (n := 76) (ls' := [(2, .int v7), (0, .ref (E.2.2.2.2.1 + o)), (1, .int a1)]) C dX5_step_75 (by decide) rfl rfl ?_
          refine y_aload_n (n := 77) C dX5_step_76 1 rfl rfl ?_
          refine y_get (ci := 5) (f := 0) (n := 80) C in_X5 hO.1 rfl (by decide) wd_191 rfl rfl dX5_step_77 rfl ?_
          refine y_getN (ci := 3) (f := 1) (n := 83) C in_X3 hO.2.1.1 rfl (by decide) wd_135 rfl rfl dX5_step_80 rfl ?_
          refine y_aload_n (n := 84) C dX5_step_83 1 rfl rfl ?_
          refine y_get (ci := 5) (f := 0) (n := 87) C in_X5 hO.1 rfl (by decide) wd_191 rfl rfl dX5_step_84 rfl ?_
          refine y_getN (ci := 3) (f := 0) (n := 90) C in_X3 hO.2.1.1 rfl (by decide) wd_133 rfl rfl dX5_step_87 rfl ?_
          refine y_iload_n (n := 91) C dX5_step_90 2 rfl rfl ?_
          refine y_ci2 (n := 94) C (fun r hr H locs la hP hS hl => y_runVN (ci := 2) (st := []) C ky_X2_goOn wd_414 ⟨Nat.le_of_ble_eq_true rfl, Nat.le_of_ble_eq_true rfl⟩ hO.2.1.2.2.1 rfl (mX2_goOn hO.2.1.2.2 hO.2.1.2.1 w6 a1 g.2.1 r hr) rfl (Nat.le_of_ble_eq_true rfl) rfl dX5_step_91 hP hS hl) rfl (fun v8 w9 hv8 => ?_)
          refine y_istore_n (n := 95) (ls' := [(3, .int v8), (2, .int v7), (0, .ref (E.2.2.2.2.1 + o)), (1, .int a1)]) C dX5_step_94 (by decide) rfl rfl ?_
          refine y_aload_n (n := 96) C dX5_step_95 2 rfl rfl ?_
          refine y_get (ci := 5) (f := 0) (n := 99) C in_X5 hO.1 rfl (by decide) wd_191 rfl rfl dX5_step_96 rfl ?_
          refine y_dup (n := 100) C dX5_step_99 rfl rfl ?_
          refine y_getN (ci := 3) (f := 3) (n := 103) C in_X3 hO.2.1.1 rfl (by decide) wd_139 rfl rfl dX5_step_100 rfl ?_
          refine y_aload_n (n := 104) C dX5_step_103 2 rfl rfl ?_
          refine y_get (ci := 5) (f := 0) (n := 107) C in_X5 hO.1 rfl (by decide) wd_191 rfl rfl dX5_step_104 rfl ?_
          refine y_getN (ci := 3) (f := 1) (n := 110) C in_X3 hO.2.1.1 rfl (by decide) wd_135 rfl rfl dX5_step_107 rfl ?_
          refine y_cp (n := 113) C (fun r hr H locs la hP hS hl => y_runVN (ci := 2) (st := [.int (w9.1 (o + 1) 3), .ref (E.2.2.2.2.1 + (o + 1))]) C ky_X2_caughtSize wd_409 ⟨Nat.le_of_ble_eq_true rfl, Nat.le_of_ble_eq_true rfl⟩ hO.2.1.2.2.1 rfl (mX2_caughtSize hO.2.1.2.2 w9 g.2.1 r hr) rfl (Nat.le_of_ble_eq_true rfl) rfl dX5_step_110 hP hS hl) rfl (fun v10 hv10 => ?_)
          refine y_iload_n (n := 114) C dX5_step_113 1 rfl rfl ?_
          refine y_isub (n := 115) C dX5_step_114 rfl ?_
          refine y_iadd (n := 116) C dX5_step_115 rfl ?_
          refine y_putIN (ci := 3) (f := 3) (n := 119) C in_X3 tyX3 tyX3_ok nmX3 hO.2.1.1 rfl (by decide) wd_139 rfl rfl (by decide +kernel) (Nat.le_of_ble_eq_true rfl) st_X3_3 dX5_step_116 rfl (fun w11 hw11 => ?_)
          refine y_iload_n (n := 120) C dX5_step_119 0 rfl rfl ?_
          exact y_ri C hR dX5_step_120
        · refine y_bipush (n := 53) C ((-5) : Int32) dX5_step_51 (by decide) rfl ?_
          exact y_ri C hR dX5_step_53
      · refine y_bipush (n := 30) C ((-4) : Int32) dX5_step_28 (by decide) rfl ?_
        exact y_ri C hR dX5_step_30
    · refine y_bipush (n := 14) C ((-2) : Int32) dX5_step_12 (by decide) rfl ?_
      exact y_ri C hR dX5_step_14
theorem mX5_step {E : Ex} {o : Nat} (hO : shB E.2.2.2.2.2.1 o) (w : Wd) (a1 : Int32) (l : Launch) : MI l yX5_step cX5_step 4 (some .int) { frames := 6, cells := 0, slots := 0, locals := 140 } E [.ref (E.2.2.2.2.1 + o), .int a1] w (fX5_step E.2.2.2.2.2.1 w o a1) :=
  y_met (Qc := yQi E) (by decide +kernel) (Nat.le_of_ble_eq_true rfl) (fun g C hR => eX5_step C hR hO w a1) l
def fX5_told (w : Wd) (o : Nat) (a1 : Int32) : Option (Int32) :=
  if 0 ≤ a1 then
    if (bz (w.1 (o + 1 + 7) 0)) = 0 then
      some (-4)
    else
      (fX2_toldSize w (o + 1 + 7) (o + 1 + 1)).bind fun v3 =>
      if v3 ≤ a1 then
        some (-5)
      else
        (fX5_at w (o + 1 + 7 + 8) 60 a1).bind fun v5 =>
        some v5
  else
    some (-2)
set_option maxRecDepth 4000 in
theorem eX5_told {g : Gx} {E : Ex} (C : CC g E cX5_told 2 RX5 2 42) (hR : RT g (some .int)) {o : Nat} (hO : shB E.2.2.2.2.2.1 o) (w : Wd) (a1 : Int32) : YO g E 2 (QP g E w) (fX5_told w o a1) w 0 [(0, .ref (E.2.2.2.2.1 + o)), (1, .int a1)] [] := by
  unfold fX5_told
  refine y_iload_n (n := 1) C dX5_told_0 1 rfl rfl ?_
  refine y_if_ge (tgt := 7) (n := 4) C dX5_told_1 (by decide) rfl (fun h1 => ?_) (fun h1 => ?_)
  · refine y_aload_n (n := 8) C dX5_told_7 0 rfl rfl ?_
    refine y_get (ci := 5) (f := 0) (n := 11) C in_X5 hO.1 rfl (by decide) wd_191 rfl rfl dX5_told_8 rfl ?_
    refine y_getN (ci := 3) (f := 1) (n := 14) C in_X3 hO.2.1.1 rfl (by decide) wd_135 rfl rfl dX5_told_11 rfl ?_
    refine y_getN (ci := 2) (f := 0) (n := 17) C in_X2 hO.2.1.2.2.1 rfl (by decide) wd_73 rfl rfl dX5_told_14 rfl ?_
    refine y_if_ne (tgt := 23) (n := 20) C dX5_told_17 (by decide) rfl (fun h2 => ?_) (fun h2 => ?_)
    · refine y_iload_n (n := 24) C dX5_told_23 1 rfl rfl ?_
      refine y_aload_n (n := 25) C dX5_told_24 0 rfl rfl ?_
      refine y_get (ci := 5) (f := 0) (n := 28) C in_X5 hO.1 rfl (by decide) wd_191 rfl rfl dX5_told_25 rfl ?_
      refine y_getN (ci := 3) (f := 1) (n := 31) C in_X3 hO.2.1.1 rfl (by decide) wd_135 rfl rfl dX5_told_28 rfl ?_
      refine y_aload_n (n := 32) C dX5_told_31 0 rfl rfl ?_
      refine y_get (ci := 5) (f := 0) (n := 35) C in_X5 hO.1 rfl (by decide) wd_191 rfl rfl dX5_told_32 rfl ?_
      refine y_getN (ci := 3) (f := 0) (n := 38) C in_X3 hO.2.1.1 rfl (by decide) wd_133 rfl rfl dX5_told_35 rfl ?_
      refine y_cp (n := 41) C (fun r hr H locs la hP hS hl => y_runVN (ci := 2) (st := [.int a1]) C ky_X2_toldSize wd_466 ⟨Nat.le_of_ble_eq_true rfl, Nat.le_of_ble_eq_true rfl⟩ hO.2.1.2.2.1 rfl (mX2_toldSize hO.2.1.2.2 hO.2.1.2.1 w g.2.1 r hr) rfl (Nat.le_of_ble_eq_true rfl) rfl dX5_told_38 hP hS hl) rfl (fun v3 hv3 => ?_)
      refine y_icmp_ge (tgt := 61) (n := 44) C dX5_told_41 (by decide) rfl (fun h4 => ?_) (fun h4 => ?_)
      · refine y_bipush (n := 63) C ((-5) : Int32) dX5_told_61 (by decide) rfl ?_
        exact y_rp C hR dX5_told_63
      · refine y_aload_n (n := 45) C dX5_told_44 0 rfl rfl ?_
        refine y_get (ci := 5) (f := 0) (n := 48) C in_X5 hO.1 rfl (by decide) wd_191 rfl rfl dX5_told_45 rfl ?_
        refine y_getN (ci := 3) (f := 1) (n := 51) C in_X3 hO.2.1.1 rfl (by decide) wd_135 rfl rfl dX5_told_48 rfl ?_
        refine y_getN (ci := 2) (f := 14) (n := 54) C in_X2 hO.2.1.2.2.1 rfl (by decide) wd_96 rfl rfl dX5_told_51 rfl ?_
        refine y_iload_n (n := 55) C dX5_told_54 1 rfl rfl ?_
        refine y_cp (n := 58) C (fun r hr H locs la hP hS hl => y_runS (st := []) C ky_X5_at wd_332 ⟨Nat.le_of_ble_eq_true rfl, Nat.le_of_ble_eq_true rfl⟩ (mX5_at hO.2.1.2.2.2.2.2.2.2.2.2.2 w a1 g.2.1 r hr) rfl (Nat.le_of_ble_eq_true rfl) rfl dX5_told_55 hP hS hl) rfl (fun v5 hv5 => ?_)
        refine y_goto (tgt := 63) C dX5_told_58 (by decide) ?_
        exact y_rp C hR dX5_told_63
    · refine y_bipush (n := 22) C ((-4) : Int32) dX5_told_20 (by decide) rfl ?_
      exact y_rp C hR dX5_told_22
  · refine y_bipush (n := 6) C ((-2) : Int32) dX5_told_4 (by decide) rfl ?_
    exact y_rp C hR dX5_told_6
theorem mX5_told {E : Ex} {o : Nat} (hO : shB E.2.2.2.2.2.1 o) (w : Wd) (a1 : Int32) (l : Launch) : MP l yX5_told cX5_told 2 (some .int) { frames := 2, cells := 0, slots := 0, locals := 42 } E [.ref (E.2.2.2.2.1 + o), .int a1] w (fX5_told w o a1) :=
  y_met (Qc := fun r => yQi E (r, w)) (by decide +kernel) (Nat.le_of_ble_eq_true rfl) (fun g C hR => eX5_told C hR hO w a1) l
def fX5_trial (w : Wd) (o : Nat) (a1 : Int32) (a2 : Int32) (a3 : Int32) : Option (Int32 × Wd) :=
  (fX5_isWay w a1).bind fun v1 =>
  if v1 = 0 then
    some ((-2), w)
  else
    if a3 < 0 then
      some ((-2), w)
    else
      if a3 ≤ 3 then
        (fX1_questionSize w (o + 1 + 1)).bind fun v5 =>
        if v5 = 0 then
          some ((-4), w)
        else
          (fX2_start w (o + 102) (o + 1 + 1) a1 a2).bind fun w7 =>
          ob2 (fX2_goOn w7 (o + 102) (o + 1 + 1) 240) fun v8 w9 =>
          if a3 = 0 then
            some (w9.1 (o + 102) 4, w9)
          else
          if a3 = 1 then
            (fX2_cost w9 (o + 102)).bind fun v12 =>
            some (v12, w9)
          else
          if a3 = 2 then
            (fX2_toldNotWanted w9 (o + 102) (o + 1 + 1)).bind fun v14 =>
            some (v14, w9)
          else
          (fX2_caughtSize w9 (o + 102)).bind fun v15 =>
          some (v15, w9)
      else
        some ((-2), w)
set_option maxRecDepth 4000 in
theorem eX5_trial {g : Gx} {E : Ex} (C : CC g E cX5_trial 4 RX5 6 140) (hR : RT g (some .int)) {o : Nat} (hO : shB E.2.2.2.2.2.1 o) (w : Wd) (a1 : Int32) (a2 : Int32) (a3 : Int32) : YO g E 4 (QI g E) (fX5_trial w o a1 a2 a3) w 0 [(0, .ref (E.2.2.2.2.1 + o)), (1, .int a1), (2, .int a2), (3, .int a3)] [] := by
  unfold fX5_trial
  refine y_iload_n (n := 1) C dX5_trial_0 1 rfl rfl ?_
  refine y_cp (n := 4) C (fun r hr H locs la hP hS hl => y_runS (st := []) C ky_X5_isWay wd_346 ⟨Nat.le_of_ble_eq_true rfl, Nat.le_of_ble_eq_true rfl⟩ (mX5_isWay w a1 g.2.1 r hr) rfl (Nat.le_of_ble_eq_true rfl) rfl dX5_trial_1 hP hS hl) rfl (fun v1 hv1 => ?_)
  refine y_if_eq (tgt := 16) (n := 7) C dX5_trial_4 (by decide) rfl (fun h2 => ?_) (fun h2 => ?_)
  · refine y_bipush (n := 18) C ((-2) : Int32) dX5_trial_16 (by decide) rfl ?_
    exact y_ri C hR dX5_trial_18
  · refine y_iload_n (n := 8) C dX5_trial_7 3 rfl rfl ?_
    refine y_if_lt (tgt := 16) (n := 11) C dX5_trial_8 (by decide) rfl (fun h3 => ?_) (fun h3 => ?_)
    · refine y_bipush (n := 18) C ((-2) : Int32) dX5_trial_16 (by decide) rfl ?_
      exact y_ri C hR dX5_trial_18
    · refine y_iload_n (n := 12) C dX5_trial_11 3 rfl rfl ?_
      refine y_iconst (n := 13) C (3 : Int32) dX5_trial_12 (by decide) rfl ?_
      refine y_icmp_le (tgt := 19) (n := 16) C dX5_trial_13 (by decide) rfl (fun h4 => ?_) (fun h4 => ?_)
      · refine y_aload_n (n := 20) C dX5_trial_19 0 rfl rfl ?_
        refine y_get (ci := 5) (f := 0) (n := 23) C in_X5 hO.1 rfl (by decide) wd_191 rfl rfl dX5_trial_20 rfl ?_
        refine y_getN (ci := 3) (f := 0) (n := 26) C in_X3 hO.2.1.1 rfl (by decide) wd_133 rfl rfl dX5_trial_23 rfl ?_
        refine y_cp (n := 29) C (fun r hr H locs la hP hS hl => y_runVN (ci := 1) (st := []) C ky_X1_questionSize wd_349 ⟨Nat.le_of_ble_eq_true rfl, Nat.le_of_ble_eq_true rfl⟩ hO.2.1.2.1.1 rfl (mX1_questionSize hO.2.1.2.1 w g.2.1 r hr) rfl (Nat.le_of_ble_eq_true rfl) rfl dX5_trial_26 hP hS hl) rfl (fun v5 hv5 => ?_)
        refine y_if_ne (tgt := 35) (n := 32) C dX5_trial_29 (by decide) rfl (fun h6 => ?_) (fun h6 => ?_)
        · refine y_aload_n (n := 36) C dX5_trial_35 0 rfl rfl ?_
          refine y_get (ci := 5) (f := 5) (n := 39) C in_X5 hO.1 rfl (by decide) wd_196 rfl rfl dX5_trial_36 rfl ?_
          refine y_aload_n (n := 40) C dX5_trial_39 0 rfl rfl ?_
          refine y_get (ci := 5) (f := 0) (n := 43) C in_X5 hO.1 rfl (by decide) wd_191 rfl rfl dX5_trial_40 rfl ?_
          refine y_getN (ci := 3) (f := 0) (n := 46) C in_X3 hO.2.1.1 rfl (by decide) wd_133 rfl rfl dX5_trial_43 rfl ?_
          refine y_iload_n (n := 47) C dX5_trial_46 1 rfl rfl ?_
          refine y_iload_n (n := 48) C dX5_trial_47 2 rfl rfl ?_
          refine y_cv (n := 51) C (fun r hr H locs la hP hS hl => y_runVN (ci := 2) (st := []) C ky_X2_start wd_357 ⟨Nat.le_of_ble_eq_true rfl, Nat.le_of_ble_eq_true rfl⟩ hO.2.2.2.2.2.1 rfl (mX2_start hO.2.2.2.2.2 hO.2.1.2.1 w a1 a2 g.2.1 r hr) rfl (Nat.le_of_ble_eq_true rfl) rfl dX5_trial_48 hP hS hl) rfl (fun w7 hw7 => ?_)
          refine y_aload_n (n := 52) C dX5_trial_51 0 rfl rfl ?_
          refine y_get (ci := 5) (f := 5) (n := 55) C in_X5 hO.1 rfl (by decide) wd_196 rfl rfl dX5_trial_52 rfl ?_
          refine y_aload_n (n := 56) C dX5_trial_55 0 rfl rfl ?_
          refine y_get (ci := 5) (f := 0) (n := 59) C in_X5 hO.1 rfl (by decide) wd_191 rfl rfl dX5_trial_56 rfl ?_
          refine y_getN (ci := 3) (f := 0) (n := 62) C in_X3 hO.2.1.1 rfl (by decide) wd_133 rfl rfl dX5_trial_59 rfl ?_
          refine y_sipush (n := 65) C (240 : Int32) dX5_trial_62 (by decide) rfl ?_
          refine y_ci2 (n := 68) C (fun r hr H locs la hP hS hl => y_runVN (ci := 2) (st := []) C ky_X2_goOn wd_414 ⟨Nat.le_of_ble_eq_true rfl, Nat.le_of_ble_eq_true rfl⟩ hO.2.2.2.2.2.1 rfl (mX2_goOn hO.2.2.2.2.2 hO.2.1.2.1 w7 240 g.2.1 r hr) rfl (Nat.le_of_ble_eq_true rfl) rfl dX5_trial_65 hP hS hl) rfl (fun v8 w9 hv8 => ?_)
          refine y_pop (n := 69) C dX5_trial_68 rfl rfl ?_
          refine y_iload_n (n := 70) C dX5_trial_69 3 rfl rfl ?_
          refine y_if (fun h10 => ?_) (fun h10 => ?_)
          · refine y_swIn (tgt := 96) C 26 dX5_trial_70 (by rw [h10]; decide) (by rw [h10]; decide) (by rw [h10]; rfl) (by decide) ?_
            refine y_aload_n (n := 97) C dX5_trial_96 0 rfl rfl ?_
            refine y_get (ci := 5) (f := 5) (n := 100) C in_X5 hO.1 rfl (by decide) wd_196 rfl rfl dX5_trial_97 rfl ?_
            refine y_getN (ci := 2) (f := 4) (n := 103) C in_X2 hO.2.2.2.2.2.1 rfl (by decide) wd_78 rfl rfl dX5_trial_100 rfl ?_
            exact y_ri C hR dX5_trial_103
          refine y_if (fun h11 => ?_) (fun h11 => ?_)
          · refine y_swIn (tgt := 104) C 34 dX5_trial_70 (by rw [h11]; decide) (by rw [h11]; decide) (by rw [h11]; rfl) (by decide) ?_
            refine y_aload_n (n := 105) C dX5_trial_104 0 rfl rfl ?_
            refine y_get (ci := 5) (f := 5) (n := 108) C in_X5 hO.1 rfl (by decide) wd_196 rfl rfl dX5_trial_105 rfl ?_
            refine y_cp (n := 111) C (fun r hr H locs la hP hS hl => y_runVN (ci := 2) (st := []) C ky_X2_cost wd_681 ⟨Nat.le_of_ble_eq_true rfl, Nat.le_of_ble_eq_true rfl⟩ hO.2.2.2.2.2.1 rfl (mX2_cost hO.2.2.2.2.2 w9 g.2.1 r hr) rfl (Nat.le_of_ble_eq_true rfl) rfl dX5_trial_108 hP hS hl) rfl (fun v12 hv12 => ?_)
            exact y_ri C hR dX5_trial_111
          refine y_if (fun h13 => ?_) (fun h13 => ?_)
          · refine y_swIn (tgt := 112) C 42 dX5_trial_70 (by rw [h13]; decide) (by rw [h13]; decide) (by rw [h13]; rfl) (by decide) ?_
            refine y_aload_n (n := 113) C dX5_trial_112 0 rfl rfl ?_
            refine y_get (ci := 5) (f := 5) (n := 116) C in_X5 hO.1 rfl (by decide) wd_196 rfl rfl dX5_trial_113 rfl ?_
            refine y_aload_n (n := 117) C dX5_trial_116 0 rfl rfl ?_
            refine y_get (ci := 5) (f := 0) (n := 120) C in_X5 hO.1 rfl (by decide) wd_191 rfl rfl dX5_trial_117 rfl ?_
            refine y_getN (ci := 3) (f := 0) (n := 123) C in_X3 hO.2.1.1 rfl (by decide) wd_133 rfl rfl dX5_trial_120 rfl ?_
            refine y_cp (n := 126) C (fun r hr H locs la hP hS hl => y_runVN (ci := 2) (st := []) C ky_X2_toldNotWanted wd_693 ⟨Nat.le_of_ble_eq_true rfl, Nat.le_of_ble_eq_true rfl⟩ hO.2.2.2.2.2.1 rfl (mX2_toldNotWanted hO.2.2.2.2.2 hO.2.1.2.1 w9 g.2.1 r hr) rfl (Nat.le_of_ble_eq_true rfl) rfl dX5_trial_123 hP hS hl) rfl (fun v14 hv14 => ?_)
            exact y_ri C hR dX5_trial_126
          refine y_swOut (tgt := 127) C dX5_trial_70 (by have gh10 := sw_ne (k := 0) (by decide) h10; have gh11 := sw_ne (k := 1) (by decide) h11; have gh13 := sw_ne (k := 2) (by decide) h13; omega) (by decide) ?_
          refine y_aload_n (n := 128) C dX5_trial_127 0 rfl rfl ?_
          refine y_get (ci := 5) (f := 5) (n := 131) C in_X5 hO.1 rfl (by decide) wd_196 rfl rfl dX5_trial_128 rfl ?_
          refine y_cp (n := 134) C (fun r hr H locs la hP hS hl => y_runVN (ci := 2) (st := []) C ky_X2_caughtSize wd_409 ⟨Nat.le_of_ble_eq_true rfl, Nat.le_of_ble_eq_true rfl⟩ hO.2.2.2.2.2.1 rfl (mX2_caughtSize hO.2.2.2.2.2 w9 g.2.1 r hr) rfl (Nat.le_of_ble_eq_true rfl) rfl dX5_trial_131 hP hS hl) rfl (fun v15 hv15 => ?_)
          exact y_ri C hR dX5_trial_134
        · refine y_bipush (n := 34) C ((-4) : Int32) dX5_trial_32 (by decide) rfl ?_
          exact y_ri C hR dX5_trial_34
      · refine y_bipush (n := 18) C ((-2) : Int32) dX5_trial_16 (by decide) rfl ?_
        exact y_ri C hR dX5_trial_18
theorem mX5_trial {E : Ex} {o : Nat} (hO : shB E.2.2.2.2.2.1 o) (w : Wd) (a1 : Int32) (a2 : Int32) (a3 : Int32) (l : Launch) : MI l yX5_trial cX5_trial 4 (some .int) { frames := 6, cells := 0, slots := 0, locals := 140 } E [.ref (E.2.2.2.2.1 + o), .int a1, .int a2, .int a3] w (fX5_trial w o a1 a2 a3) :=
  y_met (Qc := yQi E) (by decide +kernel) (Nat.le_of_ble_eq_true rfl) (fun g C hR => eX5_trial C hR hO w a1 a2 a3) l
