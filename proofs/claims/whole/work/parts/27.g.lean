/-! X6_bits X6_setOf X6_bribe X6_listsOf X6_gone X6_bring X6_sumOf X6_cost X6_isChosenBefore X6_nextList X6_sees X6_oneStep X6_value X6_mayBeWanted X6_wantedPlace -/
def lX6_bits_4 : Nat → Wd → Int32 → Int32 → Int32 → Option (Int32)
  | 0, _, _, _, _ => none
  | n + 1, w, x0, x1, x2 =>
    if 6 ≤ x2 then
      some x1
    else
      lX6_bits_4 n w x0 (x1 + ((x0 >>> (x2 &&& 31)) &&& 1)) (x2 + 1)
set_option maxRecDepth 4000 in
theorem clX6_bits_4 {g : Gx} {E : Ex} (C : CC g E cX6_bits 3 RX6 0 0) (hR : RT g (some .int))  (w : Wd) : ∀ (n : Nat) (x0 : Int32) (x1 : Int32) (x2 : Int32), YO g E 3 (QP g E w) (lX6_bits_4 n w x0 x1 x2) w 4 [(0, .int x0), (1, .int x1), (2, .int x2)] [] := by
  intro n
  induction n with
  | zero => intro x0 x1 x2; exact y_no
  | succ n ih =>
    intro x0 x1 x2
    rw [lX6_bits_4]
    refine y_iload_n (n := 5) C dX6_bits_4 2 rfl rfl ?_
    refine y_bipush (n := 7) C (6 : Int32) dX6_bits_5 (by decide) rfl ?_
    refine y_icmp_ge (tgt := 24) (n := 10) C dX6_bits_7 (by decide) rfl (fun h1 => ?_) (fun h1 => ?_)
    · refine y_iload_n (n := 25) C dX6_bits_24 1 rfl rfl ?_
      exact y_rp C hR dX6_bits_25
    · refine y_iload_n (n := 11) C dX6_bits_10 1 rfl rfl ?_
      refine y_iload_n (n := 12) C dX6_bits_11 0 rfl rfl ?_
      refine y_iload_n (n := 13) C dX6_bits_12 2 rfl rfl ?_
      refine y_ishr (n := 14) C dX6_bits_13 rfl ?_
      refine y_iconst (n := 15) C (1 : Int32) dX6_bits_14 (by decide) rfl ?_
      refine y_iand (n := 16) C dX6_bits_15 rfl ?_
      refine y_iadd (n := 17) C dX6_bits_16 rfl ?_
      refine y_istore_n (n := 18) (ls' := [(1, .int (x1 + ((x0 >>> (x2 &&& 31)) &&& 1))), (0, .int x0), (2, .int x2)]) C dX6_bits_17 (by decide) rfl rfl ?_
      refine y_iinc (n := 21) (v := x2 + 1) (ls' := [(2, .int (x2 + 1)), (1, .int (x1 + ((x0 >>> (x2 &&& 31)) &&& 1))), (0, .int x0)]) C dX6_bits_18 2 rfl rfl (by decide) rfl rfl ?_
      refine y_goto (tgt := 4) C dX6_bits_21 (by decide) ?_
      refine y_ls [2, 1, 0] rfl ?_
      exact ih x0 (x1 + ((x0 >>> (x2 &&& 31)) &&& 1)) (x2 + 1)
def fX6_bits (w : Wd) (a1 : Int32) : Option (Int32) :=
  lX6_bits_4 4096 w a1 0 0
set_option maxRecDepth 4000 in
theorem eX6_bits {g : Gx} {E : Ex} (C : CC g E cX6_bits 3 RX6 0 0) (hR : RT g (some .int))  (w : Wd) (a1 : Int32) : YO g E 3 (QP g E w) (fX6_bits w a1) w 0 [(0, .int a1)] [] := by
  unfold fX6_bits
  refine y_iconst (n := 1) C (0 : Int32) dX6_bits_0 (by decide) rfl ?_
  refine y_istore_n (n := 2) (ls' := [(1, .int 0), (0, .int a1)]) C dX6_bits_1 (by decide) rfl rfl ?_
  refine y_iconst (n := 3) C (0 : Int32) dX6_bits_2 (by decide) rfl ?_
  refine y_istore_n (n := 4) (ls' := [(2, .int 0), (1, .int 0), (0, .int a1)]) C dX6_bits_3 (by decide) rfl rfl ?_
  refine y_ls [2, 1, 0] rfl ?_
  exact clX6_bits_4 C hR  w 4096 a1 0 0
theorem mX6_bits {E : Ex}  (w : Wd) (a1 : Int32) (l : Launch) : MP l yX6_bits cX6_bits 3 (some .int) { frames := 0, cells := 0, slots := 0, locals := 0 } E [.int a1] w (fX6_bits w a1) :=
  y_met (Qc := fun r => yQi E (r, w)) (by decide +kernel) (Nat.le_of_ble_eq_true rfl) (fun g C hR => eX6_bits C hR  w a1) l
def fX6_setOf (w : Wd) (o : Nat) (a1 : Int32) (a2 : Int32) (a3 : Int32) (a4 : Int32) : Option (Int32 × Wd) :=
  (fX6_isList w a2).bind fun v1 =>
  if v1 = 0 then
    some ((-1), w)
  else
    if a3 < 0 then
      some ((-2), w)
    else
      if a3 ≤ a4 then
        (ldI 706 w (o + 1) 559).bind fun v5 =>
        if v5 = 1 then
          some ((-4), w)
        else
          (ldI 706 w (o + 1) (a1 + a2)).bind fun v7 =>
          if v7 = a3 then
            some ((-5), w)
          else
            (fX6_record w o).bind fun w9 =>
            (stI 706 w9 (o + 1) (a1 + a2) a3).bind fun w10 =>
            some (v7, w10)
      else
        some ((-2), w)
set_option maxRecDepth 4000 in
theorem eX6_setOf {g : Gx} {E : Ex} (C : CC g E cX6_setOf 6 RX6 1 21) (hR : RT g (some .int)) {o : Nat} (hO : shM E.2.2.2.2.2.1 o) (w : Wd) (a1 : Int32) (a2 : Int32) (a3 : Int32) (a4 : Int32) : YO g E 6 (QI g E) (fX6_setOf w o a1 a2 a3 a4) w 0 [(0, .ref (E.2.2.2.2.1 + o)), (1, .int a1), (2, .int a2), (3, .int a3), (4, .int a4)] [] := by
  unfold fX6_setOf
  refine y_iload_n (n := 1) C dX6_setOf_0 2 rfl rfl ?_
  refine y_cp (n := 4) C (fun r hr H locs la hP hS hl => y_runS (st := []) C ky_X6_isList wd_792 ⟨Nat.le_of_ble_eq_true rfl, Nat.le_of_ble_eq_true rfl⟩ (mX6_isList w a2 g.2.1 r hr) rfl (Nat.le_of_ble_eq_true rfl) rfl dX6_setOf_1 hP hS hl) rfl (fun v1 hv1 => ?_)
  refine y_if_ne (tgt := 9) (n := 7) C dX6_setOf_4 (by decide) rfl (fun h2 => ?_) (fun h2 => ?_)
  · refine y_iload_n (n := 10) C dX6_setOf_9 3 rfl rfl ?_
    refine y_if_lt (tgt := 19) (n := 13) C dX6_setOf_10 (by decide) rfl (fun h3 => ?_) (fun h3 => ?_)
    · refine y_bipush (n := 21) C ((-2) : Int32) dX6_setOf_19 (by decide) rfl ?_
      exact y_ri C hR dX6_setOf_21
    · refine y_iload_n (n := 14) C dX6_setOf_13 3 rfl rfl ?_
      refine y_iload (n := 16) C dX6_setOf_14 4 rfl rfl ?_
      refine y_icmp_le (tgt := 22) (n := 19) C dX6_setOf_16 (by decide) rfl (fun h4 => ?_) (fun h4 => ?_)
      · refine y_aload_n (n := 23) C dX6_setOf_22 0 rfl rfl ?_
        refine y_get (ci := 6) (f := 0) (n := 26) C in_X6 hO.1 rfl (by decide) wd_731 rfl rfl dX6_setOf_23 rfl ?_
        refine y_sipush (n := 29) C (559 : Int32) dX6_setOf_26 (by decide) rfl ?_
        refine y_iald (n := 30) C hO.2.1 dX6_setOf_29 rfl (fun v5 hv5 => ?_)
        refine y_iconst (n := 31) C (1 : Int32) dX6_setOf_30 (by decide) rfl ?_
        refine y_icmp_ne (tgt := 37) (n := 34) C dX6_setOf_31 (by decide) rfl (fun h6 => ?_) (fun h6 => ?_)
        · refine y_aload_n (n := 38) C dX6_setOf_37 0 rfl rfl ?_
          refine y_get (ci := 6) (f := 0) (n := 41) C in_X6 hO.1 rfl (by decide) wd_731 rfl rfl dX6_setOf_38 rfl ?_
          refine y_iload_n (n := 42) C dX6_setOf_41 1 rfl rfl ?_
          refine y_iload_n (n := 43) C dX6_setOf_42 2 rfl rfl ?_
          refine y_iadd (n := 44) C dX6_setOf_43 rfl ?_
          refine y_iald (n := 45) C hO.2.1 dX6_setOf_44 rfl (fun v7 hv7 => ?_)
          refine y_istore (n := 47) (ls' := [(5, .int v7), (0, .ref (E.2.2.2.2.1 + o)), (1, .int a1), (2, .int a2), (3, .int a3), (4, .int a4)]) C dX6_setOf_45 (by decide) rfl rfl ?_
          refine y_iload (n := 49) C dX6_setOf_47 0 rfl rfl ?_
          refine y_iload_n (n := 50) C dX6_setOf_49 4 rfl rfl ?_
          refine y_icmp_ne (tgt := 56) (n := 53) C dX6_setOf_50 (by decide) rfl (fun h8 => ?_) (fun h8 => ?_)
          · refine y_aload_n (n := 57) C dX6_setOf_56 1 rfl rfl ?_
            refine y_cv (n := 60) C (fun r hr H locs la hP hS hl => y_runV (ci := 6) (st := []) C ky_X6_record wd_784 ⟨Nat.le_of_ble_eq_true rfl, Nat.le_of_ble_eq_true rfl⟩ hO.1 rfl (mX6_record hO w g.2.1 r hr) rfl (Nat.le_of_ble_eq_true rfl) rfl dX6_setOf_57 hP hS hl) rfl (fun w9 hw9 => ?_)
            refine y_aload_n (n := 61) C dX6_setOf_60 1 rfl rfl ?_
            refine y_get (ci := 6) (f := 0) (n := 64) C in_X6 hO.1 rfl (by decide) wd_731 rfl rfl dX6_setOf_61 rfl ?_
            refine y_iload_n (n := 65) C dX6_setOf_64 2 rfl rfl ?_
            refine y_iload_n (n := 66) C dX6_setOf_65 3 rfl rfl ?_
            refine y_iadd (n := 67) C dX6_setOf_66 rfl ?_
            refine y_iload_n (n := 68) C dX6_setOf_67 4 rfl rfl ?_
            refine y_iast (n := 69) C hO.2.1 dX6_setOf_68 rfl (fun w10 hw10 => ?_)
            refine y_iload (n := 71) C dX6_setOf_69 0 rfl rfl ?_
            exact y_ri C hR dX6_setOf_71
          · refine y_bipush (n := 55) C ((-5) : Int32) dX6_setOf_53 (by decide) rfl ?_
            exact y_ri C hR dX6_setOf_55
        · refine y_bipush (n := 36) C ((-4) : Int32) dX6_setOf_34 (by decide) rfl ?_
          exact y_ri C hR dX6_setOf_36
      · refine y_bipush (n := 21) C ((-2) : Int32) dX6_setOf_19 (by decide) rfl ?_
        exact y_ri C hR dX6_setOf_21
  · refine y_iconst (n := 8) C ((-1) : Int32) dX6_setOf_7 (by decide) rfl ?_
    exact y_ri C hR dX6_setOf_8
theorem mX6_setOf {E : Ex} {o : Nat} (hO : shM E.2.2.2.2.2.1 o) (w : Wd) (a1 : Int32) (a2 : Int32) (a3 : Int32) (a4 : Int32) (l : Launch) : MI l yX6_setOf cX6_setOf 6 (some .int) { frames := 1, cells := 0, slots := 0, locals := 21 } E [.ref (E.2.2.2.2.1 + o), .int a1, .int a2, .int a3, .int a4] w (fX6_setOf w o a1 a2 a3 a4) :=
  y_met (Qc := yQi E) (by decide +kernel) (Nat.le_of_ble_eq_true rfl) (fun g C hR => eX6_setOf C hR hO w a1 a2 a3 a4) l
def fX6_bribe (w : Wd) (o : Nat) (a1 : Int32) (a2 : Int32) : Option (Int32 × Wd) :=
  ob2 (fX6_setOf w o 492 a1 a2 500) fun v1 w2 =>
  some (v1, w2)
set_option maxRecDepth 4000 in
theorem eX6_bribe {g : Gx} {E : Ex} (C : CC g E cX6_bribe 3 RX6 2 46) (hR : RT g (some .int)) {o : Nat} (hO : shM E.2.2.2.2.2.1 o) (w : Wd) (a1 : Int32) (a2 : Int32) : YO g E 3 (QI g E) (fX6_bribe w o a1 a2) w 0 [(0, .ref (E.2.2.2.2.1 + o)), (1, .int a1), (2, .int a2)] [] := by
  unfold fX6_bribe
  refine y_aload_n (n := 1) C dX6_bribe_0 0 rfl rfl ?_
  refine y_sipush (n := 4) C (492 : Int32) dX6_bribe_1 (by decide) rfl ?_
  refine y_iload_n (n := 5) C dX6_bribe_4 1 rfl rfl ?_
  refine y_iload_n (n := 6) C dX6_bribe_5 2 rfl rfl ?_
  refine y_sipush (n := 9) C (500 : Int32) dX6_bribe_6 (by decide) rfl ?_
  refine y_ci2 (n := 12) C (fun r hr H locs la hP hS hl => y_runV (ci := 6) (st := []) C ky_X6_setOf wd_837 ⟨Nat.le_of_ble_eq_true rfl, Nat.le_of_ble_eq_true rfl⟩ hO.1 rfl (mX6_setOf hO w 492 a1 a2 500 g.2.1 r hr) rfl (Nat.le_of_ble_eq_true rfl) rfl dX6_bribe_9 hP hS hl) rfl (fun v1 w2 hv1 => ?_)
  exact y_ri C hR dX6_bribe_12
theorem mX6_bribe {E : Ex} {o : Nat} (hO : shM E.2.2.2.2.2.1 o) (w : Wd) (a1 : Int32) (a2 : Int32) (l : Launch) : MI l yX6_bribe cX6_bribe 3 (some .int) { frames := 2, cells := 0, slots := 0, locals := 46 } E [.ref (E.2.2.2.2.1 + o), .int a1, .int a2] w (fX6_bribe w o a1 a2) :=
  y_met (Qc := yQi E) (by decide +kernel) (Nat.le_of_ble_eq_true rfl) (fun g C hR => eX6_bribe C hR hO w a1 a2) l
def lX6_listsOf_4 (o : Nat) : Nat → Wd → Int32 → Int32 → Int32 → Option (Int32)
  | 0, _, _, _, _ => none
  | n + 1, w, x1, x2, x3 =>
    if 6 ≤ x3 then
      some x2
    else
      (fX6_placeOf w o x3 x1).bind fun v2 =>
      if v2 < 0 then
        lX6_listsOf_4 o n w x1 (x2 ||| 0) (x3 + 1)
      else
        lX6_listsOf_4 o n w x1 (x2 ||| (1 <<< (x3 &&& 31))) (x3 + 1)
set_option maxRecDepth 4000 in
theorem clX6_listsOf_4 {g : Gx} {E : Ex} (C : CC g E cX6_listsOf 4 RX6 1 24) (hR : RT g (some .int)) {o : Nat} (hO : shM E.2.2.2.2.2.1 o) (w : Wd) : ∀ (n : Nat) (x1 : Int32) (x2 : Int32) (x3 : Int32), YO g E 4 (QP g E w) (lX6_listsOf_4 o n w x1 x2 x3) w 4 [(0, .ref (E.2.2.2.2.1 + o)), (1, .int x1), (2, .int x2), (3, .int x3)] [] := by
  intro n
  induction n with
  | zero => intro x1 x2 x3; exact y_no
  | succ n ih =>
    intro x1 x2 x3
    rw [lX6_listsOf_4]
    refine y_iload_n (n := 5) C dX6_listsOf_4 3 rfl rfl ?_
    refine y_bipush (n := 7) C (6 : Int32) dX6_listsOf_5 (by decide) rfl ?_
    refine y_icmp_ge (tgt := 35) (n := 10) C dX6_listsOf_7 (by decide) rfl (fun h1 => ?_) (fun h1 => ?_)
    · refine y_iload_n (n := 36) C dX6_listsOf_35 2 rfl rfl ?_
      exact y_rp C hR dX6_listsOf_36
    · refine y_iload_n (n := 11) C dX6_listsOf_10 2 rfl rfl ?_
      refine y_aload_n (n := 12) C dX6_listsOf_11 0 rfl rfl ?_
      refine y_iload_n (n := 13) C dX6_listsOf_12 3 rfl rfl ?_
      refine y_iload_n (n := 14) C dX6_listsOf_13 1 rfl rfl ?_
      refine y_cp (n := 17) C (fun r hr H locs la hP hS hl => y_runV (ci := 6) (st := [.int x2]) C ky_X6_placeOf wd_798 ⟨Nat.le_of_ble_eq_true rfl, Nat.le_of_ble_eq_true rfl⟩ hO.1 rfl (mX6_placeOf hO w x3 x1 g.2.1 r hr) rfl (Nat.le_of_ble_eq_true rfl) rfl dX6_listsOf_14 hP hS hl) rfl (fun v2 hv2 => ?_)
      refine y_if_lt (tgt := 26) (n := 20) C dX6_listsOf_17 (by decide) rfl (fun h3 => ?_) (fun h3 => ?_)
      · refine y_iconst (n := 27) C (0 : Int32) dX6_listsOf_26 (by decide) rfl ?_
        refine y_ior (n := 28) C dX6_listsOf_27 rfl ?_
        refine y_istore_n (n := 29) (ls' := [(2, .int (x2 ||| 0)), (0, .ref (E.2.2.2.2.1 + o)), (1, .int x1), (3, .int x3)]) C dX6_listsOf_28 (by decide) rfl rfl ?_
        refine y_iinc (n := 32) (v := x3 + 1) (ls' := [(3, .int (x3 + 1)), (2, .int (x2 ||| 0)), (0, .ref (E.2.2.2.2.1 + o)), (1, .int x1)]) C dX6_listsOf_29 3 rfl rfl (by decide) rfl rfl ?_
        refine y_goto (tgt := 4) C dX6_listsOf_32 (by decide) ?_
        refine y_ls [2, 3, 1, 0] rfl ?_
        exact ih x1 (x2 ||| 0) (x3 + 1)
      · refine y_iconst (n := 21) C (1 : Int32) dX6_listsOf_20 (by decide) rfl ?_
        refine y_iload_n (n := 22) C dX6_listsOf_21 3 rfl rfl ?_
        refine y_ishl (n := 23) C dX6_listsOf_22 rfl ?_
        refine y_goto (tgt := 27) C dX6_listsOf_23 (by decide) ?_
        refine y_ior (n := 28) C dX6_listsOf_27 rfl ?_
        refine y_istore_n (n := 29) (ls' := [(2, .int (x2 ||| (1 <<< (x3 &&& 31)))), (0, .ref (E.2.2.2.2.1 + o)), (1, .int x1), (3, .int x3)]) C dX6_listsOf_28 (by decide) rfl rfl ?_
        refine y_iinc (n := 32) (v := x3 + 1) (ls' := [(3, .int (x3 + 1)), (2, .int (x2 ||| (1 <<< (x3 &&& 31)))), (0, .ref (E.2.2.2.2.1 + o)), (1, .int x1)]) C dX6_listsOf_29 3 rfl rfl (by decide) rfl rfl ?_
        refine y_goto (tgt := 4) C dX6_listsOf_32 (by decide) ?_
        refine y_ls [2, 3, 1, 0] rfl ?_
        exact ih x1 (x2 ||| (1 <<< (x3 &&& 31))) (x3 + 1)
def fX6_listsOf (w : Wd) (o : Nat) (a1 : Int32) : Option (Int32) :=
  lX6_listsOf_4 o 4096 w a1 0 0
set_option maxRecDepth 4000 in
theorem eX6_listsOf {g : Gx} {E : Ex} (C : CC g E cX6_listsOf 4 RX6 1 24) (hR : RT g (some .int)) {o : Nat} (hO : shM E.2.2.2.2.2.1 o) (w : Wd) (a1 : Int32) : YO g E 4 (QP g E w) (fX6_listsOf w o a1) w 0 [(0, .ref (E.2.2.2.2.1 + o)), (1, .int a1)] [] := by
  unfold fX6_listsOf
  refine y_iconst (n := 1) C (0 : Int32) dX6_listsOf_0 (by decide) rfl ?_
  refine y_istore_n (n := 2) (ls' := [(2, .int 0), (0, .ref (E.2.2.2.2.1 + o)), (1, .int a1)]) C dX6_listsOf_1 (by decide) rfl rfl ?_
  refine y_iconst (n := 3) C (0 : Int32) dX6_listsOf_2 (by decide) rfl ?_
  refine y_istore_n (n := 4) (ls' := [(3, .int 0), (2, .int 0), (0, .ref (E.2.2.2.2.1 + o)), (1, .int a1)]) C dX6_listsOf_3 (by decide) rfl rfl ?_
  refine y_ls [2, 3, 1, 0] rfl ?_
  exact clX6_listsOf_4 C hR hO w 4096 a1 0 0
theorem mX6_listsOf {E : Ex} {o : Nat} (hO : shM E.2.2.2.2.2.1 o) (w : Wd) (a1 : Int32) (l : Launch) : MP l yX6_listsOf cX6_listsOf 4 (some .int) { frames := 1, cells := 0, slots := 0, locals := 24 } E [.ref (E.2.2.2.2.1 + o), .int a1] w (fX6_listsOf w o a1) :=
  y_met (Qc := fun r => yQi E (r, w)) (by decide +kernel) (Nat.le_of_ble_eq_true rfl) (fun g C hR => eX6_listsOf C hR hO w a1) l
def fX6_gone (w : Wd) (o : Nat) (a1 : Int32) (a2 : Int32) : Option (Int32 × Wd) :=
  (fX6_isDocument w a1).bind fun v1 =>
  if v1 = 0 then
    some ((-1), w)
  else
    (ldI 706 w (o + 1) 559).bind fun v3 =>
    if v3 = 1 then
      some ((-4), w)
    else
      (ldI 706 w (o + 1) (498 + a1)).bind fun v5 =>
      if v5 = a2 then
        some ((-5), w)
      else
        (fX6_record w o).bind fun w7 =>
        (stI 706 w7 (o + 1) (498 + a1) a2).bind fun w8 =>
        (fX6_listsOf w8 o a1).bind fun v9 =>
        (fX6_bits w8 v9).bind fun v10 =>
        some (v10, w8)
set_option maxRecDepth 4000 in
theorem eX6_gone {g : Gx} {E : Ex} (C : CC g E cX6_gone 3 RX6 2 47) (hR : RT g (some .int)) {o : Nat} (hO : shM E.2.2.2.2.2.1 o) (w : Wd) (a1 : Int32) (a2 : Int32) : YO g E 3 (QI g E) (fX6_gone w o a1 a2) w 0 [(0, .ref (E.2.2.2.2.1 + o)), (1, .int a1), (2, .int a2)] [] := by
  unfold fX6_gone
  refine y_iload_n (n := 1) C dX6_gone_0 1 rfl rfl ?_
  refine y_cp (n := 4) C (fun r hr H locs la hP hS hl => y_runS (st := []) C ky_X6_isDocument wd_795 ⟨Nat.le_of_ble_eq_true rfl, Nat.le_of_ble_eq_true rfl⟩ (mX6_isDocument w a1 g.2.1 r hr) rfl (Nat.le_of_ble_eq_true rfl) rfl dX6_gone_1 hP hS hl) rfl (fun v1 hv1 => ?_)
  refine y_if_ne (tgt := 9) (n := 7) C dX6_gone_4 (by decide) rfl (fun h2 => ?_) (fun h2 => ?_)
  · refine y_aload_n (n := 10) C dX6_gone_9 0 rfl rfl ?_
    refine y_get (ci := 6) (f := 0) (n := 13) C in_X6 hO.1 rfl (by decide) wd_731 rfl rfl dX6_gone_10 rfl ?_
    refine y_sipush (n := 16) C (559 : Int32) dX6_gone_13 (by decide) rfl ?_
    refine y_iald (n := 17) C hO.2.1 dX6_gone_16 rfl (fun v3 hv3 => ?_)
    refine y_iconst (n := 18) C (1 : Int32) dX6_gone_17 (by decide) rfl ?_
    refine y_icmp_ne (tgt := 24) (n := 21) C dX6_gone_18 (by decide) rfl (fun h4 => ?_) (fun h4 => ?_)
    · refine y_aload_n (n := 25) C dX6_gone_24 0 rfl rfl ?_
      refine y_get (ci := 6) (f := 0) (n := 28) C in_X6 hO.1 rfl (by decide) wd_731 rfl rfl dX6_gone_25 rfl ?_
      refine y_sipush (n := 31) C (498 : Int32) dX6_gone_28 (by decide) rfl ?_
      refine y_iload_n (n := 32) C dX6_gone_31 1 rfl rfl ?_
      refine y_iadd (n := 33) C dX6_gone_32 rfl ?_
      refine y_iald (n := 34) C hO.2.1 dX6_gone_33 rfl (fun v5 hv5 => ?_)
      refine y_iload_n (n := 35) C dX6_gone_34 2 rfl rfl ?_
      refine y_icmp_ne (tgt := 41) (n := 38) C dX6_gone_35 (by decide) rfl (fun h6 => ?_) (fun h6 => ?_)
      · refine y_aload_n (n := 42) C dX6_gone_41 0 rfl rfl ?_
        refine y_cv (n := 45) C (fun r hr H locs la hP hS hl => y_runV (ci := 6) (st := []) C ky_X6_record wd_784 ⟨Nat.le_of_ble_eq_true rfl, Nat.le_of_ble_eq_true rfl⟩ hO.1 rfl (mX6_record hO w g.2.1 r hr) rfl (Nat.le_of_ble_eq_true rfl) rfl dX6_gone_42 hP hS hl) rfl (fun w7 hw7 => ?_)
        refine y_aload_n (n := 46) C dX6_gone_45 0 rfl rfl ?_
        refine y_get (ci := 6) (f := 0) (n := 49) C in_X6 hO.1 rfl (by decide) wd_731 rfl rfl dX6_gone_46 rfl ?_
        refine y_sipush (n := 52) C (498 : Int32) dX6_gone_49 (by decide) rfl ?_
        refine y_iload_n (n := 53) C dX6_gone_52 1 rfl rfl ?_
        refine y_iadd (n := 54) C dX6_gone_53 rfl ?_
        refine y_iload_n (n := 55) C dX6_gone_54 2 rfl rfl ?_
        refine y_iast (n := 56) C hO.2.1 dX6_gone_55 rfl (fun w8 hw8 => ?_)
        refine y_aload_n (n := 57) C dX6_gone_56 0 rfl rfl ?_
        refine y_iload_n (n := 58) C dX6_gone_57 1 rfl rfl ?_
        refine y_cp (n := 61) C (fun r hr H locs la hP hS hl => y_runV (ci := 6) (st := []) C ky_X6_listsOf wd_822 ⟨Nat.le_of_ble_eq_true rfl, Nat.le_of_ble_eq_true rfl⟩ hO.1 rfl (mX6_listsOf hO w8 a1 g.2.1 r hr) rfl (Nat.le_of_ble_eq_true rfl) rfl dX6_gone_58 hP hS hl) rfl (fun v9 hv9 => ?_)
        refine y_cp (n := 64) C (fun r hr H locs la hP hS hl => y_runS (st := []) C ky_X6_bits wd_826 ⟨Nat.le_of_ble_eq_true rfl, Nat.le_of_ble_eq_true rfl⟩ (mX6_bits w8 v9 g.2.1 r hr) rfl (Nat.le_of_ble_eq_true rfl) rfl dX6_gone_61 hP hS hl) rfl (fun v10 hv10 => ?_)
        exact y_ri C hR dX6_gone_64
      · refine y_bipush (n := 40) C ((-5) : Int32) dX6_gone_38 (by decide) rfl ?_
        exact y_ri C hR dX6_gone_40
    · refine y_bipush (n := 23) C ((-4) : Int32) dX6_gone_21 (by decide) rfl ?_
      exact y_ri C hR dX6_gone_23
  · refine y_iconst (n := 8) C ((-1) : Int32) dX6_gone_7 (by decide) rfl ?_
    exact y_ri C hR dX6_gone_8
theorem mX6_gone {E : Ex} {o : Nat} (hO : shM E.2.2.2.2.2.1 o) (w : Wd) (a1 : Int32) (a2 : Int32) (l : Launch) : MI l yX6_gone cX6_gone 3 (some .int) { frames := 2, cells := 0, slots := 0, locals := 47 } E [.ref (E.2.2.2.2.1 + o), .int a1, .int a2] w (fX6_gone w o a1 a2) :=
  y_met (Qc := yQi E) (by decide +kernel) (Nat.le_of_ble_eq_true rfl) (fun g C hR => eX6_gone C hR hO w a1 a2) l
def fX6_bring (w : Wd) (o : Nat) (a1 : Int32) : Option (Int32 × Wd) :=
  ob2 (fX6_gone w o a1 0) fun v1 w2 =>
  some (v1, w2)
set_option maxRecDepth 4000 in
theorem eX6_bring {g : Gx} {E : Ex} (C : CC g E cX6_bring 2 RX6 3 69) (hR : RT g (some .int)) {o : Nat} (hO : shM E.2.2.2.2.2.1 o) (w : Wd) (a1 : Int32) : YO g E 2 (QI g E) (fX6_bring w o a1) w 0 [(0, .ref (E.2.2.2.2.1 + o)), (1, .int a1)] [] := by
  unfold fX6_bring
  refine y_aload_n (n := 1) C dX6_bring_0 0 rfl rfl ?_
  refine y_iload_n (n := 2) C dX6_bring_1 1 rfl rfl ?_
  refine y_iconst (n := 3) C (0 : Int32) dX6_bring_2 (by decide) rfl ?_
  refine y_ci2 (n := 6) C (fun r hr H locs la hP hS hl => y_runV (ci := 6) (st := []) C ky_X6_gone wd_818 ⟨Nat.le_of_ble_eq_true rfl, Nat.le_of_ble_eq_true rfl⟩ hO.1 rfl (mX6_gone hO w a1 0 g.2.1 r hr) rfl (Nat.le_of_ble_eq_true rfl) rfl dX6_bring_3 hP hS hl) rfl (fun v1 w2 hv1 => ?_)
  exact y_ri C hR dX6_bring_6
theorem mX6_bring {E : Ex} {o : Nat} (hO : shM E.2.2.2.2.2.1 o) (w : Wd) (a1 : Int32) (l : Launch) : MI l yX6_bring cX6_bring 2 (some .int) { frames := 3, cells := 0, slots := 0, locals := 69 } E [.ref (E.2.2.2.2.1 + o), .int a1] w (fX6_bring w o a1) :=
  y_met (Qc := yQi E) (by decide +kernel) (Nat.le_of_ble_eq_true rfl) (fun g C hR => eX6_bring C hR hO w a1) l
def lX6_sumOf_4 (o : Nat) : Nat → Wd → Int32 → Int32 → Int32 → Option (Int32)
  | 0, _, _, _, _ => none
  | n + 1, w, x1, x2, x3 =>
    if 6 ≤ x3 then
      some x2
    else
      (ldI 706 w (o + 1) (x1 + x3)).bind fun v2 =>
      lX6_sumOf_4 o n w x1 (x2 + v2) (x3 + 1)
set_option maxRecDepth 4000 in
theorem clX6_sumOf_4 {g : Gx} {E : Ex} (C : CC g E cX6_sumOf 4 RX6 0 0) (hR : RT g (some .int)) {o : Nat} (hO : shM E.2.2.2.2.2.1 o) (w : Wd) : ∀ (n : Nat) (x1 : Int32) (x2 : Int32) (x3 : Int32), YO g E 4 (QP g E w) (lX6_sumOf_4 o n w x1 x2 x3) w 4 [(0, .ref (E.2.2.2.2.1 + o)), (1, .int x1), (2, .int x2), (3, .int x3)] [] := by
  intro n
  induction n with
  | zero => intro x1 x2 x3; exact y_no
  | succ n ih =>
    intro x1 x2 x3
    rw [lX6_sumOf_4]
    refine y_iload_n (n := 5) C dX6_sumOf_4 3 rfl rfl ?_
    refine y_bipush (n := 7) C (6 : Int32) dX6_sumOf_5 (by decide) rfl ?_
    refine y_icmp_ge (tgt := 27) (n := 10) C dX6_sumOf_7 (by decide) rfl (fun h1 => ?_) (fun h1 => ?_)
    · refine y_iload_n (n := 28) C dX6_sumOf_27 2 rfl rfl ?_
      exact y_rp C hR dX6_sumOf_28
    · refine y_iload_n (n := 11) C dX6_sumOf_10 2 rfl rfl ?_
      refine y_aload_n (n := 12) C dX6_sumOf_11 0 rfl rfl ?_
      refine y_get (ci := 6) (f := 0) (n := 15) C in_X6 hO.1 rfl (by decide) wd_731 rfl rfl dX6_sumOf_12 rfl ?_
      refine y_iload_n (n := 16) C dX6_sumOf_15 1 rfl rfl ?_
      refine y_iload_n (n := 17) C dX6_sumOf_16 3 rfl rfl ?_
      refine y_iadd (n := 18) C dX6_sumOf_17 rfl ?_
      refine y_iald (n := 19) C hO.2.1 dX6_sumOf_18 rfl (fun v2 hv2 => ?_)
      refine y_iadd (n := 20) C dX6_sumOf_19 rfl ?_
      refine y_istore_n (n := 21) (ls' := [(2, .int (x2 + v2)), (0, .ref (E.2.2.2.2.1 + o)), (1, .int x1), (3, .int x3)]) C dX6_sumOf_20 (by decide) rfl rfl ?_
      refine y_iinc (n := 24) (v := x3 + 1) (ls' := [(3, .int (x3 + 1)), (2, .int (x2 + v2)), (0, .ref (E.2.2.2.2.1 + o)), (1, .int x1)]) C dX6_sumOf_21 3 rfl rfl (by decide) rfl rfl ?_
      refine y_goto (tgt := 4) C dX6_sumOf_24 (by decide) ?_
      refine y_ls [2, 3, 1, 0] rfl ?_
      exact ih x1 (x2 + v2) (x3 + 1)
def fX6_sumOf (w : Wd) (o : Nat) (a1 : Int32) : Option (Int32) :=
  lX6_sumOf_4 o 4096 w a1 0 0
set_option maxRecDepth 4000 in
theorem eX6_sumOf {g : Gx} {E : Ex} (C : CC g E cX6_sumOf 4 RX6 0 0) (hR : RT g (some .int)) {o : Nat} (hO : shM E.2.2.2.2.2.1 o) (w : Wd) (a1 : Int32) : YO g E 4 (QP g E w) (fX6_sumOf w o a1) w 0 [(0, .ref (E.2.2.2.2.1 + o)), (1, .int a1)] [] := by
  unfold fX6_sumOf
  refine y_iconst (n := 1) C (0 : Int32) dX6_sumOf_0 (by decide) rfl ?_
  refine y_istore_n (n := 2) (ls' := [(2, .int 0), (0, .ref (E.2.2.2.2.1 + o)), (1, .int a1)]) C dX6_sumOf_1 (by decide) rfl rfl ?_
  refine y_iconst (n := 3) C (0 : Int32) dX6_sumOf_2 (by decide) rfl ?_
  refine y_istore_n (n := 4) (ls' := [(3, .int 0), (2, .int 0), (0, .ref (E.2.2.2.2.1 + o)), (1, .int a1)]) C dX6_sumOf_3 (by decide) rfl rfl ?_
  refine y_ls [2, 3, 1, 0] rfl ?_
  exact clX6_sumOf_4 C hR hO w 4096 a1 0 0
theorem mX6_sumOf {E : Ex} {o : Nat} (hO : shM E.2.2.2.2.2.1 o) (w : Wd) (a1 : Int32) (l : Launch) : MP l yX6_sumOf cX6_sumOf 4 (some .int) { frames := 0, cells := 0, slots := 0, locals := 0 } E [.ref (E.2.2.2.2.1 + o), .int a1] w (fX6_sumOf w o a1) :=
  y_met (Qc := fun r => yQi E (r, w)) (by decide +kernel) (Nat.le_of_ble_eq_true rfl) (fun g C hR => eX6_sumOf C hR hO w a1) l
def fX6_cost (w : Wd) (o : Nat)  : Option (Int32) :=
  (ldI 706 w (o + 1) 564).bind fun v1 =>
  (fX6_sumOf w o 580).bind fun v2 =>
  some (v1 + (3 * v2))
set_option maxRecDepth 4000 in
theorem eX6_cost {g : Gx} {E : Ex} (C : CC g E cX6_cost 1 RX6 1 23) (hR : RT g (some .int)) {o : Nat} (hO : shM E.2.2.2.2.2.1 o) (w : Wd)  : YO g E 1 (QP g E w) (fX6_cost w o) w 0 [(0, .ref (E.2.2.2.2.1 + o))] [] := by
  unfold fX6_cost
  refine y_aload_n (n := 1) C dX6_cost_0 0 rfl rfl ?_
  refine y_get (ci := 6) (f := 0) (n := 4) C in_X6 hO.1 rfl (by decide) wd_731 rfl rfl dX6_cost_1 rfl ?_
  refine y_sipush (n := 7) C (564 : Int32) dX6_cost_4 (by decide) rfl ?_
  refine y_iald (n := 8) C hO.2.1 dX6_cost_7 rfl (fun v1 hv1 => ?_)
  refine y_iconst (n := 9) C (3 : Int32) dX6_cost_8 (by decide) rfl ?_
  refine y_aload_n (n := 10) C dX6_cost_9 0 rfl rfl ?_
  refine y_sipush (n := 13) C (580 : Int32) dX6_cost_10 (by decide) rfl ?_
  refine y_cp (n := 16) C (fun r hr H locs la hP hS hl => y_runV (ci := 6) (st := [.int 3, .int v1]) C ky_X6_sumOf wd_1001 ⟨Nat.le_of_ble_eq_true rfl, Nat.le_of_ble_eq_true rfl⟩ hO.1 rfl (mX6_sumOf hO w 580 g.2.1 r hr) rfl (Nat.le_of_ble_eq_true rfl) rfl dX6_cost_13 hP hS hl) rfl (fun v2 hv2 => ?_)
  refine y_imul (n := 17) C dX6_cost_16 rfl ?_
  refine y_iadd (n := 18) C dX6_cost_17 rfl ?_
  exact y_rp C hR dX6_cost_18
theorem mX6_cost {E : Ex} {o : Nat} (hO : shM E.2.2.2.2.2.1 o) (w : Wd)  (l : Launch) : MP l yX6_cost cX6_cost 1 (some .int) { frames := 1, cells := 0, slots := 0, locals := 23 } E [.ref (E.2.2.2.2.1 + o)] w (fX6_cost w o) :=
  y_met (Qc := fun r => yQi E (r, w)) (by decide +kernel) (Nat.le_of_ble_eq_true rfl) (fun g C hR => eX6_cost C hR hO w ) l
def fX6_isChosenBefore (w : Wd) (o : Nat) (a1 : Int32) (a2 : Int32) : Option (Int32) :=
  (ldI 706 w (o + 1) 560).bind fun v1 =>
  if v1 = 0 then
    rtZ 0
  else
    (ldI 706 w (o + 1) 560).bind fun v3 =>
    if v3 = 1 then
      (ldI 706 w (o + 1) (486 + a1)).bind fun v8 =>
      (fX6_toldBound w o a1).bind fun v9 =>
      (ldI 706 w (o + 1) (486 + a2)).bind fun v10 =>
      (fX6_toldBound w o a2).bind fun v11 =>
      if (v8 * v9) ≤ (v10 * v11) then
        rtZ 0
      else
        rtZ 1
    else
      (fX6_left w o a1).bind fun v5 =>
      (fX6_left w o a2).bind fun v6 =>
      if v6 ≤ v5 then
        rtZ 0
      else
        rtZ 1
set_option maxRecDepth 4000 in
theorem eX6_isChosenBefore {g : Gx} {E : Ex} (C : CC g E cX6_isChosenBefore 3 RX6 3 65) (hR : RT g (some .boolean)) {o : Nat} (hO : shM E.2.2.2.2.2.1 o) (w : Wd) (a1 : Int32) (a2 : Int32) : YO g E 3 (QP g E w) (fX6_isChosenBefore w o a1 a2) w 0 [(0, .ref (E.2.2.2.2.1 + o)), (1, .int a1), (2, .int a2)] [] := by
  unfold fX6_isChosenBefore
  refine y_aload_n (n := 1) C dX6_isChosenBefore_0 0 rfl rfl ?_
  refine y_get (ci := 6) (f := 0) (n := 4) C in_X6 hO.1 rfl (by decide) wd_731 rfl rfl dX6_isChosenBefore_1 rfl ?_
  refine y_sipush (n := 7) C (560 : Int32) dX6_isChosenBefore_4 (by decide) rfl ?_
  refine y_iald (n := 8) C hO.2.1 dX6_isChosenBefore_7 rfl (fun v1 hv1 => ?_)
  refine y_if_ne (tgt := 13) (n := 11) C dX6_isChosenBefore_8 (by decide) rfl (fun h2 => ?_) (fun h2 => ?_)
  · refine y_aload_n (n := 14) C dX6_isChosenBefore_13 0 rfl rfl ?_
    refine y_get (ci := 6) (f := 0) (n := 17) C in_X6 hO.1 rfl (by decide) wd_731 rfl rfl dX6_isChosenBefore_14 rfl ?_
    refine y_sipush (n := 20) C (560 : Int32) dX6_isChosenBefore_17 (by decide) rfl ?_
    refine y_iald (n := 21) C hO.2.1 dX6_isChosenBefore_20 rfl (fun v3 hv3 => ?_)
    refine y_iconst (n := 22) C (1 : Int32) dX6_isChosenBefore_21 (by decide) rfl ?_
    refine y_icmp_ne (tgt := 68) (n := 25) C dX6_isChosenBefore_22 (by decide) rfl (fun h4 => ?_) (fun h4 => ?_)
    · refine y_aload_n (n := 69) C dX6_isChosenBefore_68 0 rfl rfl ?_
      refine y_iload_n (n := 70) C dX6_isChosenBefore_69 1 rfl rfl ?_
      refine y_cp (n := 73) C (fun r hr H locs la hP hS hl => y_runV (ci := 6) (st := []) C ky_X6_left wd_905 ⟨Nat.le_of_ble_eq_true rfl, Nat.le_of_ble_eq_true rfl⟩ hO.1 rfl (mX6_left hO w a1 g.2.1 r hr) rfl (Nat.le_of_ble_eq_true rfl) rfl dX6_isChosenBefore_70 hP hS hl) rfl (fun v5 hv5 => ?_)
      refine y_aload_n (n := 74) C dX6_isChosenBefore_73 0 rfl rfl ?_
      refine y_iload_n (n := 75) C dX6_isChosenBefore_74 2 rfl rfl ?_
      refine y_cp (n := 78) C (fun r hr H locs la hP hS hl => y_runV (ci := 6) (st := [.int v5]) C ky_X6_left wd_905 ⟨Nat.le_of_ble_eq_true rfl, Nat.le_of_ble_eq_true rfl⟩ hO.1 rfl (mX6_left hO w a2 g.2.1 r hr) rfl (Nat.le_of_ble_eq_true rfl) rfl dX6_isChosenBefore_75 hP hS hl) rfl (fun v6 hv6 => ?_)
      refine y_icmp_ge (tgt := 85) (n := 81) C dX6_isChosenBefore_78 (by decide) rfl (fun h7 => ?_) (fun h7 => ?_)
      · refine y_iconst (n := 86) C (0 : Int32) dX6_isChosenBefore_85 (by decide) rfl ?_
        exact y_rz C hR dX6_isChosenBefore_86
      · refine y_iconst (n := 82) C (1 : Int32) dX6_isChosenBefore_81 (by decide) rfl ?_
        refine y_goto (tgt := 86) C dX6_isChosenBefore_82 (by decide) ?_
        exact y_rz C hR dX6_isChosenBefore_86
    · refine y_aload_n (n := 26) C dX6_isChosenBefore_25 0 rfl rfl ?_
      refine y_get (ci := 6) (f := 0) (n := 29) C in_X6 hO.1 rfl (by decide) wd_731 rfl rfl dX6_isChosenBefore_26 rfl ?_
      refine y_sipush (n := 32) C (486 : Int32) dX6_isChosenBefore_29 (by decide) rfl ?_
      refine y_iload_n (n := 33) C dX6_isChosenBefore_32 1 rfl rfl ?_
      refine y_iadd (n := 34) C dX6_isChosenBefore_33 rfl ?_
      refine y_iald (n := 35) C hO.2.1 dX6_isChosenBefore_34 rfl (fun v8 hv8 => ?_)
      refine y_aload_n (n := 36) C dX6_isChosenBefore_35 0 rfl rfl ?_
      refine y_iload_n (n := 37) C dX6_isChosenBefore_36 1 rfl rfl ?_
      refine y_cp (n := 40) C (fun r hr H locs la hP hS hl => y_runV (ci := 6) (st := [.int v8]) C ky_X6_toldBound wd_941 ⟨Nat.le_of_ble_eq_true rfl, Nat.le_of_ble_eq_true rfl⟩ hO.1 rfl (mX6_toldBound hO w a1 g.2.1 r hr) rfl (Nat.le_of_ble_eq_true rfl) rfl dX6_isChosenBefore_37 hP hS hl) rfl (fun v9 hv9 => ?_)
      refine y_imul (n := 41) C dX6_isChosenBefore_40 rfl ?_
      refine y_aload_n (n := 42) C dX6_isChosenBefore_41 0 rfl rfl ?_
      refine y_get (ci := 6) (f := 0) (n := 45) C in_X6 hO.1 rfl (by decide) wd_731 rfl rfl dX6_isChosenBefore_42 rfl ?_
      refine y_sipush (n := 48) C (486 : Int32) dX6_isChosenBefore_45 (by decide) rfl ?_
      refine y_iload_n (n := 49) C dX6_isChosenBefore_48 2 rfl rfl ?_
      refine y_iadd (n := 50) C dX6_isChosenBefore_49 rfl ?_
      refine y_iald (n := 51) C hO.2.1 dX6_isChosenBefore_50 rfl (fun v10 hv10 => ?_)
      refine y_aload_n (n := 52) C dX6_isChosenBefore_51 0 rfl rfl ?_
      refine y_iload_n (n := 53) C dX6_isChosenBefore_52 2 rfl rfl ?_
      refine y_cp (n := 56) C (fun r hr H locs la hP hS hl => y_runV (ci := 6) (st := [.int v10, .int (v8 * v9)]) C ky_X6_toldBound wd_941 ⟨Nat.le_of_ble_eq_true rfl, Nat.le_of_ble_eq_true rfl⟩ hO.1 rfl (mX6_toldBound hO w a2 g.2.1 r hr) rfl (Nat.le_of_ble_eq_true rfl) rfl dX6_isChosenBefore_53 hP hS hl) rfl (fun v11 hv11 => ?_)
      refine y_imul (n := 57) C dX6_isChosenBefore_56 rfl ?_
      refine y_icmp_le (tgt := 64) (n := 60) C dX6_isChosenBefore_57 (by decide) rfl (fun h12 => ?_) (fun h12 => ?_)
      · refine y_iconst (n := 65) C (0 : Int32) dX6_isChosenBefore_64 (by decide) rfl ?_
        refine y_goto (tgt := 86) C dX6_isChosenBefore_65 (by decide) ?_
        exact y_rz C hR dX6_isChosenBefore_86
      · refine y_iconst (n := 61) C (1 : Int32) dX6_isChosenBefore_60 (by decide) rfl ?_
        refine y_goto (tgt := 86) C dX6_isChosenBefore_61 (by decide) ?_
        exact y_rz C hR dX6_isChosenBefore_86
  · refine y_iconst (n := 12) C (0 : Int32) dX6_isChosenBefore_11 (by decide) rfl ?_
    exact y_rz C hR dX6_isChosenBefore_12
theorem mX6_isChosenBefore {E : Ex} {o : Nat} (hO : shM E.2.2.2.2.2.1 o) (w : Wd) (a1 : Int32) (a2 : Int32) (l : Launch) : MP l yX6_isChosenBefore cX6_isChosenBefore 3 (some .boolean) { frames := 3, cells := 0, slots := 0, locals := 65 } E [.ref (E.2.2.2.2.1 + o), .int a1, .int a2] w (fX6_isChosenBefore w o a1 a2) :=
  y_met (Qc := fun r => yQi E (r, w)) (by decide +kernel) (Nat.le_of_ble_eq_true rfl) (fun g C hR => eX6_isChosenBefore C hR hO w a1 a2) l
def lX6_nextList_4 (o : Nat) : Nat → Wd → Int32 → Int32 → Option (Int32)
  | 0, _, _, _ => none
  | n + 1, w, x1, x2 =>
    if 6 < x2 then
      some x1
    else
      (ldI 706 w (o + 1) 560).bind fun v2 =>
      if v2 = 0 then
        (ldI 706 w (o + 1) 563).bind fun v9 =>
        (fX6_canBeRead w o ((v9 + x2) - (v9 + x2) / 6 * 6)).bind fun v10 =>
        if v10 = 0 then
          lX6_nextList_4 o n w x1 (x2 + 1)
        else
          if x1 < 0 then
            lX6_nextList_4 o n w ((v9 + x2) - (v9 + x2) / 6 * 6) (x2 + 1)
          else
            (fX6_isChosenBefore w o ((v9 + x2) - (v9 + x2) / 6 * 6) x1).bind fun v13 =>
            if v13 = 0 then
              lX6_nextList_4 o n w x1 (x2 + 1)
            else
              lX6_nextList_4 o n w ((v9 + x2) - (v9 + x2) / 6 * 6) (x2 + 1)
      else
        (fX6_canBeRead w o (x2 - 1)).bind fun v4 =>
        if v4 = 0 then
          lX6_nextList_4 o n w x1 (x2 + 1)
        else
          if x1 < 0 then
            lX6_nextList_4 o n w (x2 - 1) (x2 + 1)
          else
            (fX6_isChosenBefore w o (x2 - 1) x1).bind fun v7 =>
            if v7 = 0 then
              lX6_nextList_4 o n w x1 (x2 + 1)
            else
              lX6_nextList_4 o n w (x2 - 1) (x2 + 1)
set_option maxRecDepth 4000 in
theorem clX6_nextList_4 {g : Gx} {E : Ex} (C : CC g E cX6_nextList 4 RX6 4 87) (hR : RT g (some .int)) {o : Nat} (hO : shM E.2.2.2.2.2.1 o) (w : Wd) : ∀ (n : Nat) (x1 : Int32) (x2 : Int32), YO g E 4 (QP g E w) (lX6_nextList_4 o n w x1 x2) w 4 [(0, .ref (E.2.2.2.2.1 + o)), (1, .int x1), (2, .int x2)] [] := by
  intro n
  induction n with
  | zero => intro x1 x2; exact y_no
  | succ n ih =>
    intro x1 x2
    rw [lX6_nextList_4]
    refine y_iload_n (n := 5) C dX6_nextList_4 2 rfl rfl ?_
    refine y_bipush (n := 7) C (6 : Int32) dX6_nextList_5 (by decide) rfl ?_
    refine y_icmp_gt (tgt := 70) (n := 10) C dX6_nextList_7 (by decide) rfl (fun h1 => ?_) (fun h1 => ?_)
    · refine y_iload_n (n := 71) C dX6_nextList_70 1 rfl rfl ?_
      exact y_rp C hR dX6_nextList_71
    · refine y_aload_n (n := 11) C dX6_nextList_10 0 rfl rfl ?_
      refine y_get (ci := 6) (f := 0) (n := 14) C in_X6 hO.1 rfl (by decide) wd_731 rfl rfl dX6_nextList_11 rfl ?_
      refine y_sipush (n := 17) C (560 : Int32) dX6_nextList_14 (by decide) rfl ?_
      refine y_iald (n := 18) C hO.2.1 dX6_nextList_17 rfl (fun v2 hv2 => ?_)
      refine y_if_ne (tgt := 37) (n := 21) C dX6_nextList_18 (by decide) rfl (fun h3 => ?_) (fun h3 => ?_)
      · refine y_iload_n (n := 38) C dX6_nextList_37 2 rfl rfl ?_
        refine y_iconst (n := 39) C (1 : Int32) dX6_nextList_38 (by decide) rfl ?_
        refine y_isub (n := 40) C dX6_nextList_39 rfl ?_
        refine y_istore_n (n := 41) (ls' := [(3, .int (x2 - 1)), (0, .ref (E.2.2.2.2.1 + o)), (1, .int x1), (2, .int x2)]) C dX6_nextList_40 (by decide) rfl rfl ?_
        refine y_aload_n (n := 42) C dX6_nextList_41 1 rfl rfl ?_
        refine y_iload_n (n := 43) C dX6_nextList_42 0 rfl rfl ?_
        refine y_cp (n := 46) C (fun r hr H locs la hP hS hl => y_runV (ci := 6) (st := []) C ky_X6_canBeRead wd_901 ⟨Nat.le_of_ble_eq_true rfl, Nat.le_of_ble_eq_true rfl⟩ hO.1 rfl (mX6_canBeRead hO w (x2 - 1) g.2.1 r hr) rfl (Nat.le_of_ble_eq_true rfl) rfl dX6_nextList_43 hP hS hl) rfl (fun v4 hv4 => ?_)
        refine y_if_eq (tgt := 64) (n := 49) C dX6_nextList_46 (by decide) rfl (fun h5 => ?_) (fun h5 => ?_)
        · refine y_iinc (n := 67) (v := x2 + 1) (ls' := [(2, .int (x2 + 1)), (3, .int (x2 - 1)), (0, .ref (E.2.2.2.2.1 + o)), (1, .int x1)]) C dX6_nextList_64 3 rfl rfl (by decide) rfl rfl ?_
          refine y_goto (tgt := 4) C dX6_nextList_67 (by decide) ?_
          refine y_ls [2, 3, 0] rfl ?_
          exact ih x1 (x2 + 1)
        · refine y_iload_n (n := 50) C dX6_nextList_49 2 rfl rfl ?_
          refine y_if_lt (tgt := 62) (n := 53) C dX6_nextList_50 (by decide) rfl (fun h6 => ?_) (fun h6 => ?_)
          · refine y_iload_n (n := 63) C dX6_nextList_62 0 rfl rfl ?_
            refine y_istore_n (n := 64) (ls' := [(1, .int (x2 - 1)), (3, .int (x2 - 1)), (0, .ref (E.2.2.2.2.1 + o)), (2, .int x2)]) C dX6_nextList_63 (by decide) rfl rfl ?_
            refine y_iinc (n := 67) (v := x2 + 1) (ls' := [(2, .int (x2 + 1)), (1, .int (x2 - 1)), (3, .int (x2 - 1)), (0, .ref (E.2.2.2.2.1 + o))]) C dX6_nextList_64 3 rfl rfl (by decide) rfl rfl ?_
            refine y_goto (tgt := 4) C dX6_nextList_67 (by decide) ?_
            refine y_ls [3, 1, 0] rfl ?_
            exact ih (x2 - 1) (x2 + 1)
          · refine y_aload_n (n := 54) C dX6_nextList_53 1 rfl rfl ?_
            refine y_iload_n (n := 55) C dX6_nextList_54 0 rfl rfl ?_
            refine y_iload_n (n := 56) C dX6_nextList_55 2 rfl rfl ?_
            refine y_cp (n := 59) C (fun r hr H locs la hP hS hl => y_runV (ci := 6) (st := []) C ky_X6_isChosenBefore wd_965 ⟨Nat.le_of_ble_eq_true rfl, Nat.le_of_ble_eq_true rfl⟩ hO.1 rfl (mX6_isChosenBefore hO w (x2 - 1) x1 g.2.1 r hr) rfl (Nat.le_of_ble_eq_true rfl) rfl dX6_nextList_56 hP hS hl) rfl (fun v7 hv7 => ?_)
            refine y_if_eq (tgt := 64) (n := 62) C dX6_nextList_59 (by decide) rfl (fun h8 => ?_) (fun h8 => ?_)
            · refine y_iinc (n := 67) (v := x2 + 1) (ls' := [(2, .int (x2 + 1)), (3, .int (x2 - 1)), (0, .ref (E.2.2.2.2.1 + o)), (1, .int x1)]) C dX6_nextList_64 3 rfl rfl (by decide) rfl rfl ?_
              refine y_goto (tgt := 4) C dX6_nextList_67 (by decide) ?_
              refine y_ls [2, 3, 0] rfl ?_
              exact ih x1 (x2 + 1)
            · refine y_iload_n (n := 63) C dX6_nextList_62 0 rfl rfl ?_
              refine y_istore_n (n := 64) (ls' := [(1, .int (x2 - 1)), (3, .int (x2 - 1)), (0, .ref (E.2.2.2.2.1 + o)), (2, .int x2)]) C dX6_nextList_63 (by decide) rfl rfl ?_
              refine y_iinc (n := 67) (v := x2 + 1) (ls' := [(2, .int (x2 + 1)), (1, .int (x2 - 1)), (3, .int (x2 - 1)), (0, .ref (E.2.2.2.2.1 + o))]) C dX6_nextList_64 3 rfl rfl (by decide) rfl rfl ?_
              refine y_goto (tgt := 4) C dX6_nextList_67 (by decide) ?_
              refine y_ls [3, 1, 0] rfl ?_
              exact ih (x2 - 1) (x2 + 1)
      · refine y_aload_n (n := 22) C dX6_nextList_21 0 rfl rfl ?_
        refine y_get (ci := 6) (f := 0) (n := 25) C in_X6 hO.1 rfl (by decide) wd_731 rfl rfl dX6_nextList_22 rfl ?_
        refine y_sipush (n := 28) C (563 : Int32) dX6_nextList_25 (by decide) rfl ?_
        refine y_iald (n := 29) C hO.2.1 dX6_nextList_28 rfl (fun v9 hv9 => ?_)
        refine y_iload_n (n := 30) C dX6_nextList_29 2 rfl rfl ?_
        refine y_iadd (n := 31) C dX6_nextList_30 rfl ?_
        refine y_bipush (n := 33) C (6 : Int32) dX6_nextList_31 (by decide) rfl ?_
        refine y_irem (n := 34) C dX6_nextList_33 (by decide) rfl ?_
        refine y_goto (tgt := 40) C dX6_nextList_34 (by decide) ?_
        refine y_istore_n (n := 41) (ls' := [(3, .int ((v9 + x2) - (v9 + x2) / 6 * 6)), (0, .ref (E.2.2.2.2.1 + o)), (1, .int x1), (2, .int x2)]) C dX6_nextList_40 (by decide) rfl rfl ?_
        refine y_aload_n (n := 42) C dX6_nextList_41 1 rfl rfl ?_
        refine y_iload_n (n := 43) C dX6_nextList_42 0 rfl rfl ?_
        refine y_cp (n := 46) C (fun r hr H locs la hP hS hl => y_runV (ci := 6) (st := []) C ky_X6_canBeRead wd_901 ⟨Nat.le_of_ble_eq_true rfl, Nat.le_of_ble_eq_true rfl⟩ hO.1 rfl (mX6_canBeRead hO w ((v9 + x2) - (v9 + x2) / 6 * 6) g.2.1 r hr) rfl (Nat.le_of_ble_eq_true rfl) rfl dX6_nextList_43 hP hS hl) rfl (fun v10 hv10 => ?_)
        refine y_if_eq (tgt := 64) (n := 49) C dX6_nextList_46 (by decide) rfl (fun h11 => ?_) (fun h11 => ?_)
        · refine y_iinc (n := 67) (v := x2 + 1) (ls' := [(2, .int (x2 + 1)), (3, .int ((v9 + x2) - (v9 + x2) / 6 * 6)), (0, .ref (E.2.2.2.2.1 + o)), (1, .int x1)]) C dX6_nextList_64 3 rfl rfl (by decide) rfl rfl ?_
          refine y_goto (tgt := 4) C dX6_nextList_67 (by decide) ?_
          refine y_ls [2, 3, 0] rfl ?_
          exact ih x1 (x2 + 1)
        · refine y_iload_n (n := 50) C dX6_nextList_49 2 rfl rfl ?_
          refine y_if_lt (tgt := 62) (n := 53) C dX6_nextList_50 (by decide) rfl (fun h12 => ?_) (fun h12 => ?_)
          · refine y_iload_n (n := 63) C dX6_nextList_62 0 rfl rfl ?_
            refine y_istore_n (n := 64) (ls' := [(1, .int ((v9 + x2) - (v9 + x2) / 6 * 6)), (3, .int ((v9 + x2) - (v9 + x2) / 6 * 6)), (0, .ref (E.2.2.2.2.1 + o)), (2, .int x2)]) C dX6_nextList_63 (by decide) rfl rfl ?_
            refine y_iinc (n := 67) (v := x2 + 1) (ls' := [(2, .int (x2 + 1)), (1, .int ((v9 + x2) - (v9 + x2) / 6 * 6)), (3, .int ((v9 + x2) - (v9 + x2) / 6 * 6)), (0, .ref (E.2.2.2.2.1 + o))]) C dX6_nextList_64 3 rfl rfl (by decide) rfl rfl ?_
            refine y_goto (tgt := 4) C dX6_nextList_67 (by decide) ?_
            refine y_ls [3, 1, 0] rfl ?_
            exact ih ((v9 + x2) - (v9 + x2) / 6 * 6) (x2 + 1)
          · refine y_aload_n (n := 54) C dX6_nextList_53 1 rfl rfl ?_
            refine y_iload_n (n := 55) C dX6_nextList_54 0 rfl rfl ?_
            refine y_iload_n (n := 56) C dX6_nextList_55 2 rfl rfl ?_
            refine y_cp (n := 59) C (fun r hr H locs la hP hS hl => y_runV (ci := 6) (st := []) C ky_X6_isChosenBefore wd_965 ⟨Nat.le_of_ble_eq_true rfl, Nat.le_of_ble_eq_true rfl⟩ hO.1 rfl (mX6_isChosenBefore hO w ((v9 + x2) - (v9 + x2) / 6 * 6) x1 g.2.1 r hr) rfl (Nat.le_of_ble_eq_true rfl) rfl dX6_nextList_56 hP hS hl) rfl (fun v13 hv13 => ?_)
            refine y_if_eq (tgt := 64) (n := 62) C dX6_nextList_59 (by decide) rfl (fun h14 => ?_) (fun h14 => ?_)
            · refine y_iinc (n := 67) (v := x2 + 1) (ls' := [(2, .int (x2 + 1)), (3, .int ((v9 + x2) - (v9 + x2) / 6 * 6)), (0, .ref (E.2.2.2.2.1 + o)), (1, .int x1)]) C dX6_nextList_64 3 rfl rfl (by decide) rfl rfl ?_
              refine y_goto (tgt := 4) C dX6_nextList_67 (by decide) ?_
              refine y_ls [2, 3, 0] rfl ?_
              exact ih x1 (x2 + 1)
            · refine y_iload_n (n := 63) C dX6_nextList_62 0 rfl rfl ?_
              refine y_istore_n (n := 64) (ls' := [(1, .int ((v9 + x2) - (v9 + x2) / 6 * 6)), (3, .int ((v9 + x2) - (v9 + x2) / 6 * 6)), (0, .ref (E.2.2.2.2.1 + o)), (2, .int x2)]) C dX6_nextList_63 (by decide) rfl rfl ?_
              refine y_iinc (n := 67) (v := x2 + 1) (ls' := [(2, .int (x2 + 1)), (1, .int ((v9 + x2) - (v9 + x2) / 6 * 6)), (3, .int ((v9 + x2) - (v9 + x2) / 6 * 6)), (0, .ref (E.2.2.2.2.1 + o))]) C dX6_nextList_64 3 rfl rfl (by decide) rfl rfl ?_
              refine y_goto (tgt := 4) C dX6_nextList_67 (by decide) ?_
              refine y_ls [3, 1, 0] rfl ?_
              exact ih ((v9 + x2) - (v9 + x2) / 6 * 6) (x2 + 1)
def fX6_nextList (w : Wd) (o : Nat)  : Option (Int32) :=
  lX6_nextList_4 o 4096 w (-1) 1
set_option maxRecDepth 4000 in
theorem eX6_nextList {g : Gx} {E : Ex} (C : CC g E cX6_nextList 4 RX6 4 87) (hR : RT g (some .int)) {o : Nat} (hO : shM E.2.2.2.2.2.1 o) (w : Wd)  : YO g E 4 (QP g E w) (fX6_nextList w o) w 0 [(0, .ref (E.2.2.2.2.1 + o))] [] := by
  unfold fX6_nextList
  refine y_iconst (n := 1) C ((-1) : Int32) dX6_nextList_0 (by decide) rfl ?_
  refine y_istore_n (n := 2) (ls' := [(1, .int (-1)), (0, .ref (E.2.2.2.2.1 + o))]) C dX6_nextList_1 (by decide) rfl rfl ?_
  refine y_iconst (n := 3) C (1 : Int32) dX6_nextList_2 (by decide) rfl ?_
  refine y_istore_n (n := 4) (ls' := [(2, .int 1), (1, .int (-1)), (0, .ref (E.2.2.2.2.1 + o))]) C dX6_nextList_3 (by decide) rfl rfl ?_
  refine y_ls [2, 1, 0] rfl ?_
  exact clX6_nextList_4 C hR hO w 4096 (-1) 1
theorem mX6_nextList {E : Ex} {o : Nat} (hO : shM E.2.2.2.2.2.1 o) (w : Wd)  (l : Launch) : MP l yX6_nextList cX6_nextList 4 (some .int) { frames := 4, cells := 0, slots := 0, locals := 87 } E [.ref (E.2.2.2.2.1 + o)] w (fX6_nextList w o) :=
  y_met (Qc := fun r => yQi E (r, w)) (by decide +kernel) (Nat.le_of_ble_eq_true rfl) (fun g C hR => eX6_nextList C hR hO w ) l
def lX6_sees_57 (o : Nat) : Nat → Wd → Int32 → Int32 → Int32 → Int32 → Option (Wd)
  | 0, _, _, _, _, _ => none
  | n + 1, w, x1, x2, x3, x4 =>
    if 6 ≤ x4 then
      some w
    else
      if x3 = 0 then
        lX6_sees_57 o n w x1 x2 x3 (x4 + 1)
      else
        (ldI 706 w (o + 1) 561).bind fun v7 =>
        if v7 = 1 then
          if x4 = x1 then
            lX6_sees_57 o n w x1 x2 x3 (x4 + 1)
          else
            (fX6_isAsked w o x4).bind fun v10 =>
            if v10 = 0 then
              lX6_sees_57 o n w x1 x2 x3 (x4 + 1)
            else
              (ldI 706 w (o + 1) (580 + x4)).bind fun v12 =>
              (stI 706 w (o + 1) (580 + x4) (v12 + 1)).bind fun w13 =>
              (ldI 706 w13 (o + 1) (646 + x2)).bind fun v14 =>
              (stI 706 w13 (o + 1) (646 + x2) (v14 ||| (1 <<< (x4 &&& 31)))).bind fun w15 =>
              lX6_sees_57 o n w15 x1 x2 x3 (x4 + 1)
        else
          lX6_sees_57 o n w x1 x2 x3 (x4 + 1)
set_option maxRecDepth 4000 in
theorem clX6_sees_57 {g : Gx} {E : Ex} (C : CC g E cX6_sees 5 RX6 1 21) (hR : RT g none) {o : Nat} (hO : shM E.2.2.2.2.2.1 o) : ∀ (n : Nat) (w : Wd) (x1 : Int32) (x2 : Int32) (x3 : Int32) (x4 : Int32), YO g E 5 (QV g E) (lX6_sees_57 o n w x1 x2 x3 x4) w 57 [(0, .ref (E.2.2.2.2.1 + o)), (1, .int x1), (2, .int x2), (3, .int x3), (4, .int x4)] [] := by
  intro n
  induction n with
  | zero => intro w x1 x2 x3 x4; exact y_no
  | succ n ih =>
    intro w x1 x2 x3 x4
    rw [lX6_sees_57]
    refine y_iload (n := 59) C dX6_sees_57 4 rfl rfl ?_
    refine y_bipush (n := 61) C (6 : Int32) dX6_sees_59 (by decide) rfl ?_
    refine y_icmp_ge (tgt := 133) (n := 64) C dX6_sees_61 (by decide) rfl (fun h5 => ?_) (fun h5 => ?_)
    · exact y_rv C hR dX6_sees_133
    · refine y_iload_n (n := 65) C dX6_sees_64 3 rfl rfl ?_
      refine y_if_eq (tgt := 127) (n := 68) C dX6_sees_65 (by decide) rfl (fun h6 => ?_) (fun h6 => ?_)
      · refine y_iinc (n := 130) (v := x4 + 1) (ls' := [(4, .int (x4 + 1)), (0, .ref (E.2.2.2.2.1 + o)), (1, .int x1), (2, .int x2), (3, .int x3)]) C dX6_sees_127 4 rfl rfl (by decide) rfl rfl ?_
        refine y_goto (tgt := 57) C dX6_sees_130 (by decide) ?_
        refine y_ls [1, 2, 3, 4, 0] rfl ?_
        exact ih w x1 x2 x3 (x4 + 1)
      · refine y_aload_n (n := 69) C dX6_sees_68 0 rfl rfl ?_
        refine y_get (ci := 6) (f := 0) (n := 72) C in_X6 hO.1 rfl (by decide) wd_731 rfl rfl dX6_sees_69 rfl ?_
        refine y_sipush (n := 75) C (561 : Int32) dX6_sees_72 (by decide) rfl ?_
        refine y_iald (n := 76) C hO.2.1 dX6_sees_75 rfl (fun v7 hv7 => ?_)
        refine y_iconst (n := 77) C (1 : Int32) dX6_sees_76 (by decide) rfl ?_
        refine y_icmp_ne (tgt := 127) (n := 80) C dX6_sees_77 (by decide) rfl (fun h8 => ?_) (fun h8 => ?_)
        · refine y_iinc (n := 130) (v := x4 + 1) (ls' := [(4, .int (x4 + 1)), (0, .ref (E.2.2.2.2.1 + o)), (1, .int x1), (2, .int x2), (3, .int x3)]) C dX6_sees_127 4 rfl rfl (by decide) rfl rfl ?_
          refine y_goto (tgt := 57) C dX6_sees_130 (by decide) ?_
          refine y_ls [1, 2, 3, 4, 0] rfl ?_
          exact ih w x1 x2 x3 (x4 + 1)
        · refine y_iload (n := 82) C dX6_sees_80 4 rfl rfl ?_
          refine y_iload_n (n := 83) C dX6_sees_82 1 rfl rfl ?_
          refine y_icmp_eq (tgt := 127) (n := 86) C dX6_sees_83 (by decide) rfl (fun h9 => ?_) (fun h9 => ?_)
          · refine y_iinc (n := 130) (v := x4 + 1) (ls' := [(4, .int (x4 + 1)), (0, .ref (E.2.2.2.2.1 + o)), (1, .int x1), (2, .int x2), (3, .int x3)]) C dX6_sees_127 4 rfl rfl (by decide) rfl rfl ?_
            refine y_goto (tgt := 57) C dX6_sees_130 (by decide) ?_
            refine y_ls [1, 2, 3, 4, 0] rfl ?_
            exact ih w x1 x2 x3 (x4 + 1)
          · refine y_aload_n (n := 87) C dX6_sees_86 0 rfl rfl ?_
            refine y_iload (n := 89) C dX6_sees_87 4 rfl rfl ?_
            refine y_cp (n := 92) C (fun r hr H locs la hP hS hl => y_runV (ci := 6) (st := []) C ky_X6_isAsked wd_889 ⟨Nat.le_of_ble_eq_true rfl, Nat.le_of_ble_eq_true rfl⟩ hO.1 rfl (mX6_isAsked hO w x4 g.2.1 r hr) rfl (Nat.le_of_ble_eq_true rfl) rfl dX6_sees_89 hP hS hl) rfl (fun v10 hv10 => ?_)
            refine y_if_eq (tgt := 127) (n := 95) C dX6_sees_92 (by decide) rfl (fun h11 => ?_) (fun h11 => ?_)
            · refine y_iinc (n := 130) (v := x4 + 1) (ls' := [(4, .int (x4 + 1)), (0, .ref (E.2.2.2.2.1 + o)), (1, .int x1), (2, .int x2), (3, .int x3)]) C dX6_sees_127 4 rfl rfl (by decide) rfl rfl ?_
              refine y_goto (tgt := 57) C dX6_sees_130 (by decide) ?_
              refine y_ls [1, 2, 3, 4, 0] rfl ?_
              exact ih w x1 x2 x3 (x4 + 1)
            · refine y_aload_n (n := 96) C dX6_sees_95 0 rfl rfl ?_
              refine y_get (ci := 6) (f := 0) (n := 99) C in_X6 hO.1 rfl (by decide) wd_731 rfl rfl dX6_sees_96 rfl ?_
              refine y_sipush (n := 102) C (580 : Int32) dX6_sees_99 (by decide) rfl ?_
              refine y_iload (n := 104) C dX6_sees_102 4 rfl rfl ?_
              refine y_iadd (n := 105) C dX6_sees_104 rfl ?_
              refine y_dup2 (n := 106) C dX6_sees_105 rfl rfl rfl ?_
              refine y_iald (n := 107) C hO.2.1 dX6_sees_106 rfl (fun v12 hv12 => ?_)
              refine y_iconst (n := 108) C (1 : Int32) dX6_sees_107 (by decide) rfl ?_
              refine y_iadd (n := 109) C dX6_sees_108 rfl ?_
              refine y_iast (n := 110) C hO.2.1 dX6_sees_109 rfl (fun w13 hw13 => ?_)
              refine y_aload_n (n := 111) C dX6_sees_110 0 rfl rfl ?_
              refine y_get (ci := 6) (f := 0) (n := 114) C in_X6 hO.1 rfl (by decide) wd_731 rfl rfl dX6_sees_111 rfl ?_
              refine y_sipush (n := 117) C (646 : Int32) dX6_sees_114 (by decide) rfl ?_
              refine y_iload_n (n := 118) C dX6_sees_117 2 rfl rfl ?_
              refine y_iadd (n := 119) C dX6_sees_118 rfl ?_
              refine y_dup2 (n := 120) C dX6_sees_119 rfl rfl rfl ?_
              refine y_iald (n := 121) C hO.2.1 dX6_sees_120 rfl (fun v14 hv14 => ?_)
              refine y_iconst (n := 122) C (1 : Int32) dX6_sees_121 (by decide) rfl ?_
              refine y_iload (n := 124) C dX6_sees_122 4 rfl rfl ?_
              refine y_ishl (n := 125) C dX6_sees_124 rfl ?_
              refine y_ior (n := 126) C dX6_sees_125 rfl ?_
              refine y_iast (n := 127) C hO.2.1 dX6_sees_126 rfl (fun w15 hw15 => ?_)
              refine y_iinc (n := 130) (v := x4 + 1) (ls' := [(4, .int (x4 + 1)), (0, .ref (E.2.2.2.2.1 + o)), (1, .int x1), (2, .int x2), (3, .int x3)]) C dX6_sees_127 4 rfl rfl (by decide) rfl rfl ?_
              refine y_goto (tgt := 57) C dX6_sees_130 (by decide) ?_
              refine y_ls [1, 2, 3, 4, 0] rfl ?_
              exact ih w15 x1 x2 x3 (x4 + 1)
def fX6_sees (w : Wd) (o : Nat) (a1 : Int32) (a2 : Int32) : Option (Wd) :=
  (fX6_isSeen w o a2).bind fun v1 =>
  if v1 = 0 then
    (ldI 706 w (o + 1) (646 + a2)).bind fun v16 =>
    (stI 706 w (o + 1) (646 + a2) (v16 ||| (1 <<< (a1 &&& 31)))).bind fun w17 =>
    (ldI 706 w17 (o + 1) 564).bind fun v18 =>
    (stI 706 w17 (o + 1) (586 + a2) (v18 + 1)).bind fun w19 =>
    lX6_sees_57 o 4096 w19 a1 a2 1 0
  else
    (ldI 706 w (o + 1) (646 + a2)).bind fun v3 =>
    (stI 706 w (o + 1) (646 + a2) (v3 ||| (1 <<< (a1 &&& 31)))).bind fun w4 =>
    lX6_sees_57 o 4096 w4 a1 a2 0 0
set_option maxRecDepth 4000 in
theorem eX6_sees {g : Gx} {E : Ex} (C : CC g E cX6_sees 5 RX6 1 21) (hR : RT g none) {o : Nat} (hO : shM E.2.2.2.2.2.1 o) (w : Wd) (a1 : Int32) (a2 : Int32) : YO g E 5 (QV g E) (fX6_sees w o a1 a2) w 0 [(0, .ref (E.2.2.2.2.1 + o)), (1, .int a1), (2, .int a2)] [] := by
  unfold fX6_sees
  refine y_aload_n (n := 1) C dX6_sees_0 0 rfl rfl ?_
  refine y_iload_n (n := 2) C dX6_sees_1 2 rfl rfl ?_
  refine y_cp (n := 5) C (fun r hr H locs la hP hS hl => y_runV (ci := 6) (st := []) C ky_X6_isSeen wd_913 ⟨Nat.le_of_ble_eq_true rfl, Nat.le_of_ble_eq_true rfl⟩ hO.1 rfl (mX6_isSeen hO w a2 g.2.1 r hr) rfl (Nat.le_of_ble_eq_true rfl) rfl dX6_sees_2 hP hS hl) rfl (fun v1 hv1 => ?_)
  refine y_if_ne (tgt := 12) (n := 8) C dX6_sees_5 (by decide) rfl (fun h2 => ?_) (fun h2 => ?_)
  · refine y_iconst (n := 13) C (0 : Int32) dX6_sees_12 (by decide) rfl ?_
    refine y_istore_n (n := 14) (ls' := [(3, .int 0), (0, .ref (E.2.2.2.2.1 + o)), (1, .int a1), (2, .int a2)]) C dX6_sees_13 (by decide) rfl rfl ?_
    refine y_aload_n (n := 15) C dX6_sees_14 1 rfl rfl ?_
    refine y_get (ci := 6) (f := 0) (n := 18) C in_X6 hO.1 rfl (by decide) wd_731 rfl rfl dX6_sees_15 rfl ?_
    refine y_sipush (n := 21) C (646 : Int32) dX6_sees_18 (by decide) rfl ?_
    refine y_iload_n (n := 22) C dX6_sees_21 3 rfl rfl ?_
    refine y_iadd (n := 23) C dX6_sees_22 rfl ?_
    refine y_dup2 (n := 24) C dX6_sees_23 rfl rfl rfl ?_
    refine y_iald (n := 25) C hO.2.1 dX6_sees_24 rfl (fun v3 hv3 => ?_)
    refine y_iconst (n := 26) C (1 : Int32) dX6_sees_25 (by decide) rfl ?_
    refine y_iload_n (n := 27) C dX6_sees_26 2 rfl rfl ?_
    refine y_ishl (n := 28) C dX6_sees_27 rfl ?_
    refine y_ior (n := 29) C dX6_sees_28 rfl ?_
    refine y_iast (n := 30) C hO.2.1 dX6_sees_29 rfl (fun w4 hw4 => ?_)
    refine y_iload_n (n := 31) C dX6_sees_30 0 rfl rfl ?_
    refine y_if_eq_T (tgt := 54) C dX6_sees_31 (by decide) (by decide) ?_
    refine y_iconst (n := 55) C (0 : Int32) dX6_sees_54 (by decide) rfl ?_
    refine y_istore (n := 57) (ls' := [(4, .int 0), (3, .int 0), (0, .ref (E.2.2.2.2.1 + o)), (1, .int a1), (2, .int a2)]) C dX6_sees_55 (by decide) rfl rfl ?_
    refine y_ls [2, 3, 4, 1, 0] rfl ?_
    exact clX6_sees_57 C hR hO 4096 w4 a1 a2 0 0
  · refine y_iconst (n := 9) C (1 : Int32) dX6_sees_8 (by decide) rfl ?_
    refine y_goto (tgt := 13) C dX6_sees_9 (by decide) ?_
    refine y_istore_n (n := 14) (ls' := [(3, .int 1), (0, .ref (E.2.2.2.2.1 + o)), (1, .int a1), (2, .int a2)]) C dX6_sees_13 (by decide) rfl rfl ?_
    refine y_aload_n (n := 15) C dX6_sees_14 1 rfl rfl ?_
    refine y_get (ci := 6) (f := 0) (n := 18) C in_X6 hO.1 rfl (by decide) wd_731 rfl rfl dX6_sees_15 rfl ?_
    refine y_sipush (n := 21) C (646 : Int32) dX6_sees_18 (by decide) rfl ?_
    refine y_iload_n (n := 22) C dX6_sees_21 3 rfl rfl ?_
    refine y_iadd (n := 23) C dX6_sees_22 rfl ?_
    refine y_dup2 (n := 24) C dX6_sees_23 rfl rfl rfl ?_
    refine y_iald (n := 25) C hO.2.1 dX6_sees_24 rfl (fun v16 hv16 => ?_)
    refine y_iconst (n := 26) C (1 : Int32) dX6_sees_25 (by decide) rfl ?_
    refine y_iload_n (n := 27) C dX6_sees_26 2 rfl rfl ?_
    refine y_ishl (n := 28) C dX6_sees_27 rfl ?_
    refine y_ior (n := 29) C dX6_sees_28 rfl ?_
    refine y_iast (n := 30) C hO.2.1 dX6_sees_29 rfl (fun w17 hw17 => ?_)
    refine y_iload_n (n := 31) C dX6_sees_30 0 rfl rfl ?_
    refine y_if_eq_F (tgt := 54) (n := 34) C dX6_sees_31 (by decide) rfl (by decide) ?_
    refine y_aload_n (n := 35) C dX6_sees_34 1 rfl rfl ?_
    refine y_get (ci := 6) (f := 0) (n := 38) C in_X6 hO.1 rfl (by decide) wd_731 rfl rfl dX6_sees_35 rfl ?_
    refine y_sipush (n := 41) C (586 : Int32) dX6_sees_38 (by decide) rfl ?_
    refine y_iload_n (n := 42) C dX6_sees_41 3 rfl rfl ?_
    refine y_iadd (n := 43) C dX6_sees_42 rfl ?_
    refine y_aload_n (n := 44) C dX6_sees_43 1 rfl rfl ?_
    refine y_get (ci := 6) (f := 0) (n := 47) C in_X6 hO.1 rfl (by decide) wd_731 rfl rfl dX6_sees_44 rfl ?_
    refine y_sipush (n := 50) C (564 : Int32) dX6_sees_47 (by decide) rfl ?_
    refine y_iald (n := 51) C hO.2.1 dX6_sees_50 rfl (fun v18 hv18 => ?_)
    refine y_iconst (n := 52) C (1 : Int32) dX6_sees_51 (by decide) rfl ?_
    refine y_iadd (n := 53) C dX6_sees_52 rfl ?_
    refine y_iast (n := 54) C hO.2.1 dX6_sees_53 rfl (fun w19 hw19 => ?_)
    refine y_iconst (n := 55) C (0 : Int32) dX6_sees_54 (by decide) rfl ?_
    refine y_istore (n := 57) (ls' := [(4, .int 0), (3, .int 1), (0, .ref (E.2.2.2.2.1 + o)), (1, .int a1), (2, .int a2)]) C dX6_sees_55 (by decide) rfl rfl ?_
    refine y_ls [2, 3, 4, 1, 0] rfl ?_
    exact clX6_sees_57 C hR hO 4096 w19 a1 a2 1 0
theorem mX6_sees {E : Ex} {o : Nat} (hO : shM E.2.2.2.2.2.1 o) (w : Wd) (a1 : Int32) (a2 : Int32) (l : Launch) : MV l yX6_sees cX6_sees 5 none { frames := 1, cells := 0, slots := 0, locals := 21 } E [.ref (E.2.2.2.2.1 + o), .int a1, .int a2] w (fX6_sees w o a1 a2) :=
  y_met (Qc := yQv E) (by decide +kernel) (Nat.le_of_ble_eq_true rfl) (fun g C hR => eX6_sees C hR hO w a1 a2) l
def bX6_oneStep_64 (w : Wd) (o : Nat) (x1 : Int32) (x2 : Int32) : Option (Wd) :=
  (ldI 706 w (o + 1) (568 + x1)).bind fun v7 =>
  (stI 706 w (o + 1) (568 + x1) (v7 + 1)).bind fun w8 =>
  (stI 706 w8 (o + 1) 563 x1).bind fun w9 =>
  (ldI 706 w9 (o + 1) (498 + x2)).bind fun v10 =>
  if v10 = 1 then
    (ldI 706 w9 (o + 1) 565).bind fun v20 =>
    (stI 706 w9 (o + 1) 565 (v20 + 1)).bind fun w21 =>
    (ldI 706 w21 (o + 1) 564).bind fun v22 =>
    (stI 706 w21 (o + 1) 564 (v22 + 1)).bind fun w23 =>
    ob2 (fX6_isOver w23 o) fun v24 w25 =>
    if v24 = 0 then
      (stI 706 w25 (o + 1) 562 0).bind fun w27 =>
      some w27
    else
      (stI 706 w25 (o + 1) 562 1).bind fun w28 =>
      some w28
  else
    (fX6_sees w9 o x1 x2).bind fun w12 =>
    (ldI 706 w12 (o + 1) 564).bind fun v13 =>
    (stI 706 w12 (o + 1) 564 (v13 + 1)).bind fun w14 =>
    ob2 (fX6_isOver w14 o) fun v15 w16 =>
    if v15 = 0 then
      (stI 706 w16 (o + 1) 562 0).bind fun w18 =>
      some w18
    else
      (stI 706 w16 (o + 1) 562 1).bind fun w19 =>
      some w19
set_option maxRecDepth 4000 in
theorem cbX6_oneStep_64 {g : Gx} {E : Ex} (C : CC g E cX6_oneStep 3 RX6 5 117) (hR : RT g none) {o : Nat} (hO : shM E.2.2.2.2.2.1 o) (w : Wd) (x1 : Int32) (x2 : Int32) : YO g E 3 (QV g E) (bX6_oneStep_64 w o x1 x2) w 64 [(0, .ref (E.2.2.2.2.1 + o)), (1, .int x1), (2, .int x2)] [] := by
  unfold bX6_oneStep_64
  refine y_aload_n (n := 65) C dX6_oneStep_64 0 rfl rfl ?_
  refine y_get (ci := 6) (f := 0) (n := 68) C in_X6 hO.1 rfl (by decide) wd_731 rfl rfl dX6_oneStep_65 rfl ?_
  refine y_sipush (n := 71) C (568 : Int32) dX6_oneStep_68 (by decide) rfl ?_
  refine y_iload_n (n := 72) C dX6_oneStep_71 1 rfl rfl ?_
  refine y_iadd (n := 73) C dX6_oneStep_72 rfl ?_
  refine y_dup2 (n := 74) C dX6_oneStep_73 rfl rfl rfl ?_
  refine y_iald (n := 75) C hO.2.1 dX6_oneStep_74 rfl (fun v7 hv7 => ?_)
  refine y_iconst (n := 76) C (1 : Int32) dX6_oneStep_75 (by decide) rfl ?_
  refine y_iadd (n := 77) C dX6_oneStep_76 rfl ?_
  refine y_iast (n := 78) C hO.2.1 dX6_oneStep_77 rfl (fun w8 hw8 => ?_)
  refine y_aload_n (n := 79) C dX6_oneStep_78 0 rfl rfl ?_
  refine y_get (ci := 6) (f := 0) (n := 82) C in_X6 hO.1 rfl (by decide) wd_731 rfl rfl dX6_oneStep_79 rfl ?_
  refine y_sipush (n := 85) C (563 : Int32) dX6_oneStep_82 (by decide) rfl ?_
  refine y_iload_n (n := 86) C dX6_oneStep_85 1 rfl rfl ?_
  refine y_iast (n := 87) C hO.2.1 dX6_oneStep_86 rfl (fun w9 hw9 => ?_)
  refine y_aload_n (n := 88) C dX6_oneStep_87 0 rfl rfl ?_
  refine y_get (ci := 6) (f := 0) (n := 91) C in_X6 hO.1 rfl (by decide) wd_731 rfl rfl dX6_oneStep_88 rfl ?_
  refine y_sipush (n := 94) C (498 : Int32) dX6_oneStep_91 (by decide) rfl ?_
  refine y_iload_n (n := 95) C dX6_oneStep_94 2 rfl rfl ?_
  refine y_iadd (n := 96) C dX6_oneStep_95 rfl ?_
  refine y_iald (n := 97) C hO.2.1 dX6_oneStep_96 rfl (fun v10 hv10 => ?_)
  refine y_iconst (n := 98) C (1 : Int32) dX6_oneStep_97 (by decide) rfl ?_
  refine y_icmp_ne (tgt := 116) (n := 101) C dX6_oneStep_98 (by decide) rfl (fun h11 => ?_) (fun h11 => ?_)
  · refine y_aload_n (n := 117) C dX6_oneStep_116 0 rfl rfl ?_
    refine y_iload_n (n := 118) C dX6_oneStep_117 1 rfl rfl ?_
    refine y_iload_n (n := 119) C dX6_oneStep_118 2 rfl rfl ?_
    refine y_cv (n := 122) C (fun r hr H locs la hP hS hl => y_runV (ci := 6) (st := []) C ky_X6_sees wd_969 ⟨Nat.le_of_ble_eq_true rfl, Nat.le_of_ble_eq_true rfl⟩ hO.1 rfl (mX6_sees hO w9 x1 x2 g.2.1 r hr) rfl (Nat.le_of_ble_eq_true rfl) rfl dX6_oneStep_119 hP hS hl) rfl (fun w12 hw12 => ?_)
    refine y_aload_n (n := 123) C dX6_oneStep_122 0 rfl rfl ?_
    refine y_get (ci := 6) (f := 0) (n := 126) C in_X6 hO.1 rfl (by decide) wd_731 rfl rfl dX6_oneStep_123 rfl ?_
    refine y_sipush (n := 129) C (564 : Int32) dX6_oneStep_126 (by decide) rfl ?_
    refine y_dup2 (n := 130) C dX6_oneStep_129 rfl rfl rfl ?_
    refine y_iald (n := 131) C hO.2.1 dX6_oneStep_130 rfl (fun v13 hv13 => ?_)
    refine y_iconst (n := 132) C (1 : Int32) dX6_oneStep_131 (by decide) rfl ?_
    refine y_iadd (n := 133) C dX6_oneStep_132 rfl ?_
    refine y_iast (n := 134) C hO.2.1 dX6_oneStep_133 rfl (fun w14 hw14 => ?_)
    refine y_aload_n (n := 135) C dX6_oneStep_134 0 rfl rfl ?_
    refine y_get (ci := 6) (f := 0) (n := 138) C in_X6 hO.1 rfl (by decide) wd_731 rfl rfl dX6_oneStep_135 rfl ?_
    refine y_sipush (n := 141) C (562 : Int32) dX6_oneStep_138 (by decide) rfl ?_
    refine y_aload_n (n := 142) C dX6_oneStep_141 0 rfl rfl ?_
    refine y_ci2 (n := 145) C (fun r hr H locs la hP hS hl => y_runV (ci := 6) (st := [.int 562, .ref (E.2.2.2.2.1 + (o + 1))]) C ky_X6_isOver wd_897 ⟨Nat.le_of_ble_eq_true rfl, Nat.le_of_ble_eq_true rfl⟩ hO.1 rfl (mX6_isOver hO w14 g.2.1 r hr) rfl (Nat.le_of_ble_eq_true rfl) rfl dX6_oneStep_142 hP hS hl) rfl (fun v15 w16 hv15 => ?_)
    refine y_if_eq (tgt := 152) (n := 148) C dX6_oneStep_145 (by decide) rfl (fun h17 => ?_) (fun h17 => ?_)
    · refine y_iconst (n := 153) C (0 : Int32) dX6_oneStep_152 (by decide) rfl ?_
      refine y_iast (n := 154) C hO.2.1 dX6_oneStep_153 rfl (fun w18 hw18 => ?_)
      exact y_rv C hR dX6_oneStep_154
    · refine y_iconst (n := 149) C (1 : Int32) dX6_oneStep_148 (by decide) rfl ?_
      refine y_goto (tgt := 153) C dX6_oneStep_149 (by decide) ?_
      refine y_iast (n := 154) C hO.2.1 dX6_oneStep_153 rfl (fun w19 hw19 => ?_)
      exact y_rv C hR dX6_oneStep_154
  · refine y_aload_n (n := 102) C dX6_oneStep_101 0 rfl rfl ?_
    refine y_get (ci := 6) (f := 0) (n := 105) C in_X6 hO.1 rfl (by decide) wd_731 rfl rfl dX6_oneStep_102 rfl ?_
    refine y_sipush (n := 108) C (565 : Int32) dX6_oneStep_105 (by decide) rfl ?_
    refine y_dup2 (n := 109) C dX6_oneStep_108 rfl rfl rfl ?_
    refine y_iald (n := 110) C hO.2.1 dX6_oneStep_109 rfl (fun v20 hv20 => ?_)
    refine y_iconst (n := 111) C (1 : Int32) dX6_oneStep_110 (by decide) rfl ?_
    refine y_iadd (n := 112) C dX6_oneStep_111 rfl ?_
    refine y_iast (n := 113) C hO.2.1 dX6_oneStep_112 rfl (fun w21 hw21 => ?_)
    refine y_goto (tgt := 122) C dX6_oneStep_113 (by decide) ?_
    refine y_aload_n (n := 123) C dX6_oneStep_122 0 rfl rfl ?_
    refine y_get (ci := 6) (f := 0) (n := 126) C in_X6 hO.1 rfl (by decide) wd_731 rfl rfl dX6_oneStep_123 rfl ?_
    refine y_sipush (n := 129) C (564 : Int32) dX6_oneStep_126 (by decide) rfl ?_
    refine y_dup2 (n := 130) C dX6_oneStep_129 rfl rfl rfl ?_
    refine y_iald (n := 131) C hO.2.1 dX6_oneStep_130 rfl (fun v22 hv22 => ?_)
    refine y_iconst (n := 132) C (1 : Int32) dX6_oneStep_131 (by decide) rfl ?_
    refine y_iadd (n := 133) C dX6_oneStep_132 rfl ?_
    refine y_iast (n := 134) C hO.2.1 dX6_oneStep_133 rfl (fun w23 hw23 => ?_)
    refine y_aload_n (n := 135) C dX6_oneStep_134 0 rfl rfl ?_
    refine y_get (ci := 6) (f := 0) (n := 138) C in_X6 hO.1 rfl (by decide) wd_731 rfl rfl dX6_oneStep_135 rfl ?_
    refine y_sipush (n := 141) C (562 : Int32) dX6_oneStep_138 (by decide) rfl ?_
    refine y_aload_n (n := 142) C dX6_oneStep_141 0 rfl rfl ?_
    refine y_ci2 (n := 145) C (fun r hr H locs la hP hS hl => y_runV (ci := 6) (st := [.int 562, .ref (E.2.2.2.2.1 + (o + 1))]) C ky_X6_isOver wd_897 ⟨Nat.le_of_ble_eq_true rfl, Nat.le_of_ble_eq_true rfl⟩ hO.1 rfl (mX6_isOver hO w23 g.2.1 r hr) rfl (Nat.le_of_ble_eq_true rfl) rfl dX6_oneStep_142 hP hS hl) rfl (fun v24 w25 hv24 => ?_)
    refine y_if_eq (tgt := 152) (n := 148) C dX6_oneStep_145 (by decide) rfl (fun h26 => ?_) (fun h26 => ?_)
    · refine y_iconst (n := 153) C (0 : Int32) dX6_oneStep_152 (by decide) rfl ?_
      refine y_iast (n := 154) C hO.2.1 dX6_oneStep_153 rfl (fun w27 hw27 => ?_)
      exact y_rv C hR dX6_oneStep_154
    · refine y_iconst (n := 149) C (1 : Int32) dX6_oneStep_148 (by decide) rfl ?_
      refine y_goto (tgt := 153) C dX6_oneStep_149 (by decide) ?_
      refine y_iast (n := 154) C hO.2.1 dX6_oneStep_153 rfl (fun w28 hw28 => ?_)
      exact y_rv C hR dX6_oneStep_154
def fX6_oneStep (w : Wd) (o : Nat)  : Option (Wd) :=
  (fX6_nextList w o).bind fun v1 =>
  (ldI 706 w (o + 1) (568 + v1)).bind fun v2 =>
  (ldI 706 w (o + 1) ((0 + (40 * v1)) + v2)).bind fun v3 =>
  (fX6_bound w o v1).bind fun v4 =>
  (fX6_toldBound w o v1).bind fun v5 =>
  if v4 ≤ v5 then
    bX6_oneStep_64 w o v1 v3
  else
    (stI 706 w (o + 1) (574 + v1) 1).bind fun w29 =>
    (ldI 706 w29 (o + 1) 567).bind fun v30 =>
    (stI 706 w29 (o + 1) 567 (v30 + 1)).bind fun w31 =>
    bX6_oneStep_64 w31 o v1 v3
set_option maxRecDepth 4000 in
theorem eX6_oneStep {g : Gx} {E : Ex} (C : CC g E cX6_oneStep 3 RX6 5 117) (hR : RT g none) {o : Nat} (hO : shM E.2.2.2.2.2.1 o) (w : Wd)  : YO g E 3 (QV g E) (fX6_oneStep w o) w 0 [(0, .ref (E.2.2.2.2.1 + o))] [] := by
  unfold fX6_oneStep
  refine y_aload_n (n := 1) C dX6_oneStep_0 0 rfl rfl ?_
  refine y_cp (n := 4) C (fun r hr H locs la hP hS hl => y_runV (ci := 6) (st := []) C ky_X6_nextList wd_961 ⟨Nat.le_of_ble_eq_true rfl, Nat.le_of_ble_eq_true rfl⟩ hO.1 rfl (mX6_nextList hO w g.2.1 r hr) rfl (Nat.le_of_ble_eq_true rfl) rfl dX6_oneStep_1 hP hS hl) rfl (fun v1 hv1 => ?_)
  refine y_istore_n (n := 5) (ls' := [(1, .int v1), (0, .ref (E.2.2.2.2.1 + o))]) C dX6_oneStep_4 (by decide) rfl rfl ?_
  refine y_aload_n (n := 6) C dX6_oneStep_5 1 rfl rfl ?_
  refine y_get (ci := 6) (f := 0) (n := 9) C in_X6 hO.1 rfl (by decide) wd_731 rfl rfl dX6_oneStep_6 rfl ?_
  refine y_iconst (n := 10) C (0 : Int32) dX6_oneStep_9 (by decide) rfl ?_
  refine y_bipush (n := 12) C (40 : Int32) dX6_oneStep_10 (by decide) rfl ?_
  refine y_iload_n (n := 13) C dX6_oneStep_12 0 rfl rfl ?_
  refine y_imul (n := 14) C dX6_oneStep_13 rfl ?_
  refine y_iadd (n := 15) C dX6_oneStep_14 rfl ?_
  refine y_aload_n (n := 16) C dX6_oneStep_15 1 rfl rfl ?_
  refine y_get (ci := 6) (f := 0) (n := 19) C in_X6 hO.1 rfl (by decide) wd_731 rfl rfl dX6_oneStep_16 rfl ?_
  refine y_sipush (n := 22) C (568 : Int32) dX6_oneStep_19 (by decide) rfl ?_
  refine y_iload_n (n := 23) C dX6_oneStep_22 0 rfl rfl ?_
  refine y_iadd (n := 24) C dX6_oneStep_23 rfl ?_
  refine y_iald (n := 25) C hO.2.1 dX6_oneStep_24 rfl (fun v2 hv2 => ?_)
  refine y_iadd (n := 26) C dX6_oneStep_25 rfl ?_
  refine y_iald (n := 27) C hO.2.1 dX6_oneStep_26 rfl (fun v3 hv3 => ?_)
  refine y_istore_n (n := 28) (ls' := [(2, .int v3), (1, .int v1), (0, .ref (E.2.2.2.2.1 + o))]) C dX6_oneStep_27 (by decide) rfl rfl ?_
  refine y_aload_n (n := 29) C dX6_oneStep_28 2 rfl rfl ?_
  refine y_iload_n (n := 30) C dX6_oneStep_29 1 rfl rfl ?_
  refine y_cp (n := 33) C (fun r hr H locs la hP hS hl => y_runV (ci := 6) (st := []) C ky_X6_bound wd_945 ⟨Nat.le_of_ble_eq_true rfl, Nat.le_of_ble_eq_true rfl⟩ hO.1 rfl (mX6_bound hO w v1 g.2.1 r hr) rfl (Nat.le_of_ble_eq_true rfl) rfl dX6_oneStep_30 hP hS hl) rfl (fun v4 hv4 => ?_)
  refine y_aload_n (n := 34) C dX6_oneStep_33 2 rfl rfl ?_
  refine y_iload_n (n := 35) C dX6_oneStep_34 1 rfl rfl ?_
  refine y_cp (n := 38) C (fun r hr H locs la hP hS hl => y_runV (ci := 6) (st := [.int v4]) C ky_X6_toldBound wd_941 ⟨Nat.le_of_ble_eq_true rfl, Nat.le_of_ble_eq_true rfl⟩ hO.1 rfl (mX6_toldBound hO w v1 g.2.1 r hr) rfl (Nat.le_of_ble_eq_true rfl) rfl dX6_oneStep_35 hP hS hl) rfl (fun v5 hv5 => ?_)
  refine y_icmp_le (tgt := 64) (n := 41) C dX6_oneStep_38 (by decide) rfl (fun h6 => ?_) (fun h6 => ?_)
  · refine y_ls [2, 1, 0] rfl ?_
    exact cbX6_oneStep_64 C hR hO w v1 v3
  · refine y_aload_n (n := 42) C dX6_oneStep_41 2 rfl rfl ?_
    refine y_get (ci := 6) (f := 0) (n := 45) C in_X6 hO.1 rfl (by decide) wd_731 rfl rfl dX6_oneStep_42 rfl ?_
    refine y_sipush (n := 48) C (574 : Int32) dX6_oneStep_45 (by decide) rfl ?_
    refine y_iload_n (n := 49) C dX6_oneStep_48 1 rfl rfl ?_
    refine y_iadd (n := 50) C dX6_oneStep_49 rfl ?_
    refine y_iconst (n := 51) C (1 : Int32) dX6_oneStep_50 (by decide) rfl ?_
    refine y_iast (n := 52) C hO.2.1 dX6_oneStep_51 rfl (fun w29 hw29 => ?_)
    refine y_aload_n (n := 53) C dX6_oneStep_52 2 rfl rfl ?_
    refine y_get (ci := 6) (f := 0) (n := 56) C in_X6 hO.1 rfl (by decide) wd_731 rfl rfl dX6_oneStep_53 rfl ?_
    refine y_sipush (n := 59) C (567 : Int32) dX6_oneStep_56 (by decide) rfl ?_
    refine y_dup2 (n := 60) C dX6_oneStep_59 rfl rfl rfl ?_
    refine y_iald (n := 61) C hO.2.1 dX6_oneStep_60 rfl (fun v30 hv30 => ?_)
    refine y_iconst (n := 62) C (1 : Int32) dX6_oneStep_61 (by decide) rfl ?_
    refine y_iadd (n := 63) C dX6_oneStep_62 rfl ?_
    refine y_iast (n := 64) C hO.2.1 dX6_oneStep_63 rfl (fun w31 hw31 => ?_)
    refine y_ls [2, 1, 0] rfl ?_
    exact cbX6_oneStep_64 C hR hO w31 v1 v3
theorem mX6_oneStep {E : Ex} {o : Nat} (hO : shM E.2.2.2.2.2.1 o) (w : Wd)  (l : Launch) : MV l yX6_oneStep cX6_oneStep 3 none { frames := 5, cells := 0, slots := 0, locals := 117 } E [.ref (E.2.2.2.2.1 + o)] w (fX6_oneStep w o) :=
  y_met (Qc := yQv E) (by decide +kernel) (Nat.le_of_ble_eq_true rfl) (fun g C hR => eX6_oneStep C hR hO w ) l
def lX6_value_4 (o : Nat) : Nat → Wd → Int32 → Int32 → Int32 → Option (Int32)
  | 0, _, _, _, _ => none
  | n + 1, w, x1, x2, x3 =>
    if 6 ≤ x3 then
      some x2
    else
      (ldI 706 w (o + 1) (486 + x3)).bind fun v2 =>
      (fX6_scoreOf w o x3 x1).bind fun v3 =>
      lX6_value_4 o n w x1 (x2 + (v2 * v3)) (x3 + 1)
set_option maxRecDepth 4000 in
theorem clX6_value_4 {g : Gx} {E : Ex} (C : CC g E cX6_value 4 RX6 2 47) (hR : RT g (some .int)) {o : Nat} (hO : shM E.2.2.2.2.2.1 o) (w : Wd) : ∀ (n : Nat) (x1 : Int32) (x2 : Int32) (x3 : Int32), YO g E 4 (QP g E w) (lX6_value_4 o n w x1 x2 x3) w 4 [(0, .ref (E.2.2.2.2.1 + o)), (1, .int x1), (2, .int x2), (3, .int x3)] [] := by
  intro n
  induction n with
  | zero => intro x1 x2 x3; exact y_no
  | succ n ih =>
    intro x1 x2 x3
    rw [lX6_value_4]
    refine y_iload_n (n := 5) C dX6_value_4 3 rfl rfl ?_
    refine y_bipush (n := 7) C (6 : Int32) dX6_value_5 (by decide) rfl ?_
    refine y_icmp_ge (tgt := 36) (n := 10) C dX6_value_7 (by decide) rfl (fun h1 => ?_) (fun h1 => ?_)
    · refine y_iload_n (n := 37) C dX6_value_36 2 rfl rfl ?_
      exact y_rp C hR dX6_value_37
    · refine y_iload_n (n := 11) C dX6_value_10 2 rfl rfl ?_
      refine y_aload_n (n := 12) C dX6_value_11 0 rfl rfl ?_
      refine y_get (ci := 6) (f := 0) (n := 15) C in_X6 hO.1 rfl (by decide) wd_731 rfl rfl dX6_value_12 rfl ?_
      refine y_sipush (n := 18) C (486 : Int32) dX6_value_15 (by decide) rfl ?_
      refine y_iload_n (n := 19) C dX6_value_18 3 rfl rfl ?_
      refine y_iadd (n := 20) C dX6_value_19 rfl ?_
      refine y_iald (n := 21) C hO.2.1 dX6_value_20 rfl (fun v2 hv2 => ?_)
      refine y_aload_n (n := 22) C dX6_value_21 0 rfl rfl ?_
      refine y_iload_n (n := 23) C dX6_value_22 3 rfl rfl ?_
      refine y_iload_n (n := 24) C dX6_value_23 1 rfl rfl ?_
      refine y_cp (n := 27) C (fun r hr H locs la hP hS hl => y_runV (ci := 6) (st := [.int v2, .int x2]) C ky_X6_scoreOf wd_865 ⟨Nat.le_of_ble_eq_true rfl, Nat.le_of_ble_eq_true rfl⟩ hO.1 rfl (mX6_scoreOf hO w x3 x1 g.2.1 r hr) rfl (Nat.le_of_ble_eq_true rfl) rfl dX6_value_24 hP hS hl) rfl (fun v3 hv3 => ?_)
      refine y_imul (n := 28) C dX6_value_27 rfl ?_
      refine y_iadd (n := 29) C dX6_value_28 rfl ?_
      refine y_istore_n (n := 30) (ls' := [(2, .int (x2 + (v2 * v3))), (0, .ref (E.2.2.2.2.1 + o)), (1, .int x1), (3, .int x3)]) C dX6_value_29 (by decide) rfl rfl ?_
      refine y_iinc (n := 33) (v := x3 + 1) (ls' := [(3, .int (x3 + 1)), (2, .int (x2 + (v2 * v3))), (0, .ref (E.2.2.2.2.1 + o)), (1, .int x1)]) C dX6_value_30 3 rfl rfl (by decide) rfl rfl ?_
      refine y_goto (tgt := 4) C dX6_value_33 (by decide) ?_
      refine y_ls [2, 3, 1, 0] rfl ?_
      exact ih x1 (x2 + (v2 * v3)) (x3 + 1)
def fX6_value (w : Wd) (o : Nat) (a1 : Int32) : Option (Int32) :=
  lX6_value_4 o 4096 w a1 0 0
set_option maxRecDepth 4000 in
theorem eX6_value {g : Gx} {E : Ex} (C : CC g E cX6_value 4 RX6 2 47) (hR : RT g (some .int)) {o : Nat} (hO : shM E.2.2.2.2.2.1 o) (w : Wd) (a1 : Int32) : YO g E 4 (QP g E w) (fX6_value w o a1) w 0 [(0, .ref (E.2.2.2.2.1 + o)), (1, .int a1)] [] := by
  unfold fX6_value
  refine y_iconst (n := 1) C (0 : Int32) dX6_value_0 (by decide) rfl ?_
  refine y_istore_n (n := 2) (ls' := [(2, .int 0), (0, .ref (E.2.2.2.2.1 + o)), (1, .int a1)]) C dX6_value_1 (by decide) rfl rfl ?_
  refine y_iconst (n := 3) C (0 : Int32) dX6_value_2 (by decide) rfl ?_
  refine y_istore_n (n := 4) (ls' := [(3, .int 0), (2, .int 0), (0, .ref (E.2.2.2.2.1 + o)), (1, .int a1)]) C dX6_value_3 (by decide) rfl rfl ?_
  refine y_ls [2, 3, 1, 0] rfl ?_
  exact clX6_value_4 C hR hO w 4096 a1 0 0
theorem mX6_value {E : Ex} {o : Nat} (hO : shM E.2.2.2.2.2.1 o) (w : Wd) (a1 : Int32) (l : Launch) : MP l yX6_value cX6_value 4 (some .int) { frames := 2, cells := 0, slots := 0, locals := 47 } E [.ref (E.2.2.2.2.1 + o), .int a1] w (fX6_value w o a1) :=
  y_met (Qc := fun r => yQi E (r, w)) (by decide +kernel) (Nat.le_of_ble_eq_true rfl) (fun g C hR => eX6_value C hR hO w a1) l
def fX6_mayBeWanted (w : Wd) (o : Nat) (a1 : Int32) : Option (Int32) :=
  (ldI 706 w (o + 1) (498 + a1)).bind fun v1 =>
  if v1 = 0 then
    (fX6_value w o a1).bind fun v3 =>
    if v3 ≤ 0 then
      rtZ 0
    else
      rtZ 1
  else
    rtZ 0
set_option maxRecDepth 4000 in
theorem eX6_mayBeWanted {g : Gx} {E : Ex} (C : CC g E cX6_mayBeWanted 2 RX6 3 70) (hR : RT g (some .boolean)) {o : Nat} (hO : shM E.2.2.2.2.2.1 o) (w : Wd) (a1 : Int32) : YO g E 2 (QP g E w) (fX6_mayBeWanted w o a1) w 0 [(0, .ref (E.2.2.2.2.1 + o)), (1, .int a1)] [] := by
  unfold fX6_mayBeWanted
  refine y_aload_n (n := 1) C dX6_mayBeWanted_0 0 rfl rfl ?_
  refine y_get (ci := 6) (f := 0) (n := 4) C in_X6 hO.1 rfl (by decide) wd_731 rfl rfl dX6_mayBeWanted_1 rfl ?_
  refine y_sipush (n := 7) C (498 : Int32) dX6_mayBeWanted_4 (by decide) rfl ?_
  refine y_iload_n (n := 8) C dX6_mayBeWanted_7 1 rfl rfl ?_
  refine y_iadd (n := 9) C dX6_mayBeWanted_8 rfl ?_
  refine y_iald (n := 10) C hO.2.1 dX6_mayBeWanted_9 rfl (fun v1 hv1 => ?_)
  refine y_if_ne (tgt := 25) (n := 13) C dX6_mayBeWanted_10 (by decide) rfl (fun h2 => ?_) (fun h2 => ?_)
  · refine y_iconst (n := 26) C (0 : Int32) dX6_mayBeWanted_25 (by decide) rfl ?_
    exact y_rz C hR dX6_mayBeWanted_26
  · refine y_aload_n (n := 14) C dX6_mayBeWanted_13 0 rfl rfl ?_
    refine y_iload_n (n := 15) C dX6_mayBeWanted_14 1 rfl rfl ?_
    refine y_cp (n := 18) C (fun r hr H locs la hP hS hl => y_runV (ci := 6) (st := []) C ky_X6_value wd_861 ⟨Nat.le_of_ble_eq_true rfl, Nat.le_of_ble_eq_true rfl⟩ hO.1 rfl (mX6_value hO w a1 g.2.1 r hr) rfl (Nat.le_of_ble_eq_true rfl) rfl dX6_mayBeWanted_15 hP hS hl) rfl (fun v3 hv3 => ?_)
    refine y_if_le (tgt := 25) (n := 21) C dX6_mayBeWanted_18 (by decide) rfl (fun h4 => ?_) (fun h4 => ?_)
    · refine y_iconst (n := 26) C (0 : Int32) dX6_mayBeWanted_25 (by decide) rfl ?_
      exact y_rz C hR dX6_mayBeWanted_26
    · refine y_iconst (n := 22) C (1 : Int32) dX6_mayBeWanted_21 (by decide) rfl ?_
      refine y_goto (tgt := 26) C dX6_mayBeWanted_22 (by decide) ?_
      exact y_rz C hR dX6_mayBeWanted_26
theorem mX6_mayBeWanted {E : Ex} {o : Nat} (hO : shM E.2.2.2.2.2.1 o) (w : Wd) (a1 : Int32) (l : Launch) : MP l yX6_mayBeWanted cX6_mayBeWanted 2 (some .boolean) { frames := 3, cells := 0, slots := 0, locals := 70 } E [.ref (E.2.2.2.2.1 + o), .int a1] w (fX6_mayBeWanted w o a1) :=
  y_met (Qc := fun r => yQi E (r, w)) (by decide +kernel) (Nat.le_of_ble_eq_true rfl) (fun g C hR => eX6_mayBeWanted C hR hO w a1) l
def lX6_wantedPlace_21 (o : Nat) : Nat → Wd → Int32 → Int32 → Int32 → Int32 → Option (Int32)
  | 0, _, _, _, _, _ => none
  | n + 1, w, x1, x2, x3, x4 =>
    if 60 ≤ x4 then
      (ldI 706 w (o + 1) 558).bind fun v5 =>
      if v5 ≤ x3 then
        some (-1)
      else
        some x3
    else
      (fX6_mayBeWanted w o x4).bind fun v7 =>
      if v7 = 0 then
        lX6_wantedPlace_21 o n w x1 x2 x3 (x4 + 1)
      else
        (fX6_value w o x4).bind fun v9 =>
        if x2 < v9 then
          lX6_wantedPlace_21 o n w x1 x2 (x3 + 1) (x4 + 1)
        else
          if v9 = x2 then
            if x1 ≤ x4 then
              lX6_wantedPlace_21 o n w x1 x2 (x3 + 0) (x4 + 1)
            else
              lX6_wantedPlace_21 o n w x1 x2 (x3 + 1) (x4 + 1)
          else
            lX6_wantedPlace_21 o n w x1 x2 (x3 + 0) (x4 + 1)
set_option maxRecDepth 4000 in
theorem clX6_wantedPlace_21 {g : Gx} {E : Ex} (C : CC g E cX6_wantedPlace 6 RX6 4 91) (hR : RT g (some .int)) {o : Nat} (hO : shM E.2.2.2.2.2.1 o) (w : Wd) : ∀ (n : Nat) (x1 : Int32) (x2 : Int32) (x3 : Int32) (x4 : Int32), YO g E 6 (QP g E w) (lX6_wantedPlace_21 o n w x1 x2 x3 x4) w 21 [(0, .ref (E.2.2.2.2.1 + o)), (1, .int x1), (2, .int x2), (3, .int x3), (4, .int x4)] [] := by
  intro n
  induction n with
  | zero => intro x1 x2 x3 x4; exact y_no
  | succ n ih =>
    intro x1 x2 x3 x4
    rw [lX6_wantedPlace_21]
    refine y_iload (n := 23) C dX6_wantedPlace_21 4 rfl rfl ?_
    refine y_bipush (n := 25) C (60 : Int32) dX6_wantedPlace_23 (by decide) rfl ?_
    refine y_icmp_ge (tgt := 77) (n := 28) C dX6_wantedPlace_25 (by decide) rfl (fun h4 => ?_) (fun h4 => ?_)
    · refine y_iload_n (n := 78) C dX6_wantedPlace_77 3 rfl rfl ?_
      refine y_aload_n (n := 79) C dX6_wantedPlace_78 0 rfl rfl ?_
      refine y_get (ci := 6) (f := 0) (n := 82) C in_X6 hO.1 rfl (by decide) wd_731 rfl rfl dX6_wantedPlace_79 rfl ?_
      refine y_sipush (n := 85) C (558 : Int32) dX6_wantedPlace_82 (by decide) rfl ?_
      refine y_iald (n := 86) C hO.2.1 dX6_wantedPlace_85 rfl (fun v5 hv5 => ?_)
      refine y_icmp_ge (tgt := 93) (n := 89) C dX6_wantedPlace_86 (by decide) rfl (fun h6 => ?_) (fun h6 => ?_)
      · refine y_iconst (n := 94) C ((-1) : Int32) dX6_wantedPlace_93 (by decide) rfl ?_
        exact y_rp C hR dX6_wantedPlace_94
      · refine y_iload_n (n := 90) C dX6_wantedPlace_89 3 rfl rfl ?_
        refine y_goto (tgt := 94) C dX6_wantedPlace_90 (by decide) ?_
        exact y_rp C hR dX6_wantedPlace_94
    · refine y_aload_n (n := 29) C dX6_wantedPlace_28 0 rfl rfl ?_
      refine y_iload (n := 31) C dX6_wantedPlace_29 4 rfl rfl ?_
      refine y_cp (n := 34) C (fun r hr H locs la hP hS hl => y_runV (ci := 6) (st := []) C ky_X6_mayBeWanted wd_857 ⟨Nat.le_of_ble_eq_true rfl, Nat.le_of_ble_eq_true rfl⟩ hO.1 rfl (mX6_mayBeWanted hO w x4 g.2.1 r hr) rfl (Nat.le_of_ble_eq_true rfl) rfl dX6_wantedPlace_31 hP hS hl) rfl (fun v7 hv7 => ?_)
      refine y_if_eq (tgt := 71) (n := 37) C dX6_wantedPlace_34 (by decide) rfl (fun h8 => ?_) (fun h8 => ?_)
      · refine y_iinc (n := 74) (v := x4 + 1) (ls' := [(4, .int (x4 + 1)), (0, .ref (E.2.2.2.2.1 + o)), (1, .int x1), (2, .int x2), (3, .int x3)]) C dX6_wantedPlace_71 4 rfl rfl (by decide) rfl rfl ?_
        refine y_goto (tgt := 21) C dX6_wantedPlace_74 (by decide) ?_
        refine y_ls [1, 2, 3, 4, 0] rfl ?_
        exact ih x1 x2 x3 (x4 + 1)
      · refine y_aload_n (n := 38) C dX6_wantedPlace_37 0 rfl rfl ?_
        refine y_iload (n := 40) C dX6_wantedPlace_38 4 rfl rfl ?_
        refine y_cp (n := 43) C (fun r hr H locs la hP hS hl => y_runV (ci := 6) (st := []) C ky_X6_value wd_861 ⟨Nat.le_of_ble_eq_true rfl, Nat.le_of_ble_eq_true rfl⟩ hO.1 rfl (mX6_value hO w x4 g.2.1 r hr) rfl (Nat.le_of_ble_eq_true rfl) rfl dX6_wantedPlace_40 hP hS hl) rfl (fun v9 hv9 => ?_)
        refine y_istore (n := 45) (ls' := [(5, .int v9), (0, .ref (E.2.2.2.2.1 + o)), (1, .int x1), (2, .int x2), (3, .int x3), (4, .int x4)]) C dX6_wantedPlace_43 (by decide) rfl rfl ?_
        refine y_iload_n (n := 46) C dX6_wantedPlace_45 4 rfl rfl ?_
        refine y_iload (n := 48) C dX6_wantedPlace_46 0 rfl rfl ?_
        refine y_iload_n (n := 49) C dX6_wantedPlace_48 3 rfl rfl ?_
        refine y_icmp_gt (tgt := 64) (n := 52) C dX6_wantedPlace_49 (by decide) rfl (fun h10 => ?_) (fun h10 => ?_)
        · refine y_iconst (n := 65) C (1 : Int32) dX6_wantedPlace_64 (by decide) rfl ?_
          refine y_goto (tgt := 69) C dX6_wantedPlace_65 (by decide) ?_
          refine y_iadd (n := 70) C dX6_wantedPlace_69 rfl ?_
          refine y_istore_n (n := 71) (ls' := [(3, .int (x3 + 1)), (5, .int v9), (0, .ref (E.2.2.2.2.1 + o)), (1, .int x1), (2, .int x2), (4, .int x4)]) C dX6_wantedPlace_70 (by decide) rfl rfl ?_
          refine y_iinc (n := 74) (v := x4 + 1) (ls' := [(4, .int (x4 + 1)), (3, .int (x3 + 1)), (5, .int v9), (0, .ref (E.2.2.2.2.1 + o)), (1, .int x1), (2, .int x2)]) C dX6_wantedPlace_71 5 rfl rfl (by decide) rfl rfl ?_
          refine y_goto (tgt := 21) C dX6_wantedPlace_74 (by decide) ?_
          refine y_ls [3, 4, 5, 1, 0] rfl ?_
          exact ih x1 x2 (x3 + 1) (x4 + 1)
        · refine y_iload (n := 54) C dX6_wantedPlace_52 0 rfl rfl ?_
          refine y_iload_n (n := 55) C dX6_wantedPlace_54 3 rfl rfl ?_
          refine y_icmp_ne (tgt := 68) (n := 58) C dX6_wantedPlace_55 (by decide) rfl (fun h11 => ?_) (fun h11 => ?_)
          · refine y_iconst (n := 69) C (0 : Int32) dX6_wantedPlace_68 (by decide) rfl ?_
            refine y_iadd (n := 70) C dX6_wantedPlace_69 rfl ?_
            refine y_istore_n (n := 71) (ls' := [(3, .int (x3 + 0)), (5, .int v9), (0, .ref (E.2.2.2.2.1 + o)), (1, .int x1), (2, .int x2), (4, .int x4)]) C dX6_wantedPlace_70 (by decide) rfl rfl ?_
            refine y_iinc (n := 74) (v := x4 + 1) (ls' := [(4, .int (x4 + 1)), (3, .int (x3 + 0)), (5, .int v9), (0, .ref (E.2.2.2.2.1 + o)), (1, .int x1), (2, .int x2)]) C dX6_wantedPlace_71 5 rfl rfl (by decide) rfl rfl ?_
            refine y_goto (tgt := 21) C dX6_wantedPlace_74 (by decide) ?_
            refine y_ls [3, 4, 5, 1, 0] rfl ?_
            exact ih x1 x2 (x3 + 0) (x4 + 1)
          · refine y_iload (n := 60) C dX6_wantedPlace_58 5 rfl rfl ?_
            refine y_iload_n (n := 61) C dX6_wantedPlace_60 2 rfl rfl ?_
            refine y_icmp_ge (tgt := 68) (n := 64) C dX6_wantedPlace_61 (by decide) rfl (fun h12 => ?_) (fun h12 => ?_)
            · refine y_iconst (n := 69) C (0 : Int32) dX6_wantedPlace_68 (by decide) rfl ?_
              refine y_iadd (n := 70) C dX6_wantedPlace_69 rfl ?_
              refine y_istore_n (n := 71) (ls' := [(3, .int (x3 + 0)), (5, .int v9), (0, .ref (E.2.2.2.2.1 + o)), (1, .int x1), (2, .int x2), (4, .int x4)]) C dX6_wantedPlace_70 (by decide) rfl rfl ?_
              refine y_iinc (n := 74) (v := x4 + 1) (ls' := [(4, .int (x4 + 1)), (3, .int (x3 + 0)), (5, .int v9), (0, .ref (E.2.2.2.2.1 + o)), (1, .int x1), (2, .int x2)]) C dX6_wantedPlace_71 5 rfl rfl (by decide) rfl rfl ?_
              refine y_goto (tgt := 21) C dX6_wantedPlace_74 (by decide) ?_
              refine y_ls [3, 4, 5, 1, 0] rfl ?_
              exact ih x1 x2 (x3 + 0) (x4 + 1)
            · refine y_iconst (n := 65) C (1 : Int32) dX6_wantedPlace_64 (by decide) rfl ?_
              refine y_goto (tgt := 69) C dX6_wantedPlace_65 (by decide) ?_
              refine y_iadd (n := 70) C dX6_wantedPlace_69 rfl ?_
              refine y_istore_n (n := 71) (ls' := [(3, .int (x3 + 1)), (5, .int v9), (0, .ref (E.2.2.2.2.1 + o)), (1, .int x1), (2, .int x2), (4, .int x4)]) C dX6_wantedPlace_70 (by decide) rfl rfl ?_
              refine y_iinc (n := 74) (v := x4 + 1) (ls' := [(4, .int (x4 + 1)), (3, .int (x3 + 1)), (5, .int v9), (0, .ref (E.2.2.2.2.1 + o)), (1, .int x1), (2, .int x2)]) C dX6_wantedPlace_71 5 rfl rfl (by decide) rfl rfl ?_
              refine y_goto (tgt := 21) C dX6_wantedPlace_74 (by decide) ?_
              refine y_ls [3, 4, 5, 1, 0] rfl ?_
              exact ih x1 x2 (x3 + 1) (x4 + 1)
def fX6_wantedPlace (w : Wd) (o : Nat) (a1 : Int32) : Option (Int32) :=
  (fX6_mayBeWanted w o a1).bind fun v1 =>
  if v1 = 0 then
    some (-1)
  else
    (fX6_value w o a1).bind fun v3 =>
    lX6_wantedPlace_21 o 4096 w a1 v3 0 0
set_option maxRecDepth 4000 in
theorem eX6_wantedPlace {g : Gx} {E : Ex} (C : CC g E cX6_wantedPlace 6 RX6 4 91) (hR : RT g (some .int)) {o : Nat} (hO : shM E.2.2.2.2.2.1 o) (w : Wd) (a1 : Int32) : YO g E 6 (QP g E w) (fX6_wantedPlace w o a1) w 0 [(0, .ref (E.2.2.2.2.1 + o)), (1, .int a1)] [] := by
  unfold fX6_wantedPlace
  refine y_aload_n (n := 1) C dX6_wantedPlace_0 0 rfl rfl ?_
  refine y_iload_n (n := 2) C dX6_wantedPlace_1 1 rfl rfl ?_
  refine y_cp (n := 5) C (fun r hr H locs la hP hS hl => y_runV (ci := 6) (st := []) C ky_X6_mayBeWanted wd_857 ⟨Nat.le_of_ble_eq_true rfl, Nat.le_of_ble_eq_true rfl⟩ hO.1 rfl (mX6_mayBeWanted hO w a1 g.2.1 r hr) rfl (Nat.le_of_ble_eq_true rfl) rfl dX6_wantedPlace_2 hP hS hl) rfl (fun v1 hv1 => ?_)
  refine y_if_ne (tgt := 10) (n := 8) C dX6_wantedPlace_5 (by decide) rfl (fun h2 => ?_) (fun h2 => ?_)
  · refine y_aload_n (n := 11) C dX6_wantedPlace_10 0 rfl rfl ?_
    refine y_iload_n (n := 12) C dX6_wantedPlace_11 1 rfl rfl ?_
    refine y_cp (n := 15) C (fun r hr H locs la hP hS hl => y_runV (ci := 6) (st := []) C ky_X6_value wd_861 ⟨Nat.le_of_ble_eq_true rfl, Nat.le_of_ble_eq_true rfl⟩ hO.1 rfl (mX6_value hO w a1 g.2.1 r hr) rfl (Nat.le_of_ble_eq_true rfl) rfl dX6_wantedPlace_12 hP hS hl) rfl (fun v3 hv3 => ?_)
    refine y_istore_n (n := 16) (ls' := [(2, .int v3), (0, .ref (E.2.2.2.2.1 + o)), (1, .int a1)]) C dX6_wantedPlace_15 (by decide) rfl rfl ?_
    refine y_iconst (n := 17) C (0 : Int32) dX6_wantedPlace_16 (by decide) rfl ?_
    refine y_istore_n (n := 18) (ls' := [(3, .int 0), (2, .int v3), (0, .ref (E.2.2.2.2.1 + o)), (1, .int a1)]) C dX6_wantedPlace_17 (by decide) rfl rfl ?_
    refine y_iconst (n := 19) C (0 : Int32) dX6_wantedPlace_18 (by decide) rfl ?_
    refine y_istore (n := 21) (ls' := [(4, .int 0), (3, .int 0), (2, .int v3), (0, .ref (E.2.2.2.2.1 + o)), (1, .int a1)]) C dX6_wantedPlace_19 (by decide) rfl rfl ?_
    refine y_ls [3, 4, 2, 1, 0] rfl ?_
    exact clX6_wantedPlace_21 C hR hO w 4096 a1 v3 0 0
  · refine y_iconst (n := 9) C ((-1) : Int32) dX6_wantedPlace_8 (by decide) rfl ?_
    exact y_rp C hR dX6_wantedPlace_9
theorem mX6_wantedPlace {E : Ex} {o : Nat} (hO : shM E.2.2.2.2.2.1 o) (w : Wd) (a1 : Int32) (l : Launch) : MP l yX6_wantedPlace cX6_wantedPlace 6 (some .int) { frames := 4, cells := 0, slots := 0, locals := 91 } E [.ref (E.2.2.2.2.1 + o), .int a1] w (fX6_wantedPlace w o a1) :=
  y_met (Qc := fun r => yQi E (r, w)) (by decide +kernel) (Nat.le_of_ble_eq_true rfl) (fun g C hR => eX6_wantedPlace C hR hO w a1) l
