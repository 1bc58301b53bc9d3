/-! X5_type X5_undo X5_wanted X6_isDocument X6_isList X6_placeOf X6_putIn X6_record X6_takeOut X6_add X6_isAsked X6_asked X6_left X6_bound X6_toldBound X6_boundsTogether -/
def fX5_type (w : Wd) (o : Nat) (a1 : Int32) : Option (Int32 × Wd) :=
  if (w.1 (o + 99) 1) < 40 then
    (fX4_append w (o + 99) a1).bind fun w2 =>
    some (w2.1 (o + 99) 1, w2)
  else
    some ((-3), w)
set_option maxRecDepth 4000 in
theorem eX5_type {g : Gx} {E : Ex} (C : CC g E cX5_type 2 RX5 1 21) (hR : RT g (some .int)) {o : Nat} (hO : shB E.2.2.2.2.2.1 o) (w : Wd) (a1 : Int32) : YO g E 2 (QI g E) (fX5_type w o a1) w 0 [(0, .ref (E.2.2.2.2.1 + o)), (1, .int a1)] [] := by
  unfold fX5_type
  refine y_aload_n (n := 1) C dX5_type_0 0 rfl rfl ?_
  refine y_get (ci := 5) (f := 4) (n := 4) C in_X5 hO.1 rfl (by decide) wd_195 rfl rfl dX5_type_1 rfl ?_
  refine y_getN (ci := 4) (f := 1) (n := 7) C in_X4 hO.2.2.2.2.1.1 rfl (by decide) wd_174 rfl rfl dX5_type_4 rfl ?_
  refine y_bipush (n := 9) C (40 : Int32) dX5_type_7 (by decide) rfl ?_
  refine y_icmp_lt (tgt := 15) (n := 12) C dX5_type_9 (by decide) rfl (fun h1 => ?_) (fun h1 => ?_)
  · refine y_aload_n (n := 16) C dX5_type_15 0 rfl rfl ?_
    refine y_get (ci := 5) (f := 4) (n := 19) C in_X5 hO.1 rfl (by decide) wd_195 rfl rfl dX5_type_16 rfl ?_
    refine y_iload_n (n := 20) C dX5_type_19 1 rfl rfl ?_
    refine y_cv (n := 23) C (fun r hr H locs la hP hS hl => y_runVN (ci := 4) (st := []) C ky_X4_append wd_475 ⟨Nat.le_of_ble_eq_true rfl, Nat.le_of_ble_eq_true rfl⟩ hO.2.2.2.2.1.1 rfl (mX4_append hO.2.2.2.2.1 w a1 g.2.1 r hr) rfl (Nat.le_of_ble_eq_true rfl) rfl dX5_type_20 hP hS hl) rfl (fun w2 hw2 => ?_)
    refine y_aload_n (n := 24) C dX5_type_23 0 rfl rfl ?_
    refine y_get (ci := 5) (f := 4) (n := 27) C in_X5 hO.1 rfl (by decide) wd_195 rfl rfl dX5_type_24 rfl ?_
    refine y_getN (ci := 4) (f := 1) (n := 30) C in_X4 hO.2.2.2.2.1.1 rfl (by decide) wd_174 rfl rfl dX5_type_27 rfl ?_
    exact y_ri C hR dX5_type_30
  · refine y_bipush (n := 14) C ((-3) : Int32) dX5_type_12 (by decide) rfl ?_
    exact y_ri C hR dX5_type_14
theorem mX5_type {E : Ex} {o : Nat} (hO : shB E.2.2.2.2.2.1 o) (w : Wd) (a1 : Int32) (l : Launch) : MI l yX5_type cX5_type 2 (some .int) { frames := 1, cells := 0, slots := 0, locals := 21 } E [.ref (E.2.2.2.2.1 + o), .int a1] w (fX5_type w o a1) :=
  y_met (Qc := yQi E) (by decide +kernel) (Nat.le_of_ble_eq_true rfl) (fun g C hR => eX5_type C hR hO w a1) l
def fX5_undo (y : Ly) (w : Wd) (o : Nat)  : Option (Int32 × Wd) :=
  if (w.1 (o + 17) 1) = 0 then
    some ((-5), w)
  else
    (fX0_takeLatest y w (o + 17) (o + 1)).bind fun w2 =>
    some (w2.1 (o + 17) 1, w2)
set_option maxRecDepth 4000 in
theorem eX5_undo {g : Gx} {E : Ex} (C : CC g E cX5_undo 1 RX5 5 133) (hR : RT g (some .int)) {o : Nat} (hO : shB E.2.2.2.2.2.1 o) (w : Wd)  : YO g E 1 (QI g E) (fX5_undo E.2.2.2.2.2.1 w o) w 0 [(0, .ref (E.2.2.2.2.1 + o))] [] := by
  unfold fX5_undo
  refine y_aload_n (n := 1) C dX5_undo_0 0 rfl rfl ?_
  refine y_get (ci := 5) (f := 1) (n := 4) C in_X5 hO.1 rfl (by decide) wd_192 rfl rfl dX5_undo_1 rfl ?_
  refine y_getN (ci := 0) (f := 1) (n := 7) C in_X0 hO.2.2.1.1 rfl (by decide) wd_160 rfl rfl dX5_undo_4 rfl ?_
  refine y_if_ne (tgt := 13) (n := 10) C dX5_undo_7 (by decide) rfl (fun h1 => ?_) (fun h1 => ?_)
  · refine y_aload_n (n := 14) C dX5_undo_13 0 rfl rfl ?_
    refine y_get (ci := 5) (f := 1) (n := 17) C in_X5 hO.1 rfl (by decide) wd_192 rfl rfl dX5_undo_14 rfl ?_
    refine y_aload_n (n := 18) C dX5_undo_17 0 rfl rfl ?_
    refine y_get (ci := 5) (f := 0) (n := 21) C in_X5 hO.1 rfl (by decide) wd_191 rfl rfl dX5_undo_18 rfl ?_
    refine y_cv (n := 24) C (fun r hr H locs la hP hS hl => y_runVN (ci := 0) (st := []) C ky_X0_takeLatest wd_592 ⟨Nat.le_of_ble_eq_true rfl, Nat.le_of_ble_eq_true rfl⟩ hO.2.2.1.1 rfl (mX0_takeLatest hO.2.2.1 hO.2.1 w g.2.1 r hr) rfl (Nat.le_of_ble_eq_true rfl) rfl dX5_undo_21 hP hS hl) rfl (fun w2 hw2 => ?_)
    refine y_aload_n (n := 25) C dX5_undo_24 0 rfl rfl ?_
    refine y_get (ci := 5) (f := 1) (n := 28) C in_X5 hO.1 rfl (by decide) wd_192 rfl rfl dX5_undo_25 rfl ?_
    refine y_getN (ci := 0) (f := 1) (n := 31) C in_X0 hO.2.2.1.1 rfl (by decide) wd_160 rfl rfl dX5_undo_28 rfl ?_
    exact y_ri C hR dX5_undo_31
  · refine y_bipush (n := 12) C ((-5) : Int32) dX5_undo_10 (by decide) rfl ?_
    exact y_ri C hR dX5_undo_12
theorem mX5_undo {E : Ex} {o : Nat} (hO : shB E.2.2.2.2.2.1 o) (w : Wd)  (l : Launch) : MI l yX5_undo cX5_undo 1 (some .int) { frames := 5, cells := 0, slots := 0, locals := 133 } E [.ref (E.2.2.2.2.1 + o)] w (fX5_undo E.2.2.2.2.2.1 w o) :=
  y_met (Qc := yQi E) (by decide +kernel) (Nat.le_of_ble_eq_true rfl) (fun g C hR => eX5_undo C hR hO w ) l
def fX5_wanted (w : Wd) (o : Nat) (a1 : Int32) : Option (Int32) :=
  if 0 ≤ a1 then
    (fX1_wantedAt w (o + 1 + 1) a1).bind fun v2 =>
    some v2
  else
    some (-2)
set_option maxRecDepth 4000 in
theorem eX5_wanted {g : Gx} {E : Ex} (C : CC g E cX5_wanted 2 RX5 6 134) (hR : RT g (some .int)) {o : Nat} (hO : shB E.2.2.2.2.2.1 o) (w : Wd) (a1 : Int32) : YO g E 2 (QP g E w) (fX5_wanted w o a1) w 0 [(0, .ref (E.2.2.2.2.1 + o)), (1, .int a1)] [] := by
  unfold fX5_wanted
  refine y_iload_n (n := 1) C dX5_wanted_0 1 rfl rfl ?_
  refine y_if_ge (tgt := 7) (n := 4) C dX5_wanted_1 (by decide) rfl (fun h1 => ?_) (fun h1 => ?_)
  · refine y_aload_n (n := 8) C dX5_wanted_7 0 rfl rfl ?_
    refine y_get (ci := 5) (f := 0) (n := 11) C in_X5 hO.1 rfl (by decide) wd_191 rfl rfl dX5_wanted_8 rfl ?_
    refine y_getN (ci := 3) (f := 0) (n := 14) C in_X3 hO.2.1.1 rfl (by decide) wd_133 rfl rfl dX5_wanted_11 rfl ?_
    refine y_iload_n (n := 15) C dX5_wanted_14 1 rfl rfl ?_
    refine y_cp (n := 18) C (fun r hr H locs la hP hS hl => y_runVN (ci := 1) (st := []) C ky_X1_wantedAt wd_646 ⟨Nat.le_of_ble_eq_true rfl, Nat.le_of_ble_eq_true rfl⟩ hO.2.1.2.1.1 rfl (mX1_wantedAt hO.2.1.2.1 w a1 g.2.1 r hr) rfl (Nat.le_of_ble_eq_true rfl) rfl dX5_wanted_15 hP hS hl) rfl (fun v2 hv2 => ?_)
    exact y_rp C hR dX5_wanted_18
  · refine y_bipush (n := 6) C ((-2) : Int32) dX5_wanted_4 (by decide) rfl ?_
    exact y_rp C hR dX5_wanted_6
theorem mX5_wanted {E : Ex} {o : Nat} (hO : shB E.2.2.2.2.2.1 o) (w : Wd) (a1 : Int32) (l : Launch) : MP l yX5_wanted cX5_wanted 2 (some .int) { frames := 6, cells := 0, slots := 0, locals := 134 } E [.ref (E.2.2.2.2.1 + o), .int a1] w (fX5_wanted w o a1) :=
  y_met (Qc := fun r => yQi E (r, w)) (by decide +kernel) (Nat.le_of_ble_eq_true rfl) (fun g C hR => eX5_wanted C hR hO w a1) l
def fX6_isDocument (w : Wd) (a1 : Int32) : Option (Int32) :=
  if a1 < 0 then
    rtZ 0
  else
    if 60 ≤ a1 then
      rtZ 0
    else
      rtZ 1
set_option maxRecDepth 4000 in
theorem eX6_isDocument {g : Gx} {E : Ex} (C : CC g E cX6_isDocument 1 RX6 0 0) (hR : RT g (some .boolean))  (w : Wd) (a1 : Int32) : YO g E 1 (QP g E w) (fX6_isDocument w a1) w 0 [(0, .int a1)] [] := by
  unfold fX6_isDocument
  refine y_iload_n (n := 1) C dX6_isDocument_0 0 rfl rfl ?_
  refine y_if_lt (tgt := 14) (n := 4) C dX6_isDocument_1 (by decide) rfl (fun h1 => ?_) (fun h1 => ?_)
  · refine y_iconst (n := 15) C (0 : Int32) dX6_isDocument_14 (by decide) rfl ?_
    exact y_rz C hR dX6_isDocument_15
  · refine y_iload_n (n := 5) C dX6_isDocument_4 0 rfl rfl ?_
    refine y_bipush (n := 7) C (60 : Int32) dX6_isDocument_5 (by decide) rfl ?_
    refine y_icmp_ge (tgt := 14) (n := 10) C dX6_isDocument_7 (by decide) rfl (fun h2 => ?_) (fun h2 => ?_)
    · refine y_iconst (n := 15) C (0 : Int32) dX6_isDocument_14 (by decide) rfl ?_
      exact y_rz C hR dX6_isDocument_15
    · refine y_iconst (n := 11) C (1 : Int32) dX6_isDocument_10 (by decide) rfl ?_
      refine y_goto (tgt := 15) C dX6_isDocument_11 (by decide) ?_
      exact y_rz C hR dX6_isDocument_15
theorem mX6_isDocument {E : Ex}  (w : Wd) (a1 : Int32) (l : Launch) : MP l yX6_isDocument cX6_isDocument 1 (some .boolean) { frames := 0, cells := 0, slots := 0, locals := 0 } E [.int a1] w (fX6_isDocument w a1) :=
  y_met (Qc := fun r => yQi E (r, w)) (by decide +kernel) (Nat.le_of_ble_eq_true rfl) (fun g C hR => eX6_isDocument C hR  w a1) l
def fX6_isList (w : Wd) (a1 : Int32) : Option (Int32) :=
  if a1 < 0 then
    rtZ 0
  else
    if 6 ≤ a1 then
      rtZ 0
    else
      rtZ 1
set_option maxRecDepth 4000 in
theorem eX6_isList {g : Gx} {E : Ex} (C : CC g E cX6_isList 1 RX6 0 0) (hR : RT g (some .boolean))  (w : Wd) (a1 : Int32) : YO g E 1 (QP g E w) (fX6_isList w a1) w 0 [(0, .int a1)] [] := by
  unfold fX6_isList
  refine y_iload_n (n := 1) C dX6_isList_0 0 rfl rfl ?_
  refine y_if_lt (tgt := 14) (n := 4) C dX6_isList_1 (by decide) rfl (fun h1 => ?_) (fun h1 => ?_)
  · refine y_iconst (n := 15) C (0 : Int32) dX6_isList_14 (by decide) rfl ?_
    exact y_rz C hR dX6_isList_15
  · refine y_iload_n (n := 5) C dX6_isList_4 0 rfl rfl ?_
    refine y_bipush (n := 7) C (6 : Int32) dX6_isList_5 (by decide) rfl ?_
    refine y_icmp_ge (tgt := 14) (n := 10) C dX6_isList_7 (by decide) rfl (fun h2 => ?_) (fun h2 => ?_)
    · refine y_iconst (n := 15) C (0 : Int32) dX6_isList_14 (by decide) rfl ?_
      exact y_rz C hR dX6_isList_15
    · refine y_iconst (n := 11) C (1 : Int32) dX6_isList_10 (by decide) rfl ?_
      refine y_goto (tgt := 15) C dX6_isList_11 (by decide) ?_
      exact y_rz C hR dX6_isList_15
theorem mX6_isList {E : Ex}  (w : Wd) (a1 : Int32) (l : Launch) : MP l yX6_isList cX6_isList 1 (some .boolean) { frames := 0, cells := 0, slots := 0, locals := 0 } E [.int a1] w (fX6_isList w a1) :=
  y_met (Qc := fun r => yQi E (r, w)) (by decide +kernel) (Nat.le_of_ble_eq_true rfl) (fun g C hR => eX6_isList C hR  w a1) l
def lX6_placeOf_5 (o : Nat) : Nat → Wd → Int32 → Int32 → Int32 → Int32 → Option (Int32)
  | 0, _, _, _, _, _ => none
  | n + 1, w, x1, x2, x3, x4 =>
    (ldI 706 w (o + 1) (480 + x1)).bind fun v1 =>
    if v1 ≤ x4 then
      some x3
    else
      (ldI 706 w (o + 1) ((0 + (40 * x1)) + x4)).bind fun v3 =>
      if v3 = x2 then
        lX6_placeOf_5 o n w x1 x2 x4 (x4 + 1)
      else
        lX6_placeOf_5 o n w x1 x2 x3 (x4 + 1)
set_option maxRecDepth 4000 in
theorem clX6_placeOf_5 {g : Gx} {E : Ex} (C : CC g E cX6_placeOf 5 RX6 0 0) (hR : RT g (some .int)) {o : Nat} (hO : shM E.2.2.2.2.2.1 o) (w : Wd) : ∀ (n : Nat) (x1 : Int32) (x2 : Int32) (x3 : Int32) (x4 : Int32), YO g E 5 (QP g E w) (lX6_placeOf_5 o n w x1 x2 x3 x4) w 5 [(0, .ref (E.2.2.2.2.1 + o)), (1, .int x1), (2, .int x2), (3, .int x3), (4, .int x4)] [] := by
  intro n
  induction n with
  | zero => intro x1 x2 x3 x4; exact y_no
  | succ n ih =>
    intro x1 x2 x3 x4
    rw [lX6_placeOf_5]
    refine y_iload (n := 7) C dX6_placeOf_5 4 rfl rfl ?_
    refine y_aload_n (n := 8) C dX6_placeOf_7 0 rfl rfl ?_
    refine y_get (ci := 6) (f := 0) (n := 11) C in_X6 hO.1 rfl (by decide) wd_731 rfl rfl dX6_placeOf_8 rfl ?_
    refine y_sipush (n := 14) C (480 : Int32) dX6_placeOf_11 (by decide) rfl ?_
    refine y_iload_n (n := 15) C dX6_placeOf_14 1 rfl rfl ?_
    refine y_iadd (n := 16) C dX6_placeOf_15 rfl ?_
    refine y_iald (n := 17) C hO.2.1 dX6_placeOf_16 rfl (fun v1 hv1 => ?_)
    refine y_icmp_ge (tgt := 51) (n := 20) C dX6_placeOf_17 (by decide) rfl (fun h2 => ?_) (fun h2 => ?_)
    · refine y_iload_n (n := 52) C dX6_placeOf_51 3 rfl rfl ?_
      exact y_rp C hR dX6_placeOf_52
    · refine y_aload_n (n := 21) C dX6_placeOf_20 0 rfl rfl ?_
      refine y_get (ci := 6) (f := 0) (n := 24) C in_X6 hO.1 rfl (by decide) wd_731 rfl rfl dX6_placeOf_21 rfl ?_
      refine y_iconst (n := 25) C (0 : Int32) dX6_placeOf_24 (by decide) rfl ?_
      refine y_bipush (n := 27) C (40 : Int32) dX6_placeOf_25 (by decide) rfl ?_
      refine y_iload_n (n := 28) C dX6_placeOf_27 1 rfl rfl ?_
      refine y_imul (n := 29) C dX6_placeOf_28 rfl ?_
      refine y_iadd (n := 30) C dX6_placeOf_29 rfl ?_
      refine y_iload (n := 32) C dX6_placeOf_30 4 rfl rfl ?_
      refine y_iadd (n := 33) C dX6_placeOf_32 rfl ?_
      refine y_iald (n := 34) C hO.2.1 dX6_placeOf_33 rfl (fun v3 hv3 => ?_)
      refine y_iload_n (n := 35) C dX6_placeOf_34 2 rfl rfl ?_
      refine y_icmp_ne (tgt := 43) (n := 38) C dX6_placeOf_35 (by decide) rfl (fun h4 => ?_) (fun h4 => ?_)
      · refine y_iload_n (n := 44) C dX6_placeOf_43 3 rfl rfl ?_
        refine y_istore_n (n := 45) (ls' := [(3, .int x3), (0, .ref (E.2.2.2.2.1 + o)), (1, .int x1), (2, .int x2), (4, .int x4)]) C dX6_placeOf_44 (by decide) rfl rfl ?_
        refine y_iinc (n := 48) (v := x4 + 1) (ls' := [(4, .int (x4 + 1)), (3, .int x3), (0, .ref (E.2.2.2.2.1 + o)), (1, .int x1), (2, .int x2)]) C dX6_placeOf_45 4 rfl rfl (by decide) rfl rfl ?_
        refine y_goto (tgt := 5) C dX6_placeOf_48 (by decide) ?_
        refine y_ls [2, 3, 4, 1, 0] rfl ?_
        exact ih x1 x2 x3 (x4 + 1)
      · refine y_iload (n := 40) C dX6_placeOf_38 4 rfl rfl ?_
        refine y_goto (tgt := 44) C dX6_placeOf_40 (by decide) ?_
        refine y_istore_n (n := 45) (ls' := [(3, .int x4), (0, .ref (E.2.2.2.2.1 + o)), (1, .int x1), (2, .int x2), (4, .int x4)]) C dX6_placeOf_44 (by decide) rfl rfl ?_
        refine y_iinc (n := 48) (v := x4 + 1) (ls' := [(4, .int (x4 + 1)), (3, .int x4), (0, .ref (E.2.2.2.2.1 + o)), (1, .int x1), (2, .int x2)]) C dX6_placeOf_45 4 rfl rfl (by decide) rfl rfl ?_
        refine y_goto (tgt := 5) C dX6_placeOf_48 (by decide) ?_
        refine y_ls [2, 3, 4, 1, 0] rfl ?_
        exact ih x1 x2 x4 (x4 + 1)
def fX6_placeOf (w : Wd) (o : Nat) (a1 : Int32) (a2 : Int32) : Option (Int32) :=
  lX6_placeOf_5 o 4096 w a1 a2 (-1) 0
set_option maxRecDepth 4000 in
theorem eX6_placeOf {g : Gx} {E : Ex} (C : CC g E cX6_placeOf 5 RX6 0 0) (hR : RT g (some .int)) {o : Nat} (hO : shM E.2.2.2.2.2.1 o) (w : Wd) (a1 : Int32) (a2 : Int32) : YO g E 5 (QP g E w) (fX6_placeOf w o a1 a2) w 0 [(0, .ref (E.2.2.2.2.1 + o)), (1, .int a1), (2, .int a2)] [] := by
  unfold fX6_placeOf
  refine y_iconst (n := 1) C ((-1) : Int32) dX6_placeOf_0 (by decide) rfl ?_
  refine y_istore_n (n := 2) (ls' := [(3, .int (-1)), (0, .ref (E.2.2.2.2.1 + o)), (1, .int a1), (2, .int a2)]) C dX6_placeOf_1 (by decide) rfl rfl ?_
  refine y_iconst (n := 3) C (0 : Int32) dX6_placeOf_2 (by decide) rfl ?_
  refine y_istore (n := 5) (ls' := [(4, .int 0), (3, .int (-1)), (0, .ref (E.2.2.2.2.1 + o)), (1, .int a1), (2, .int a2)]) C dX6_placeOf_3 (by decide) rfl rfl ?_
  refine y_ls [2, 3, 4, 1, 0] rfl ?_
  exact clX6_placeOf_5 C hR hO w 4096 a1 a2 (-1) 0
theorem mX6_placeOf {E : Ex} {o : Nat} (hO : shM E.2.2.2.2.2.1 o) (w : Wd) (a1 : Int32) (a2 : Int32) (l : Launch) : MP l yX6_placeOf cX6_placeOf 5 (some .int) { frames := 0, cells := 0, slots := 0, locals := 0 } E [.ref (E.2.2.2.2.1 + o), .int a1, .int a2] w (fX6_placeOf w o a1 a2) :=
  y_met (Qc := fun r => yQi E (r, w)) (by decide +kernel) (Nat.le_of_ble_eq_true rfl) (fun g C hR => eX6_placeOf C hR hO w a1 a2) l
def lX6_putIn_109 (o : Nat) : Nat → Wd → Int32 → Int32 → Int32 → Int32 → Int32 → Option (Int32 × Wd)
  | 0, _, _, _, _, _, _ => none
  | n + 1, w, x1, x2, x3, x4, x5 =>
    if x5 ≤ x4 then
      (stI 706 w (o + 1) ((0 + (40 * x1)) + x4) x2).bind fun w5 =>
      (stI 706 w5 (o + 1) ((240 + (40 * x1)) + x4) x3).bind fun w6 =>
      (ldI 706 w6 (o + 1) (480 + x1)).bind fun v7 =>
      (stI 706 w6 (o + 1) (480 + x1) (v7 + 1)).bind fun w8 =>
      some (x4, w8)
    else
      (ldI 706 w (o + 1) (((0 + (40 * x1)) + x5) - 1)).bind fun v9 =>
      (stI 706 w (o + 1) ((0 + (40 * x1)) + x5) v9).bind fun w10 =>
      (ldI 706 w10 (o + 1) (((240 + (40 * x1)) + x5) - 1)).bind fun v11 =>
      (stI 706 w10 (o + 1) ((240 + (40 * x1)) + x5) v11).bind fun w12 =>
      lX6_putIn_109 o n w12 x1 x2 x3 x4 (x5 + (-1))
set_option maxRecDepth 4000 in
theorem clX6_putIn_109 {g : Gx} {E : Ex} (C : CC g E cX6_putIn 8 RX6 0 0) (hR : RT g (some .int)) {o : Nat} (hO : shM E.2.2.2.2.2.1 o) : ∀ (n : Nat) (w : Wd) (x1 : Int32) (x2 : Int32) (x3 : Int32) (x4 : Int32) (x5 : Int32), YO g E 8 (QI g E) (lX6_putIn_109 o n w x1 x2 x3 x4 x5) w 109 [(0, .ref (E.2.2.2.2.1 + o)), (1, .int x1), (2, .int x2), (3, .int x3), (4, .int x4), (5, .int x5)] [] := by
  intro n
  induction n with
  | zero => intro w x1 x2 x3 x4 x5; exact y_no
  | succ n ih =>
    intro w x1 x2 x3 x4 x5
    rw [lX6_putIn_109]
    refine y_iload (n := 111) C dX6_putIn_109 5 rfl rfl ?_
    refine y_iload (n := 113) C dX6_putIn_111 4 rfl rfl ?_
    refine y_icmp_le (tgt := 186) (n := 116) C dX6_putIn_113 (by decide) rfl (fun h4 => ?_) (fun h4 => ?_)
    · refine y_aload_n (n := 187) C dX6_putIn_186 0 rfl rfl ?_
      refine y_get (ci := 6) (f := 0) (n := 190) C in_X6 hO.1 rfl (by decide) wd_731 rfl rfl dX6_putIn_187 rfl ?_
      refine y_iconst (n := 191) C (0 : Int32) dX6_putIn_190 (by decide) rfl ?_
      refine y_bipush (n := 193) C (40 : Int32) dX6_putIn_191 (by decide) rfl ?_
      refine y_iload_n (n := 194) C dX6_putIn_193 1 rfl rfl ?_
      refine y_imul (n := 195) C dX6_putIn_194 rfl ?_
      refine y_iadd (n := 196) C dX6_putIn_195 rfl ?_
      refine y_iload (n := 198) C dX6_putIn_196 4 rfl rfl ?_
      refine y_iadd (n := 199) C dX6_putIn_198 rfl ?_
      refine y_iload_n (n := 200) C dX6_putIn_199 2 rfl rfl ?_
      refine y_iast (n := 201) C hO.2.1 dX6_putIn_200 rfl (fun w5 hw5 => ?_)
      refine y_aload_n (n := 202) C dX6_putIn_201 0 rfl rfl ?_
      refine y_get (ci := 6) (f := 0) (n := 205) C in_X6 hO.1 rfl (by decide) wd_731 rfl rfl dX6_putIn_202 rfl ?_
      refine y_sipush (n := 208) C (240 : Int32) dX6_putIn_205 (by decide) rfl ?_
      refine y_bipush (n := 210) C (40 : Int32) dX6_putIn_208 (by decide) rfl ?_
      refine y_iload_n (n := 211) C dX6_putIn_210 1 rfl rfl ?_
      refine y_imul (n := 212) C dX6_putIn_211 rfl ?_
      refine y_iadd (n := 213) C dX6_putIn_212 rfl ?_
      refine y_iload (n := 215) C dX6_putIn_213 4 rfl rfl ?_
      refine y_iadd (n := 216) C dX6_putIn_215 rfl ?_
      refine y_iload_n (n := 217) C dX6_putIn_216 3 rfl rfl ?_
      refine y_iast (n := 218) C hO.2.1 dX6_putIn_217 rfl (fun w6 hw6 => ?_)
      refine y_aload_n (n := 219) C dX6_putIn_218 0 rfl rfl ?_
      refine y_get (ci := 6) (f := 0) (n := 222) C in_X6 hO.1 rfl (by decide) wd_731 rfl rfl dX6_putIn_219 rfl ?_
      refine y_sipush (n := 225) C (480 : Int32) dX6_putIn_222 (by decide) rfl ?_
      refine y_iload_n (n := 226) C dX6_putIn_225 1 rfl rfl ?_
      refine y_iadd (n := 227) C dX6_putIn_226 rfl ?_
      refine y_dup2 (n := 228) C dX6_putIn_227 rfl rfl rfl ?_
      refine y_iald (n := 229) C hO.2.1 dX6_putIn_228 rfl (fun v7 hv7 => ?_)
      refine y_iconst (n := 230) C (1 : Int32) dX6_putIn_229 (by decide) rfl ?_
      refine y_iadd (n := 231) C dX6_putIn_230 rfl ?_
      refine y_iast (n := 232) C hO.2.1 dX6_putIn_231 rfl (fun w8 hw8 => ?_)
      refine y_iload (n := 234) C dX6_putIn_232 4 rfl rfl ?_
      exact y_ri C hR dX6_putIn_234
    · refine y_aload_n (n := 117) C dX6_putIn_116 0 rfl rfl ?_
      refine y_get (ci := 6) (f := 0) (n := 120) C in_X6 hO.1 rfl (by decide) wd_731 rfl rfl dX6_putIn_117 rfl ?_
      refine y_iconst (n := 121) C (0 : Int32) dX6_putIn_120 (by decide) rfl ?_
      refine y_bipush (n := 123) C (40 : Int32) dX6_putIn_121 (by decide) rfl ?_
      refine y_iload_n (n := 124) C dX6_putIn_123 1 rfl rfl ?_
      refine y_imul (n := 125) C dX6_putIn_124 rfl ?_
      refine y_iadd (n := 126) C dX6_putIn_125 rfl ?_
      refine y_iload (n := 128) C dX6_putIn_126 5 rfl rfl ?_
      refine y_iadd (n := 129) C dX6_putIn_128 rfl ?_
      refine y_aload_n (n := 130) C dX6_putIn_129 0 rfl rfl ?_
      refine y_get (ci := 6) (f := 0) (n := 133) C in_X6 hO.1 rfl (by decide) wd_731 rfl rfl dX6_putIn_130 rfl ?_
      refine y_iconst (n := 134) C (0 : Int32) dX6_putIn_133 (by decide) rfl ?_
      refine y_bipush (n := 136) C (40 : Int32) dX6_putIn_134 (by decide) rfl ?_
      refine y_iload_n (n := 137) C dX6_putIn_136 1 rfl rfl ?_
      refine y_imul (n := 138) C dX6_putIn_137 rfl ?_
      refine y_iadd (n := 139) C dX6_putIn_138 rfl ?_
      refine y_iload (n := 141) C dX6_putIn_139 5 rfl rfl ?_
      refine y_iadd (n := 142) C dX6_putIn_141 rfl ?_
      refine y_iconst (n := 143) C (1 : Int32) dX6_putIn_142 (by decide) rfl ?_
      refine y_isub (n := 144) C dX6_putIn_143 rfl ?_
      refine y_iald (n := 145) C hO.2.1 dX6_putIn_144 rfl (fun v9 hv9 => ?_)
      refine y_iast (n := 146) C hO.2.1 dX6_putIn_145 rfl (fun w10 hw10 => ?_)
      refine y_aload_n (n := 147) C dX6_putIn_146 0 rfl rfl ?_
      refine y_get (ci := 6) (f := 0) (n := 150) C in_X6 hO.1 rfl (by decide) wd_731 rfl rfl dX6_putIn_147 rfl ?_
      refine y_sipush (n := 153) C (240 : Int32) dX6_putIn_150 (by decide) rfl ?_
      refine y_bipush (n := 155) C (40 : Int32) dX6_putIn_153 (by decide) rfl ?_
      refine y_iload_n (n := 156) C dX6_putIn_155 1 rfl rfl ?_
      refine y_imul (n := 157) C dX6_putIn_156 rfl ?_
      refine y_iadd (n := 158) C dX6_putIn_157 rfl ?_
      refine y_iload (n := 160) C dX6_putIn_158 5 rfl rfl ?_
      refine y_iadd (n := 161) C dX6_putIn_160 rfl ?_
      refine y_aload_n (n := 162) C dX6_putIn_161 0 rfl rfl ?_
      refine y_get (ci := 6) (f := 0) (n := 165) C in_X6 hO.1 rfl (by decide) wd_731 rfl rfl dX6_putIn_162 rfl ?_
      refine y_sipush (n := 168) C (240 : Int32) dX6_putIn_165 (by decide) rfl ?_
      refine y_bipush (n := 170) C (40 : Int32) dX6_putIn_168 (by decide) rfl ?_
      refine y_iload_n (n := 171) C dX6_putIn_170 1 rfl rfl ?_
      refine y_imul (n := 172) C dX6_putIn_171 rfl ?_
      refine y_iadd (n := 173) C dX6_putIn_172 rfl ?_
      refine y_iload (n := 175) C dX6_putIn_173 5 rfl rfl ?_
      refine y_iadd (n := 176) C dX6_putIn_175 rfl ?_
      refine y_iconst (n := 177) C (1 : Int32) dX6_putIn_176 (by decide) rfl ?_
      refine y_isub (n := 178) C dX6_putIn_177 rfl ?_
      refine y_iald (n := 179) C hO.2.1 dX6_putIn_178 rfl (fun v11 hv11 => ?_)
      refine y_iast (n := 180) C hO.2.1 dX6_putIn_179 rfl (fun w12 hw12 => ?_)
      refine y_iinc (n := 183) (v := x5 + (-1)) (ls' := [(5, .int (x5 + (-1))), (0, .ref (E.2.2.2.2.1 + o)), (1, .int x1), (2, .int x2), (3, .int x3), (4, .int x4)]) C dX6_putIn_180 5 rfl rfl (by decide) rfl rfl ?_
      refine y_goto (tgt := 109) C dX6_putIn_183 (by decide) ?_
      refine y_ls [1, 2, 3, 4, 5, 0] rfl ?_
      exact ih w12 x1 x2 x3 x4 (x5 + (-1))
def lX6_putIn_6 (o : Nat) : Nat → Wd → Int32 → Int32 → Int32 → Int32 → Int32 → Option (Int32 × Wd)
  | 0, _, _, _, _, _, _ => none
  | n + 1, w, x1, x2, x3, x4, x5 =>
    (ldI 706 w (o + 1) (480 + x1)).bind fun v1 =>
    if v1 ≤ x5 then
      (ldI 706 w (o + 1) (480 + x1)).bind fun v3 =>
      lX6_putIn_109 o 4096 w x1 x2 x3 x4 v3
    else
      (ldI 706 w (o + 1) ((240 + (40 * x1)) + x5)).bind fun v13 =>
      if x3 < v13 then
        lX6_putIn_6 o n w x1 x2 x3 (x4 + 1) (x5 + 1)
      else
        if v13 = x3 then
          (ldI 706 w (o + 1) ((0 + (40 * x1)) + x5)).bind fun v16 =>
          if x2 ≤ v16 then
            lX6_putIn_6 o n w x1 x2 x3 (x4 + 0) (x5 + 1)
          else
            lX6_putIn_6 o n w x1 x2 x3 (x4 + 1) (x5 + 1)
        else
          lX6_putIn_6 o n w x1 x2 x3 (x4 + 0) (x5 + 1)
set_option maxRecDepth 4000 in
theorem clX6_putIn_6 {g : Gx} {E : Ex} (C : CC g E cX6_putIn 8 RX6 0 0) (hR : RT g (some .int)) {o : Nat} (hO : shM E.2.2.2.2.2.1 o) : ∀ (n : Nat) (w : Wd) (x1 : Int32) (x2 : Int32) (x3 : Int32) (x4 : Int32) (x5 : Int32), YO g E 8 (QI g E) (lX6_putIn_6 o n w x1 x2 x3 x4 x5) w 6 [(0, .ref (E.2.2.2.2.1 + o)), (1, .int x1), (2, .int x2), (3, .int x3), (4, .int x4), (5, .int x5)] [] := by
  intro n
  induction n with
  | zero => intro w x1 x2 x3 x4 x5; exact y_no
  | succ n ih =>
    intro w x1 x2 x3 x4 x5
    rw [lX6_putIn_6]
    refine y_iload (n := 8) C dX6_putIn_6 5 rfl rfl ?_
    refine y_aload_n (n := 9) C dX6_putIn_8 0 rfl rfl ?_
    refine y_get (ci := 6) (f := 0) (n := 12) C in_X6 hO.1 rfl (by decide) wd_731 rfl rfl dX6_putIn_9 rfl ?_
    refine y_sipush (n := 15) C (480 : Int32) dX6_putIn_12 (by decide) rfl ?_
    refine y_iload_n (n := 16) C dX6_putIn_15 1 rfl rfl ?_
    refine y_iadd (n := 17) C dX6_putIn_16 rfl ?_
    refine y_iald (n := 18) C hO.2.1 dX6_putIn_17 rfl (fun v1 hv1 => ?_)
    refine y_icmp_ge (tgt := 97) (n := 21) C dX6_putIn_18 (by decide) rfl (fun h2 => ?_) (fun h2 => ?_)
    · refine y_aload_n (n := 98) C dX6_putIn_97 0 rfl rfl ?_
      refine y_get (ci := 6) (f := 0) (n := 101) C in_X6 hO.1 rfl (by decide) wd_731 rfl rfl dX6_putIn_98 rfl ?_
      refine y_sipush (n := 104) C (480 : Int32) dX6_putIn_101 (by decide) rfl ?_
      refine y_iload_n (n := 105) C dX6_putIn_104 1 rfl rfl ?_
      refine y_iadd (n := 106) C dX6_putIn_105 rfl ?_
      refine y_iald (n := 107) C hO.2.1 dX6_putIn_106 rfl (fun v3 hv3 => ?_)
      refine y_istore (n := 109) (ls' := [(5, .int v3), (0, .ref (E.2.2.2.2.1 + o)), (1, .int x1), (2, .int x2), (3, .int x3), (4, .int x4)]) C dX6_putIn_107 (by decide) rfl rfl ?_
      refine y_ls [1, 2, 3, 4, 5, 0] rfl ?_
      exact clX6_putIn_109 C hR hO 4096 w x1 x2 x3 x4 v3
    · refine y_aload_n (n := 22) C dX6_putIn_21 0 rfl rfl ?_
      refine y_get (ci := 6) (f := 0) (n := 25) C in_X6 hO.1 rfl (by decide) wd_731 rfl rfl dX6_putIn_22 rfl ?_
      refine y_sipush (n := 28) C (240 : Int32) dX6_putIn_25 (by decide) rfl ?_
      refine y_bipush (n := 30) C (40 : Int32) dX6_putIn_28 (by decide) rfl ?_
      refine y_iload_n (n := 31) C dX6_putIn_30 1 rfl rfl ?_
      refine y_imul (n := 32) C dX6_putIn_31 rfl ?_
      refine y_iadd (n := 33) C dX6_putIn_32 rfl ?_
      refine y_iload (n := 35) C dX6_putIn_33 5 rfl rfl ?_
      refine y_iadd (n := 36) C dX6_putIn_35 rfl ?_
      refine y_iald (n := 37) C hO.2.1 dX6_putIn_36 rfl (fun v13 hv13 => ?_)
      refine y_istore (n := 39) (ls' := [(6, .int v13), (0, .ref (E.2.2.2.2.1 + o)), (1, .int x1), (2, .int x2), (3, .int x3), (4, .int x4), (5, .int x5)]) C dX6_putIn_37 (by decide) rfl rfl ?_
      refine y_iload (n := 41) C dX6_putIn_39 0 rfl rfl ?_
      refine y_iload_n (n := 42) C dX6_putIn_41 4 rfl rfl ?_
      refine y_icmp_gt (tgt := 69) (n := 45) C dX6_putIn_42 (by decide) rfl (fun h14 => ?_) (fun h14 => ?_)
      · refine y_iconst (n := 70) C (1 : Int32) dX6_putIn_69 (by decide) rfl ?_
        refine y_goto (tgt := 74) C dX6_putIn_70 (by decide) ?_
        refine y_istore (n := 76) (ls' := [(7, .int 1), (6, .int v13), (0, .ref (E.2.2.2.2.1 + o)), (1, .int x1), (2, .int x2), (3, .int x3), (4, .int x4), (5, .int x5)]) C dX6_putIn_74 (by decide) rfl rfl ?_
        refine y_iload (n := 78) C dX6_putIn_76 6 rfl rfl ?_
        refine y_iload (n := 80) C dX6_putIn_78 0 rfl rfl ?_
        refine y_if_eq_F (tgt := 87) (n := 83) C dX6_putIn_80 (by decide) rfl (by decide) ?_
        refine y_iconst (n := 84) C (1 : Int32) dX6_putIn_83 (by decide) rfl ?_
        refine y_goto (tgt := 88) C dX6_putIn_84 (by decide) ?_
        refine y_iadd (n := 89) C dX6_putIn_88 rfl ?_
        refine y_istore (n := 91) (ls' := [(4, .int (x4 + 1)), (7, .int 1), (6, .int v13), (0, .ref (E.2.2.2.2.1 + o)), (1, .int x1), (2, .int x2), (3, .int x3), (5, .int x5)]) C dX6_putIn_89 (by decide) rfl rfl ?_
        refine y_iinc (n := 94) (v := x5 + 1) (ls' := [(5, .int (x5 + 1)), (4, .int (x4 + 1)), (7, .int 1), (6, .int v13), (0, .ref (E.2.2.2.2.1 + o)), (1, .int x1), (2, .int x2), (3, .int x3)]) C dX6_putIn_91 7 rfl rfl (by decide) rfl rfl ?_
        refine y_goto (tgt := 6) C dX6_putIn_94 (by decide) ?_
        refine y_ls [4, 5, 6, 7, 1, 0] rfl ?_
        exact ih w x1 x2 x3 (x4 + 1) (x5 + 1)
      · refine y_iload (n := 47) C dX6_putIn_45 0 rfl rfl ?_
        refine y_iload_n (n := 48) C dX6_putIn_47 4 rfl rfl ?_
        refine y_icmp_ne (tgt := 73) (n := 51) C dX6_putIn_48 (by decide) rfl (fun h15 => ?_) (fun h15 => ?_)
        · refine y_iconst (n := 74) C (0 : Int32) dX6_putIn_73 (by decide) rfl ?_
          refine y_istore (n := 76) (ls' := [(7, .int 0), (6, .int v13), (0, .ref (E.2.2.2.2.1 + o)), (1, .int x1), (2, .int x2), (3, .int x3), (4, .int x4), (5, .int x5)]) C dX6_putIn_74 (by decide) rfl rfl ?_
          refine y_iload (n := 78) C dX6_putIn_76 6 rfl rfl ?_
          refine y_iload (n := 80) C dX6_putIn_78 0 rfl rfl ?_
          refine y_if_eq_T (tgt := 87) C dX6_putIn_80 (by decide) (by decide) ?_
          refine y_iconst (n := 88) C (0 : Int32) dX6_putIn_87 (by decide) rfl ?_
          refine y_iadd (n := 89) C dX6_putIn_88 rfl ?_
          refine y_istore (n := 91) (ls' := [(4, .int (x4 + 0)), (7, .int 0), (6, .int v13), (0, .ref (E.2.2.2.2.1 + o)), (1, .int x1), (2, .int x2), (3, .int x3), (5, .int x5)]) C dX6_putIn_89 (by decide) rfl rfl ?_
          refine y_iinc (n := 94) (v := x5 + 1) (ls' := [(5, .int (x5 + 1)), (4, .int (x4 + 0)), (7, .int 0), (6, .int v13), (0, .ref (E.2.2.2.2.1 + o)), (1, .int x1), (2, .int x2), (3, .int x3)]) C dX6_putIn_91 7 rfl rfl (by decide) rfl rfl ?_
          refine y_goto (tgt := 6) C dX6_putIn_94 (by decide) ?_
          refine y_ls [4, 5, 6, 7, 1, 0] rfl ?_
          exact ih w x1 x2 x3 (x4 + 0) (x5 + 1)
        · refine y_aload_n (n := 52) C dX6_putIn_51 1 rfl rfl ?_
          refine y_get (ci := 6) (f := 0) (n := 55) C in_X6 hO.1 rfl (by decide) wd_731 rfl rfl dX6_putIn_52 rfl ?_
          refine y_iconst (n := 56) C (0 : Int32) dX6_putIn_55 (by decide) rfl ?_
          refine y_bipush (n := 58) C (40 : Int32) dX6_putIn_56 (by decide) rfl ?_
          refine y_iload_n (n := 59) C dX6_putIn_58 2 rfl rfl ?_
          refine y_imul (n := 60) C dX6_putIn_59 rfl ?_
          refine y_iadd (n := 61) C dX6_putIn_60 rfl ?_
          refine y_iload (n := 63) C dX6_putIn_61 6 rfl rfl ?_
          refine y_iadd (n := 64) C dX6_putIn_63 rfl ?_
          refine y_iald (n := 65) C hO.2.1 dX6_putIn_64 rfl (fun v16 hv16 => ?_)
          refine y_iload_n (n := 66) C dX6_putIn_65 3 rfl rfl ?_
          refine y_icmp_ge (tgt := 73) (n := 69) C dX6_putIn_66 (by decide) rfl (fun h17 => ?_) (fun h17 => ?_)
          · refine y_iconst (n := 74) C (0 : Int32) dX6_putIn_73 (by decide) rfl ?_
            refine y_istore (n := 76) (ls' := [(7, .int 0), (6, .int v13), (0, .ref (E.2.2.2.2.1 + o)), (1, .int x1), (2, .int x2), (3, .int x3), (4, .int x4), (5, .int x5)]) C dX6_putIn_74 (by decide) rfl rfl ?_
            refine y_iload (n := 78) C dX6_putIn_76 6 rfl rfl ?_
            refine y_iload (n := 80) C dX6_putIn_78 0 rfl rfl ?_
            refine y_if_eq_T (tgt := 87) C dX6_putIn_80 (by decide) (by decide) ?_
            refine y_iconst (n := 88) C (0 : Int32) dX6_putIn_87 (by decide) rfl ?_
            refine y_iadd (n := 89) C dX6_putIn_88 rfl ?_
            refine y_istore (n := 91) (ls' := [(4, .int (x4 + 0)), (7, .int 0), (6, .int v13), (0, .ref (E.2.2.2.2.1 + o)), (1, .int x1), (2, .int x2), (3, .int x3), (5, .int x5)]) C dX6_putIn_89 (by decide) rfl rfl ?_
            refine y_iinc (n := 94) (v := x5 + 1) (ls' := [(5, .int (x5 + 1)), (4, .int (x4 + 0)), (7, .int 0), (6, .int v13), (0, .ref (E.2.2.2.2.1 + o)), (1, .int x1), (2, .int x2), (3, .int x3)]) C dX6_putIn_91 7 rfl rfl (by decide) rfl rfl ?_
            refine y_goto (tgt := 6) C dX6_putIn_94 (by decide) ?_
            refine y_ls [4, 5, 6, 7, 1, 0] rfl ?_
            exact ih w x1 x2 x3 (x4 + 0) (x5 + 1)
          · refine y_iconst (n := 70) C (1 : Int32) dX6_putIn_69 (by decide) rfl ?_
            refine y_goto (tgt := 74) C dX6_putIn_70 (by decide) ?_
            refine y_istore (n := 76) (ls' := [(7, .int 1), (6, .int v13), (0, .ref (E.2.2.2.2.1 + o)), (1, .int x1), (2, .int x2), (3, .int x3), (4, .int x4), (5, .int x5)]) C dX6_putIn_74 (by decide) rfl rfl ?_
            refine y_iload (n := 78) C dX6_putIn_76 6 rfl rfl ?_
            refine y_iload (n := 80) C dX6_putIn_78 0 rfl rfl ?_
            refine y_if_eq_F (tgt := 87) (n := 83) C dX6_putIn_80 (by decide) rfl (by decide) ?_
            refine y_iconst (n := 84) C (1 : Int32) dX6_putIn_83 (by decide) rfl ?_
            refine y_goto (tgt := 88) C dX6_putIn_84 (by decide) ?_
            refine y_iadd (n := 89) C dX6_putIn_88 rfl ?_
            refine y_istore (n := 91) (ls' := [(4, .int (x4 + 1)), (7, .int 1), (6, .int v13), (0, .ref (E.2.2.2.2.1 + o)), (1, .int x1), (2, .int x2), (3, .int x3), (5, .int x5)]) C dX6_putIn_89 (by decide) rfl rfl ?_
            refine y_iinc (n := 94) (v := x5 + 1) (ls' := [(5, .int (x5 + 1)), (4, .int (x4 + 1)), (7, .int 1), (6, .int v13), (0, .ref (E.2.2.2.2.1 + o)), (1, .int x1), (2, .int x2), (3, .int x3)]) C dX6_putIn_91 7 rfl rfl (by decide) rfl rfl ?_
            refine y_goto (tgt := 6) C dX6_putIn_94 (by decide) ?_
            refine y_ls [4, 5, 6, 7, 1, 0] rfl ?_
            exact ih w x1 x2 x3 (x4 + 1) (x5 + 1)
def fX6_putIn (w : Wd) (o : Nat) (a1 : Int32) (a2 : Int32) (a3 : Int32) : Option (Int32 × Wd) :=
  lX6_putIn_6 o 4096 w a1 a2 a3 0 0
set_option maxRecDepth 4000 in
theorem eX6_putIn {g : Gx} {E : Ex} (C : CC g E cX6_putIn 8 RX6 0 0) (hR : RT g (some .int)) {o : Nat} (hO : shM E.2.2.2.2.2.1 o) (w : Wd) (a1 : Int32) (a2 : Int32) (a3 : Int32) : YO g E 8 (QI g E) (fX6_putIn w o a1 a2 a3) w 0 [(0, .ref (E.2.2.2.2.1 + o)), (1, .int a1), (2, .int a2), (3, .int a3)] [] := by
  unfold fX6_putIn
  refine y_iconst (n := 1) C (0 : Int32) dX6_putIn_0 (by decide) rfl ?_
  refine y_istore (n := 3) (ls' := [(4, .int 0), (0, .ref (E.2.2.2.2.1 + o)), (1, .int a1), (2, .int a2), (3, .int a3)]) C dX6_putIn_1 (by decide) rfl rfl ?_
  refine y_iconst (n := 4) C (0 : Int32) dX6_putIn_3 (by decide) rfl ?_
  refine y_istore (n := 6) (ls' := [(5, .int 0), (4, .int 0), (0, .ref (E.2.2.2.2.1 + o)), (1, .int a1), (2, .int a2), (3, .int a3)]) C dX6_putIn_4 (by decide) rfl rfl ?_
  refine y_ls [2, 3, 4, 5, 1, 0] rfl ?_
  exact clX6_putIn_6 C hR hO 4096 w a1 a2 a3 0 0
theorem mX6_putIn {E : Ex} {o : Nat} (hO : shM E.2.2.2.2.2.1 o) (w : Wd) (a1 : Int32) (a2 : Int32) (a3 : Int32) (l : Launch) : MI l yX6_putIn cX6_putIn 8 (some .int) { frames := 0, cells := 0, slots := 0, locals := 0 } E [.ref (E.2.2.2.2.1 + o), .int a1, .int a2, .int a3] w (fX6_putIn w o a1 a2 a3) :=
  y_met (Qc := yQi E) (by decide +kernel) (Nat.le_of_ble_eq_true rfl) (fun g C hR => eX6_putIn C hR hO w a1 a2 a3) l
def lX6_record_51 (o : Nat) : Nat → Wd → Int32 → Option (Wd)
  | 0, _, _ => none
  | n + 1, w, x1 =>
    if 706 ≤ x1 then
      (pI w o 5 ((w.1 o 5) + 1)).bind fun w3 =>
      some w3
    else
      (ldI 706 w (o + 1) x1).bind fun v4 =>
      (stI 2824 w (o + 2) (((w.1 o 5) * 706) + x1) v4).bind fun w5 =>
      lX6_record_51 o n w5 (x1 + 1)
set_option maxRecDepth 4000 in
theorem clX6_record_51 {g : Gx} {E : Ex} (C : CC g E cX6_record 2 RX6 0 0) (hR : RT g none) {o : Nat} (hO : shM E.2.2.2.2.2.1 o) : ∀ (n : Nat) (w : Wd) (x1 : Int32), YO g E 2 (QV g E) (lX6_record_51 o n w x1) w 51 [(0, .ref (E.2.2.2.2.1 + o)), (1, .int x1)] [] := by
  intro n
  induction n with
  | zero => intro w x1; exact y_no
  | succ n ih =>
    intro w x1
    rw [lX6_record_51]
    refine y_iload_n (n := 52) C dX6_record_51 1 rfl rfl ?_
    refine y_sipush (n := 55) C (706 : Int32) dX6_record_52 (by decide) rfl ?_
    refine y_icmp_ge (tgt := 85) (n := 58) C dX6_record_55 (by decide) rfl (fun h2 => ?_) (fun h2 => ?_)
    · refine y_aload_n (n := 86) C dX6_record_85 0 rfl rfl ?_
      refine y_dup (n := 87) C dX6_record_86 rfl rfl ?_
      refine y_get (ci := 6) (f := 5) (n := 90) C in_X6 hO.1 rfl (by decide) wd_736 rfl rfl dX6_record_87 rfl ?_
      refine y_iconst (n := 91) C (1 : Int32) dX6_record_90 (by decide) rfl ?_
      refine y_iadd (n := 92) C dX6_record_91 rfl ?_
      refine y_putI (ci := 6) (f := 5) (n := 95) C in_X6 tyX6 tyX6_ok nmX6 hO.1 rfl (by decide) wd_736 rfl rfl (by decide +kernel) (Nat.le_of_ble_eq_true rfl) st_X6_5 dX6_record_92 rfl (fun w3 hw3 => ?_)
      exact y_rv C hR dX6_record_95
    · refine y_aload_n (n := 59) C dX6_record_58 0 rfl rfl ?_
      refine y_get (ci := 6) (f := 1) (n := 62) C in_X6 hO.1 rfl (by decide) wd_732 rfl rfl dX6_record_59 rfl ?_
      refine y_aload_n (n := 63) C dX6_record_62 0 rfl rfl ?_
      refine y_get (ci := 6) (f := 5) (n := 66) C in_X6 hO.1 rfl (by decide) wd_736 rfl rfl dX6_record_63 rfl ?_
      refine y_sipush (n := 69) C (706 : Int32) dX6_record_66 (by decide) rfl ?_
      refine y_imul (n := 70) C dX6_record_69 rfl ?_
      refine y_iload_n (n := 71) C dX6_record_70 1 rfl rfl ?_
      refine y_iadd (n := 72) C dX6_record_71 rfl ?_
      refine y_aload_n (n := 73) C dX6_record_72 0 rfl rfl ?_
      refine y_get (ci := 6) (f := 0) (n := 76) C in_X6 hO.1 rfl (by decide) wd_731 rfl rfl dX6_record_73 rfl ?_
      refine y_iload_n (n := 77) C dX6_record_76 1 rfl rfl ?_
      refine y_iald (n := 78) C hO.2.1 dX6_record_77 rfl (fun v4 hv4 => ?_)
      refine y_iast (n := 79) C hO.2.2.1 dX6_record_78 rfl (fun w5 hw5 => ?_)
      refine y_iinc (n := 82) (v := x1 + 1) (ls' := [(1, .int (x1 + 1)), (0, .ref (E.2.2.2.2.1 + o))]) C dX6_record_79 1 rfl rfl (by decide) rfl rfl ?_
      refine y_goto (tgt := 51) C dX6_record_82 (by decide) ?_
      refine y_ls [1, 0] rfl ?_
      exact ih w5 (x1 + 1)
def lX6_record_10 (o : Nat) : Nat → Wd → Int32 → Option (Wd)
  | 0, _, _ => none
  | n + 1, w, x1 =>
    if 2118 ≤ x1 then
      (pI w o 5 ((w.1 o 5) - 1)).bind fun w7 =>
      lX6_record_51 o 4096 w7 0
    else
      (ldI 2824 w (o + 2) (x1 + 706)).bind fun v8 =>
      (stI 2824 w (o + 2) x1 v8).bind fun w9 =>
      lX6_record_10 o n w9 (x1 + 1)
set_option maxRecDepth 4000 in
theorem clX6_record_10 {g : Gx} {E : Ex} (C : CC g E cX6_record 2 RX6 0 0) (hR : RT g none) {o : Nat} (hO : shM E.2.2.2.2.2.1 o) : ∀ (n : Nat) (w : Wd) (x1 : Int32), YO g E 2 (QV g E) (lX6_record_10 o n w x1) w 10 [(0, .ref (E.2.2.2.2.1 + o)), (1, .int x1)] [] := by
  intro n
  induction n with
  | zero => intro w x1; exact y_no
  | succ n ih =>
    intro w x1
    rw [lX6_record_10]
    refine y_iload_n (n := 11) C dX6_record_10 1 rfl rfl ?_
    refine y_sipush (n := 14) C (2118 : Int32) dX6_record_11 (by decide) rfl ?_
    refine y_icmp_ge (tgt := 39) (n := 17) C dX6_record_14 (by decide) rfl (fun h6 => ?_) (fun h6 => ?_)
    · refine y_aload_n (n := 40) C dX6_record_39 0 rfl rfl ?_
      refine y_dup (n := 41) C dX6_record_40 rfl rfl ?_
      refine y_get (ci := 6) (f := 5) (n := 44) C in_X6 hO.1 rfl (by decide) wd_736 rfl rfl dX6_record_41 rfl ?_
      refine y_iconst (n := 45) C (1 : Int32) dX6_record_44 (by decide) rfl ?_
      refine y_isub (n := 46) C dX6_record_45 rfl ?_
      refine y_putI (ci := 6) (f := 5) (n := 49) C in_X6 tyX6 tyX6_ok nmX6 hO.1 rfl (by decide) wd_736 rfl rfl (by decide +kernel) (Nat.le_of_ble_eq_true rfl) st_X6_5 dX6_record_46 rfl (fun w7 hw7 => ?_)
      refine y_iconst (n := 50) C (0 : Int32) dX6_record_49 (by decide) rfl ?_
      refine y_istore_n (n := 51) (ls' := [(1, .int 0), (0, .ref (E.2.2.2.2.1 + o))]) C dX6_record_50 (by decide) rfl rfl ?_
      refine y_ls [1, 0] rfl ?_
      exact clX6_record_51 C hR hO 4096 w7 0
    · refine y_aload_n (n := 18) C dX6_record_17 0 rfl rfl ?_
      refine y_get (ci := 6) (f := 1) (n := 21) C in_X6 hO.1 rfl (by decide) wd_732 rfl rfl dX6_record_18 rfl ?_
      refine y_iload_n (n := 22) C dX6_record_21 1 rfl rfl ?_
      refine y_aload_n (n := 23) C dX6_record_22 0 rfl rfl ?_
      refine y_get (ci := 6) (f := 1) (n := 26) C in_X6 hO.1 rfl (by decide) wd_732 rfl rfl dX6_record_23 rfl ?_
      refine y_iload_n (n := 27) C dX6_record_26 1 rfl rfl ?_
      refine y_sipush (n := 30) C (706 : Int32) dX6_record_27 (by decide) rfl ?_
      refine y_iadd (n := 31) C dX6_record_30 rfl ?_
      refine y_iald (n := 32) C hO.2.2.1 dX6_record_31 rfl (fun v8 hv8 => ?_)
      refine y_iast (n := 33) C hO.2.2.1 dX6_record_32 rfl (fun w9 hw9 => ?_)
      refine y_iinc (n := 36) (v := x1 + 1) (ls' := [(1, .int (x1 + 1)), (0, .ref (E.2.2.2.2.1 + o))]) C dX6_record_33 1 rfl rfl (by decide) rfl rfl ?_
      refine y_goto (tgt := 10) C dX6_record_36 (by decide) ?_
      refine y_ls [1, 0] rfl ?_
      exact ih w9 (x1 + 1)
def fX6_record (w : Wd) (o : Nat)  : Option (Wd) :=
  if (w.1 o 5) = 4 then
    lX6_record_10 o 4096 w 0
  else
    lX6_record_51 o 4096 w 0
set_option maxRecDepth 4000 in
theorem eX6_record {g : Gx} {E : Ex} (C : CC g E cX6_record 2 RX6 0 0) (hR : RT g none) {o : Nat} (hO : shM E.2.2.2.2.2.1 o) (w : Wd)  : YO g E 2 (QV g E) (fX6_record w o) w 0 [(0, .ref (E.2.2.2.2.1 + o))] [] := by
  unfold fX6_record
  refine y_aload_n (n := 1) C dX6_record_0 0 rfl rfl ?_
  refine y_get (ci := 6) (f := 5) (n := 4) C in_X6 hO.1 rfl (by decide) wd_736 rfl rfl dX6_record_1 rfl ?_
  refine y_iconst (n := 5) C (4 : Int32) dX6_record_4 (by decide) rfl ?_
  refine y_icmp_ne (tgt := 49) (n := 8) C dX6_record_5 (by decide) rfl (fun h1 => ?_) (fun h1 => ?_)
  · refine y_iconst (n := 50) C (0 : Int32) dX6_record_49 (by decide) rfl ?_
    refine y_istore_n (n := 51) (ls' := [(1, .int 0), (0, .ref (E.2.2.2.2.1 + o))]) C dX6_record_50 (by decide) rfl rfl ?_
    refine y_ls [1, 0] rfl ?_
    exact clX6_record_51 C hR hO 4096 w 0
  · refine y_iconst (n := 9) C (0 : Int32) dX6_record_8 (by decide) rfl ?_
    refine y_istore_n (n := 10) (ls' := [(1, .int 0), (0, .ref (E.2.2.2.2.1 + o))]) C dX6_record_9 (by decide) rfl rfl ?_
    refine y_ls [1, 0] rfl ?_
    exact clX6_record_10 C hR hO 4096 w 0
theorem mX6_record {E : Ex} {o : Nat} (hO : shM E.2.2.2.2.2.1 o) (w : Wd)  (l : Launch) : MV l yX6_record cX6_record 2 none { frames := 0, cells := 0, slots := 0, locals := 0 } E [.ref (E.2.2.2.2.1 + o)] w (fX6_record w o) :=
  y_met (Qc := yQv E) (by decide +kernel) (Nat.le_of_ble_eq_true rfl) (fun g C hR => eX6_record C hR hO w ) l
def lX6_takeOut_16 (o : Nat) : Nat → Wd → Int32 → Int32 → Option (Wd)
  | 0, _, _, _ => none
  | n + 1, w, x1, x3 =>
    (ldI 706 w (o + 1) (480 + x1)).bind fun v3 =>
    if v3 ≤ x3 then
      (ldI 706 w (o + 1) (480 + x1)).bind fun v5 =>
      (stI 706 w (o + 1) ((0 + (40 * x1)) + v5) 0).bind fun w6 =>
      (ldI 706 w6 (o + 1) (480 + x1)).bind fun v7 =>
      (stI 706 w6 (o + 1) ((240 + (40 * x1)) + v7) 0).bind fun w8 =>
      some w8
    else
      (ldI 706 w (o + 1) (((0 + (40 * x1)) + x3) + 1)).bind fun v9 =>
      (stI 706 w (o + 1) ((0 + (40 * x1)) + x3) v9).bind fun w10 =>
      (ldI 706 w10 (o + 1) (((240 + (40 * x1)) + x3) + 1)).bind fun v11 =>
      (stI 706 w10 (o + 1) ((240 + (40 * x1)) + x3) v11).bind fun w12 =>
      lX6_takeOut_16 o n w12 x1 (x3 + 1)
set_option maxRecDepth 4000 in
theorem clX6_takeOut_16 {g : Gx} {E : Ex} (C : CC g E cX6_takeOut 4 RX6 0 0) (hR : RT g none) {o : Nat} (hO : shM E.2.2.2.2.2.1 o) : ∀ (n : Nat) (w : Wd) (x1 : Int32) (x3 : Int32), YO g E 4 (QV g E) (lX6_takeOut_16 o n w x1 x3) w 16 [(0, .ref (E.2.2.2.2.1 + o)), (1, .int x1), (3, .int x3)] [] := by
  intro n
  induction n with
  | zero => intro w x1 x3; exact y_no
  | succ n ih =>
    intro w x1 x3
    rw [lX6_takeOut_16]
    refine y_iload_n (n := 17) C dX6_takeOut_16 2 rfl rfl ?_
    refine y_aload_n (n := 18) C dX6_takeOut_17 0 rfl rfl ?_
    refine y_get (ci := 6) (f := 0) (n := 21) C in_X6 hO.1 rfl (by decide) wd_731 rfl rfl dX6_takeOut_18 rfl ?_
    refine y_sipush (n := 24) C (480 : Int32) dX6_takeOut_21 (by decide) rfl ?_
    refine y_iload_n (n := 25) C dX6_takeOut_24 1 rfl rfl ?_
    refine y_iadd (n := 26) C dX6_takeOut_25 rfl ?_
    refine y_iald (n := 27) C hO.2.1 dX6_takeOut_26 rfl (fun v3 hv3 => ?_)
    refine y_icmp_ge (tgt := 96) (n := 30) C dX6_takeOut_27 (by decide) rfl (fun h4 => ?_) (fun h4 => ?_)
    · refine y_aload_n (n := 97) C dX6_takeOut_96 0 rfl rfl ?_
      refine y_get (ci := 6) (f := 0) (n := 100) C in_X6 hO.1 rfl (by decide) wd_731 rfl rfl dX6_takeOut_97 rfl ?_
      refine y_iconst (n := 101) C (0 : Int32) dX6_takeOut_100 (by decide) rfl ?_
      refine y_bipush (n := 103) C (40 : Int32) dX6_takeOut_101 (by decide) rfl ?_
      refine y_iload_n (n := 104) C dX6_takeOut_103 1 rfl rfl ?_
      refine y_imul (n := 105) C dX6_takeOut_104 rfl ?_
      refine y_iadd (n := 106) C dX6_takeOut_105 rfl ?_
      refine y_aload_n (n := 107) C dX6_takeOut_106 0 rfl rfl ?_
      refine y_get (ci := 6) (f := 0) (n := 110) C in_X6 hO.1 rfl (by decide) wd_731 rfl rfl dX6_takeOut_107 rfl ?_
      refine y_sipush (n := 113) C (480 : Int32) dX6_takeOut_110 (by decide) rfl ?_
      refine y_iload_n (n := 114) C dX6_takeOut_113 1 rfl rfl ?_
      refine y_iadd (n := 115) C dX6_takeOut_114 rfl ?_
      refine y_iald (n := 116) C hO.2.1 dX6_takeOut_115 rfl (fun v5 hv5 => ?_)
      refine y_iadd (n := 117) C dX6_takeOut_116 rfl ?_
      refine y_iconst (n := 118) C (0 : Int32) dX6_takeOut_117 (by decide) rfl ?_
      refine y_iast (n := 119) C hO.2.1 dX6_takeOut_118 rfl (fun w6 hw6 => ?_)
      refine y_aload_n (n := 120) C dX6_takeOut_119 0 rfl rfl ?_
      refine y_get (ci := 6) (f := 0) (n := 123) C in_X6 hO.1 rfl (by decide) wd_731 rfl rfl dX6_takeOut_120 rfl ?_
      refine y_sipush (n := 126) C (240 : Int32) dX6_takeOut_123 (by decide) rfl ?_
      refine y_bipush (n := 128) C (40 : Int32) dX6_takeOut_126 (by decide) rfl ?_
      refine y_iload_n (n := 129) C dX6_takeOut_128 1 rfl rfl ?_
      refine y_imul (n := 130) C dX6_takeOut_129 rfl ?_
      refine y_iadd (n := 131) C dX6_takeOut_130 rfl ?_
      refine y_aload_n (n := 132) C dX6_takeOut_131 0 rfl rfl ?_
      refine y_get (ci := 6) (f := 0) (n := 135) C in_X6 hO.1 rfl (by decide) wd_731 rfl rfl dX6_takeOut_132 rfl ?_
      refine y_sipush (n := 138) C (480 : Int32) dX6_takeOut_135 (by decide) rfl ?_
      refine y_iload_n (n := 139) C dX6_takeOut_138 1 rfl rfl ?_
      refine y_iadd (n := 140) C dX6_takeOut_139 rfl ?_
      refine y_iald (n := 141) C hO.2.1 dX6_takeOut_140 rfl (fun v7 hv7 => ?_)
      refine y_iadd (n := 142) C dX6_takeOut_141 rfl ?_
      refine y_iconst (n := 143) C (0 : Int32) dX6_takeOut_142 (by decide) rfl ?_
      refine y_iast (n := 144) C hO.2.1 dX6_takeOut_143 rfl (fun w8 hw8 => ?_)
      exact y_rv C hR dX6_takeOut_144
    · refine y_aload_n (n := 31) C dX6_takeOut_30 0 rfl rfl ?_
      refine y_get (ci := 6) (f := 0) (n := 34) C in_X6 hO.1 rfl (by decide) wd_731 rfl rfl dX6_takeOut_31 rfl ?_
      refine y_iconst (n := 35) C (0 : Int32) dX6_takeOut_34 (by decide) rfl ?_
      refine y_bipush (n := 37) C (40 : Int32) dX6_takeOut_35 (by decide) rfl ?_
      refine y_iload_n (n := 38) C dX6_takeOut_37 1 rfl rfl ?_
      refine y_imul (n := 39) C dX6_takeOut_38 rfl ?_
      refine y_iadd (n := 40) C dX6_takeOut_39 rfl ?_
      refine y_iload_n (n := 41) C dX6_takeOut_40 2 rfl rfl ?_
      refine y_iadd (n := 42) C dX6_takeOut_41 rfl ?_
      refine y_aload_n (n := 43) C dX6_takeOut_42 0 rfl rfl ?_
      refine y_get (ci := 6) (f := 0) (n := 46) C in_X6 hO.1 rfl (by decide) wd_731 rfl rfl dX6_takeOut_43 rfl ?_
      refine y_iconst (n := 47) C (0 : Int32) dX6_takeOut_46 (by decide) rfl ?_
      refine y_bipush (n := 49) C (40 : Int32) dX6_takeOut_47 (by decide) rfl ?_
      refine y_iload_n (n := 50) C dX6_takeOut_49 1 rfl rfl ?_
      refine y_imul (n := 51) C dX6_takeOut_50 rfl ?_
      refine y_iadd (n := 52) C dX6_takeOut_51 rfl ?_
      refine y_iload_n (n := 53) C dX6_takeOut_52 2 rfl rfl ?_
      refine y_iadd (n := 54) C dX6_takeOut_53 rfl ?_
      refine y_iconst (n := 55) C (1 : Int32) dX6_takeOut_54 (by decide) rfl ?_
      refine y_iadd (n := 56) C dX6_takeOut_55 rfl ?_
      refine y_iald (n := 57) C hO.2.1 dX6_takeOut_56 rfl (fun v9 hv9 => ?_)
      refine y_iast (n := 58) C hO.2.1 dX6_takeOut_57 rfl (fun w10 hw10 => ?_)
      refine y_aload_n (n := 59) C dX6_takeOut_58 0 rfl rfl ?_
      refine y_get (ci := 6) (f := 0) (n := 62) C in_X6 hO.1 rfl (by decide) wd_731 rfl rfl dX6_takeOut_59 rfl ?_
      refine y_sipush (n := 65) C (240 : Int32) dX6_takeOut_62 (by decide) rfl ?_
      refine y_bipush (n := 67) C (40 : Int32) dX6_takeOut_65 (by decide) rfl ?_
      refine y_iload_n (n := 68) C dX6_takeOut_67 1 rfl rfl ?_
      refine y_imul (n := 69) C dX6_takeOut_68 rfl ?_
      refine y_iadd (n := 70) C dX6_takeOut_69 rfl ?_
      refine y_iload_n (n := 71) C dX6_takeOut_70 2 rfl rfl ?_
      refine y_iadd (n := 72) C dX6_takeOut_71 rfl ?_
      refine y_aload_n (n := 73) C dX6_takeOut_72 0 rfl rfl ?_
      refine y_get (ci := 6) (f := 0) (n := 76) C in_X6 hO.1 rfl (by decide) wd_731 rfl rfl dX6_takeOut_73 rfl ?_
      refine y_sipush (n := 79) C (240 : Int32) dX6_takeOut_76 (by decide) rfl ?_
      refine y_bipush (n := 81) C (40 : Int32) dX6_takeOut_79 (by decide) rfl ?_
      refine y_iload_n (n := 82) C dX6_takeOut_81 1 rfl rfl ?_
      refine y_imul (n := 83) C dX6_takeOut_82 rfl ?_
      refine y_iadd (n := 84) C dX6_takeOut_83 rfl ?_
      refine y_iload_n (n := 85) C dX6_takeOut_84 2 rfl rfl ?_
      refine y_iadd (n := 86) C dX6_takeOut_85 rfl ?_
      refine y_iconst (n := 87) C (1 : Int32) dX6_takeOut_86 (by decide) rfl ?_
      refine y_iadd (n := 88) C dX6_takeOut_87 rfl ?_
      refine y_iald (n := 89) C hO.2.1 dX6_takeOut_88 rfl (fun v11 hv11 => ?_)
      refine y_iast (n := 90) C hO.2.1 dX6_takeOut_89 rfl (fun w12 hw12 => ?_)
      refine y_iinc (n := 93) (v := x3 + 1) (ls' := [(3, .int (x3 + 1)), (0, .ref (E.2.2.2.2.1 + o)), (1, .int x1)]) C dX6_takeOut_90 2 rfl rfl (by decide) rfl rfl ?_
      refine y_goto (tgt := 16) C dX6_takeOut_93 (by decide) ?_
      refine y_ls [1, 2, 0] rfl ?_
      exact ih w12 x1 (x3 + 1)
def fX6_takeOut (w : Wd) (o : Nat) (a1 : Int32) (a2 : Int32) : Option (Wd) :=
  (ldI 706 w (o + 1) (480 + a1)).bind fun v1 =>
  (stI 706 w (o + 1) (480 + a1) (v1 - 1)).bind fun w2 =>
  lX6_takeOut_16 o 4096 w2 a1 a2
set_option maxRecDepth 4000 in
theorem eX6_takeOut {g : Gx} {E : Ex} (C : CC g E cX6_takeOut 4 RX6 0 0) (hR : RT g none) {o : Nat} (hO : shM E.2.2.2.2.2.1 o) (w : Wd) (a1 : Int32) (a2 : Int32) : YO g E 4 (QV g E) (fX6_takeOut w o a1 a2) w 0 [(0, .ref (E.2.2.2.2.1 + o)), (1, .int a1), (2, .int a2)] [] := by
  unfold fX6_takeOut
  refine y_aload_n (n := 1) C dX6_takeOut_0 0 rfl rfl ?_
  refine y_get (ci := 6) (f := 0) (n := 4) C in_X6 hO.1 rfl (by decide) wd_731 rfl rfl dX6_takeOut_1 rfl ?_
  refine y_sipush (n := 7) C (480 : Int32) dX6_takeOut_4 (by decide) rfl ?_
  refine y_iload_n (n := 8) C dX6_takeOut_7 1 rfl rfl ?_
  refine y_iadd (n := 9) C dX6_takeOut_8 rfl ?_
  refine y_dup2 (n := 10) C dX6_takeOut_9 rfl rfl rfl ?_
  refine y_iald (n := 11) C hO.2.1 dX6_takeOut_10 rfl (fun v1 hv1 => ?_)
  refine y_iconst (n := 12) C (1 : Int32) dX6_takeOut_11 (by decide) rfl ?_
  refine y_isub (n := 13) C dX6_takeOut_12 rfl ?_
  refine y_iast (n := 14) C hO.2.1 dX6_takeOut_13 rfl (fun w2 hw2 => ?_)
  refine y_iload_n (n := 15) C dX6_takeOut_14 2 rfl rfl ?_
  refine y_istore_n (n := 16) (ls' := [(3, .int a2), (0, .ref (E.2.2.2.2.1 + o)), (1, .int a1), (2, .int a2)]) C dX6_takeOut_15 (by decide) rfl rfl ?_
  refine y_ls [1, 2, 0] rfl ?_
  exact clX6_takeOut_16 C hR hO 4096 w2 a1 a2
theorem mX6_takeOut {E : Ex} {o : Nat} (hO : shM E.2.2.2.2.2.1 o) (w : Wd) (a1 : Int32) (a2 : Int32) (l : Launch) : MV l yX6_takeOut cX6_takeOut 4 none { frames := 0, cells := 0, slots := 0, locals := 0 } E [.ref (E.2.2.2.2.1 + o), .int a1, .int a2] w (fX6_takeOut w o a1 a2) :=
  y_met (Qc := yQv E) (by decide +kernel) (Nat.le_of_ble_eq_true rfl) (fun g C hR => eX6_takeOut C hR hO w a1 a2) l
def bX6_add_77 (w : Wd) (o : Nat) (x1 : Int32) (x2 : Int32) (x3 : Int32) (x4 : Int32) : Option (Int32 × Wd) :=
  if x4 < 0 then
    (fX6_record w o).bind fun w12 =>
    if x4 < 0 then
      ob2 (fX6_putIn w12 o x1 x2 x3) fun v14 w15 =>
      some (v14, w15)
    else
      (fX6_takeOut w12 o x1 x4).bind fun w16 =>
      ob2 (fX6_putIn w16 o x1 x2 x3) fun v17 w18 =>
      some (v17, w18)
  else
    (ldI 706 w (o + 1) ((240 + (40 * x1)) + x4)).bind fun v19 =>
    if v19 = x3 then
      some ((-5), w)
    else
      (fX6_record w o).bind fun w21 =>
      if x4 < 0 then
        ob2 (fX6_putIn w21 o x1 x2 x3) fun v23 w24 =>
        some (v23, w24)
      else
        (fX6_takeOut w21 o x1 x4).bind fun w25 =>
        ob2 (fX6_putIn w25 o x1 x2 x3) fun v26 w27 =>
        some (v26, w27)
set_option maxRecDepth 4000 in
theorem cbX6_add_77 {g : Gx} {E : Ex} (C : CC g E cX6_add 5 RX6 1 27) (hR : RT g (some .int)) {o : Nat} (hO : shM E.2.2.2.2.2.1 o) (w : Wd) (x1 : Int32) (x2 : Int32) (x3 : Int32) (x4 : Int32) : YO g E 5 (QI g E) (bX6_add_77 w o x1 x2 x3 x4) w 77 [(0, .ref (E.2.2.2.2.1 + o)), (1, .int x1), (2, .int x2), (3, .int x3), (4, .int x4)] [] := by
  unfold bX6_add_77
  refine y_iload (n := 79) C dX6_add_77 4 rfl rfl ?_
  refine y_if_lt (tgt := 105) (n := 82) C dX6_add_79 (by decide) rfl (fun h11 => ?_) (fun h11 => ?_)
  · refine y_aload_n (n := 106) C dX6_add_105 0 rfl rfl ?_
    refine y_cv (n := 109) C (fun r hr H locs la hP hS hl => y_runV (ci := 6) (st := []) C ky_X6_record wd_784 ⟨Nat.le_of_ble_eq_true rfl, Nat.le_of_ble_eq_true rfl⟩ hO.1 rfl (mX6_record hO w g.2.1 r hr) rfl (Nat.le_of_ble_eq_true rfl) rfl dX6_add_106 hP hS hl) rfl (fun w12 hw12 => ?_)
    refine y_iload (n := 111) C dX6_add_109 4 rfl rfl ?_
    refine y_if_lt (tgt := 121) (n := 114) C dX6_add_111 (by decide) rfl (fun h13 => ?_) (fun h13 => ?_)
    · refine y_aload_n (n := 122) C dX6_add_121 0 rfl rfl ?_
      refine y_iload_n (n := 123) C dX6_add_122 1 rfl rfl ?_
      refine y_iload_n (n := 124) C dX6_add_123 2 rfl rfl ?_
      refine y_iload_n (n := 125) C dX6_add_124 3 rfl rfl ?_
      refine y_ci2 (n := 128) C (fun r hr H locs la hP hS hl => y_runV (ci := 6) (st := []) C ky_X6_putIn wd_806 ⟨Nat.le_of_ble_eq_true rfl, Nat.le_of_ble_eq_true rfl⟩ hO.1 rfl (mX6_putIn hO w12 x1 x2 x3 g.2.1 r hr) rfl (Nat.le_of_ble_eq_true rfl) rfl dX6_add_125 hP hS hl) rfl (fun v14 w15 hv14 => ?_)
      exact y_ri C hR dX6_add_128
    · refine y_aload_n (n := 115) C dX6_add_114 0 rfl rfl ?_
      refine y_iload_n (n := 116) C dX6_add_115 1 rfl rfl ?_
      refine y_iload (n := 118) C dX6_add_116 4 rfl rfl ?_
      refine y_cv (n := 121) C (fun r hr H locs la hP hS hl => y_runV (ci := 6) (st := []) C ky_X6_takeOut wd_802 ⟨Nat.le_of_ble_eq_true rfl, Nat.le_of_ble_eq_true rfl⟩ hO.1 rfl (mX6_takeOut hO w12 x1 x4 g.2.1 r hr) rfl (Nat.le_of_ble_eq_true rfl) rfl dX6_add_118 hP hS hl) rfl (fun w16 hw16 => ?_)
      refine y_aload_n (n := 122) C dX6_add_121 0 rfl rfl ?_
      refine y_iload_n (n := 123) C dX6_add_122 1 rfl rfl ?_
      refine y_iload_n (n := 124) C dX6_add_123 2 rfl rfl ?_
      refine y_iload_n (n := 125) C dX6_add_124 3 rfl rfl ?_
      refine y_ci2 (n := 128) C (fun r hr H locs la hP hS hl => y_runV (ci := 6) (st := []) C ky_X6_putIn wd_806 ⟨Nat.le_of_ble_eq_true rfl, Nat.le_of_ble_eq_true rfl⟩ hO.1 rfl (mX6_putIn hO w16 x1 x2 x3 g.2.1 r hr) rfl (Nat.le_of_ble_eq_true rfl) rfl dX6_add_125 hP hS hl) rfl (fun v17 w18 hv17 => ?_)
      exact y_ri C hR dX6_add_128
  · refine y_aload_n (n := 83) C dX6_add_82 0 rfl rfl ?_
    refine y_get (ci := 6) (f := 0) (n := 86) C in_X6 hO.1 rfl (by decide) wd_731 rfl rfl dX6_add_83 rfl ?_
    refine y_sipush (n := 89) C (240 : Int32) dX6_add_86 (by decide) rfl ?_
    refine y_bipush (n := 91) C (40 : Int32) dX6_add_89 (by decide) rfl ?_
    refine y_iload_n (n := 92) C dX6_add_91 1 rfl rfl ?_
    refine y_imul (n := 93) C dX6_add_92 rfl ?_
    refine y_iadd (n := 94) C dX6_add_93 rfl ?_
    refine y_iload (n := 96) C dX6_add_94 4 rfl rfl ?_
    refine y_iadd (n := 97) C dX6_add_96 rfl ?_
    refine y_iald (n := 98) C hO.2.1 dX6_add_97 rfl (fun v19 hv19 => ?_)
    refine y_iload_n (n := 99) C dX6_add_98 3 rfl rfl ?_
    refine y_icmp_ne (tgt := 105) (n := 102) C dX6_add_99 (by decide) rfl (fun h20 => ?_) (fun h20 => ?_)
    · refine y_aload_n (n := 106) C dX6_add_105 0 rfl rfl ?_
      refine y_cv (n := 109) C (fun r hr H locs la hP hS hl => y_runV (ci := 6) (st := []) C ky_X6_record wd_784 ⟨Nat.le_of_ble_eq_true rfl, Nat.le_of_ble_eq_true rfl⟩ hO.1 rfl (mX6_record hO w g.2.1 r hr) rfl (Nat.le_of_ble_eq_true rfl) rfl dX6_add_106 hP hS hl) rfl (fun w21 hw21 => ?_)
      refine y_iload (n := 111) C dX6_add_109 4 rfl rfl ?_
      refine y_if_lt (tgt := 121) (n := 114) C dX6_add_111 (by decide) rfl (fun h22 => ?_) (fun h22 => ?_)
      · refine y_aload_n (n := 122) C dX6_add_121 0 rfl rfl ?_
        refine y_iload_n (n := 123) C dX6_add_122 1 rfl rfl ?_
        refine y_iload_n (n := 124) C dX6_add_123 2 rfl rfl ?_
        refine y_iload_n (n := 125) C dX6_add_124 3 rfl rfl ?_
        refine y_ci2 (n := 128) C (fun r hr H locs la hP hS hl => y_runV (ci := 6) (st := []) C ky_X6_putIn wd_806 ⟨Nat.le_of_ble_eq_true rfl, Nat.le_of_ble_eq_true rfl⟩ hO.1 rfl (mX6_putIn hO w21 x1 x2 x3 g.2.1 r hr) rfl (Nat.le_of_ble_eq_true rfl) rfl dX6_add_125 hP hS hl) rfl (fun v23 w24 hv23 => ?_)
        exact y_ri C hR dX6_add_128
      · refine y_aload_n (n := 115) C dX6_add_114 0 rfl rfl ?_
        refine y_iload_n (n := 116) C dX6_add_115 1 rfl rfl ?_
        refine y_iload (n := 118) C dX6_add_116 4 rfl rfl ?_
        refine y_cv (n := 121) C (fun r hr H locs la hP hS hl => y_runV (ci := 6) (st := []) C ky_X6_takeOut wd_802 ⟨Nat.le_of_ble_eq_true rfl, Nat.le_of_ble_eq_true rfl⟩ hO.1 rfl (mX6_takeOut hO w21 x1 x4 g.2.1 r hr) rfl (Nat.le_of_ble_eq_true rfl) rfl dX6_add_118 hP hS hl) rfl (fun w25 hw25 => ?_)
        refine y_aload_n (n := 122) C dX6_add_121 0 rfl rfl ?_
        refine y_iload_n (n := 123) C dX6_add_122 1 rfl rfl ?_
        refine y_iload_n (n := 124) C dX6_add_123 2 rfl rfl ?_
        refine y_iload_n (n := 125) C dX6_add_124 3 rfl rfl ?_
        refine y_ci2 (n := 128) C (fun r hr H locs la hP hS hl => y_runV (ci := 6) (st := []) C ky_X6_putIn wd_806 ⟨Nat.le_of_ble_eq_true rfl, Nat.le_of_ble_eq_true rfl⟩ hO.1 rfl (mX6_putIn hO w25 x1 x2 x3 g.2.1 r hr) rfl (Nat.le_of_ble_eq_true rfl) rfl dX6_add_125 hP hS hl) rfl (fun v26 w27 hv26 => ?_)
        exact y_ri C hR dX6_add_128
    · refine y_bipush (n := 104) C ((-5) : Int32) dX6_add_102 (by decide) rfl ?_
      exact y_ri C hR dX6_add_104
def fX6_add (w : Wd) (o : Nat) (a1 : Int32) (a2 : Int32) (a3 : Int32) : Option (Int32 × Wd) :=
  (fX6_isList w a1).bind fun v1 =>
  if v1 = 0 then
    some ((-1), w)
  else
    (fX6_isDocument w a2).bind fun v3 =>
    if v3 = 0 then
      some ((-1), w)
    else
      if a3 < 1 then
        some ((-2), w)
      else
        if a3 ≤ 999 then
          (ldI 706 w (o + 1) 559).bind fun v7 =>
          if v7 = 1 then
            some ((-4), w)
          else
            (fX6_placeOf w o a1 a2).bind fun v9 =>
            if 0 ≤ v9 then
              bX6_add_77 w o a1 a2 a3 v9
            else
              (ldI 706 w (o + 1) (480 + a1)).bind fun v28 =>
              if v28 = 40 then
                some ((-3), w)
              else
                bX6_add_77 w o a1 a2 a3 v9
        else
          some ((-2), w)
set_option maxRecDepth 4000 in
theorem eX6_add {g : Gx} {E : Ex} (C : CC g E cX6_add 5 RX6 1 27) (hR : RT g (some .int)) {o : Nat} (hO : shM E.2.2.2.2.2.1 o) (w : Wd) (a1 : Int32) (a2 : Int32) (a3 : Int32) : YO g E 5 (QI g E) (fX6_add w o a1 a2 a3) w 0 [(0, .ref (E.2.2.2.2.1 + o)), (1, .int a1), (2, .int a2), (3, .int a3)] [] := by
  unfold fX6_add
  refine y_iload_n (n := 1) C dX6_add_0 1 rfl rfl ?_
  refine y_cp (n := 4) C (fun r hr H locs la hP hS hl => y_runS (st := []) C ky_X6_isList wd_792 ⟨Nat.le_of_ble_eq_true rfl, Nat.le_of_ble_eq_true rfl⟩ (mX6_isList w a1 g.2.1 r hr) rfl (Nat.le_of_ble_eq_true rfl) rfl dX6_add_1 hP hS hl) rfl (fun v1 hv1 => ?_)
  refine y_if_eq (tgt := 14) (n := 7) C dX6_add_4 (by decide) rfl (fun h2 => ?_) (fun h2 => ?_)
  · refine y_iconst (n := 15) C ((-1) : Int32) dX6_add_14 (by decide) rfl ?_
    exact y_ri C hR dX6_add_15
  · refine y_iload_n (n := 8) C dX6_add_7 2 rfl rfl ?_
    refine y_cp (n := 11) C (fun r hr H locs la hP hS hl => y_runS (st := []) C ky_X6_isDocument wd_795 ⟨Nat.le_of_ble_eq_true rfl, Nat.le_of_ble_eq_true rfl⟩ (mX6_isDocument w a2 g.2.1 r hr) rfl (Nat.le_of_ble_eq_true rfl) rfl dX6_add_8 hP hS hl) rfl (fun v3 hv3 => ?_)
    refine y_if_ne (tgt := 16) (n := 14) C dX6_add_11 (by decide) rfl (fun h4 => ?_) (fun h4 => ?_)
    · refine y_iload_n (n := 17) C dX6_add_16 3 rfl rfl ?_
      refine y_iconst (n := 18) C (1 : Int32) dX6_add_17 (by decide) rfl ?_
      refine y_icmp_lt (tgt := 28) (n := 21) C dX6_add_18 (by decide) rfl (fun h5 => ?_) (fun h5 => ?_)
      · refine y_bipush (n := 30) C ((-2) : Int32) dX6_add_28 (by decide) rfl ?_
        exact y_ri C hR dX6_add_30
      · refine y_iload_n (n := 22) C dX6_add_21 3 rfl rfl ?_
        refine y_sipush (n := 25) C (999 : Int32) dX6_add_22 (by decide) rfl ?_
        refine y_icmp_le (tgt := 31) (n := 28) C dX6_add_25 (by decide) rfl (fun h6 => ?_) (fun h6 => ?_)
        · refine y_aload_n (n := 32) C dX6_add_31 0 rfl rfl ?_
          refine y_get (ci := 6) (f := 0) (n := 35) C in_X6 hO.1 rfl (by decide) wd_731 rfl rfl dX6_add_32 rfl ?_
          refine y_sipush (n := 38) C (559 : Int32) dX6_add_35 (by decide) rfl ?_
          refine y_iald (n := 39) C hO.2.1 dX6_add_38 rfl (fun v7 hv7 => ?_)
          refine y_iconst (n := 40) C (1 : Int32) dX6_add_39 (by decide) rfl ?_
          refine y_icmp_ne (tgt := 46) (n := 43) C dX6_add_40 (by decide) rfl (fun h8 => ?_) (fun h8 => ?_)
          · refine y_aload_n (n := 47) C dX6_add_46 0 rfl rfl ?_
            refine y_iload_n (n := 48) C dX6_add_47 1 rfl rfl ?_
            refine y_iload_n (n := 49) C dX6_add_48 2 rfl rfl ?_
            refine y_cp (n := 52) C (fun r hr H locs la hP hS hl => y_runV (ci := 6) (st := []) C ky_X6_placeOf wd_798 ⟨Nat.le_of_ble_eq_true rfl, Nat.le_of_ble_eq_true rfl⟩ hO.1 rfl (mX6_placeOf hO w a1 a2 g.2.1 r hr) rfl (Nat.le_of_ble_eq_true rfl) rfl dX6_add_49 hP hS hl) rfl (fun v9 hv9 => ?_)
            refine y_istore (n := 54) (ls' := [(4, .int v9), (0, .ref (E.2.2.2.2.1 + o)), (1, .int a1), (2, .int a2), (3, .int a3)]) C dX6_add_52 (by decide) rfl rfl ?_
            refine y_iload (n := 56) C dX6_add_54 0 rfl rfl ?_
            refine y_if_ge (tgt := 77) (n := 59) C dX6_add_56 (by decide) rfl (fun h10 => ?_) (fun h10 => ?_)
            · refine y_ls [1, 2, 3, 4, 0] rfl ?_
              exact cbX6_add_77 C hR hO w a1 a2 a3 v9
            · refine y_aload_n (n := 60) C dX6_add_59 1 rfl rfl ?_
              refine y_get (ci := 6) (f := 0) (n := 63) C in_X6 hO.1 rfl (by decide) wd_731 rfl rfl dX6_add_60 rfl ?_
              refine y_sipush (n := 66) C (480 : Int32) dX6_add_63 (by decide) rfl ?_
              refine y_iload_n (n := 67) C dX6_add_66 2 rfl rfl ?_
              refine y_iadd (n := 68) C dX6_add_67 rfl ?_
              refine y_iald (n := 69) C hO.2.1 dX6_add_68 rfl (fun v28 hv28 => ?_)
              refine y_bipush (n := 71) C (40 : Int32) dX6_add_69 (by decide) rfl ?_
              refine y_icmp_ne (tgt := 77) (n := 74) C dX6_add_71 (by decide) rfl (fun h29 => ?_) (fun h29 => ?_)
              · refine y_ls [1, 2, 3, 4, 0] rfl ?_
                exact cbX6_add_77 C hR hO w a1 a2 a3 v9
              · refine y_bipush (n := 76) C ((-3) : Int32) dX6_add_74 (by decide) rfl ?_
                exact y_ri C hR dX6_add_76
          · refine y_bipush (n := 45) C ((-4) : Int32) dX6_add_43 (by decide) rfl ?_
            exact y_ri C hR dX6_add_45
        · refine y_bipush (n := 30) C ((-2) : Int32) dX6_add_28 (by decide) rfl ?_
          exact y_ri C hR dX6_add_30
    · refine y_iconst (n := 15) C ((-1) : Int32) dX6_add_14 (by decide) rfl ?_
      exact y_ri C hR dX6_add_15
theorem mX6_add {E : Ex} {o : Nat} (hO : shM E.2.2.2.2.2.1 o) (w : Wd) (a1 : Int32) (a2 : Int32) (a3 : Int32) (l : Launch) : MI l yX6_add cX6_add 5 (some .int) { frames := 1, cells := 0, slots := 0, locals := 27 } E [.ref (E.2.2.2.2.1 + o), .int a1, .int a2, .int a3] w (fX6_add w o a1 a2 a3) :=
  y_met (Qc := yQi E) (by decide +kernel) (Nat.le_of_ble_eq_true rfl) (fun g C hR => eX6_add C hR hO w a1 a2 a3) l
def fX6_isAsked (w : Wd) (o : Nat) (a1 : Int32) : Option (Int32) :=
  (ldI 706 w (o + 1) (486 + a1)).bind fun v1 =>
  if v1 ≤ 0 then
    rtZ 0
  else
    rtZ 1
set_option maxRecDepth 4000 in
theorem eX6_isAsked {g : Gx} {E : Ex} (C : CC g E cX6_isAsked 2 RX6 0 0) (hR : RT g (some .boolean)) {o : Nat} (hO : shM E.2.2.2.2.2.1 o) (w : Wd) (a1 : Int32) : YO g E 2 (QP g E w) (fX6_isAsked w o a1) w 0 [(0, .ref (E.2.2.2.2.1 + o)), (1, .int a1)] [] := by
  unfold fX6_isAsked
  refine y_aload_n (n := 1) C dX6_isAsked_0 0 rfl rfl ?_
  refine y_get (ci := 6) (f := 0) (n := 4) C in_X6 hO.1 rfl (by decide) wd_731 rfl rfl dX6_isAsked_1 rfl ?_
  refine y_sipush (n := 7) C (486 : Int32) dX6_isAsked_4 (by decide) rfl ?_
  refine y_iload_n (n := 8) C dX6_isAsked_7 1 rfl rfl ?_
  refine y_iadd (n := 9) C dX6_isAsked_8 rfl ?_
  refine y_iald (n := 10) C hO.2.1 dX6_isAsked_9 rfl (fun v1 hv1 => ?_)
  refine y_if_le (tgt := 17) (n := 13) C dX6_isAsked_10 (by decide) rfl (fun h2 => ?_) (fun h2 => ?_)
  · refine y_iconst (n := 18) C (0 : Int32) dX6_isAsked_17 (by decide) rfl ?_
    exact y_rz C hR dX6_isAsked_18
  · refine y_iconst (n := 14) C (1 : Int32) dX6_isAsked_13 (by decide) rfl ?_
    refine y_goto (tgt := 18) C dX6_isAsked_14 (by decide) ?_
    exact y_rz C hR dX6_isAsked_18
theorem mX6_isAsked {E : Ex} {o : Nat} (hO : shM E.2.2.2.2.2.1 o) (w : Wd) (a1 : Int32) (l : Launch) : MP l yX6_isAsked cX6_isAsked 2 (some .boolean) { frames := 0, cells := 0, slots := 0, locals := 0 } E [.ref (E.2.2.2.2.1 + o), .int a1] w (fX6_isAsked w o a1) :=
  y_met (Qc := fun r => yQi E (r, w)) (by decide +kernel) (Nat.le_of_ble_eq_true rfl) (fun g C hR => eX6_isAsked C hR hO w a1) l
def lX6_asked_4 (o : Nat) : Nat → Wd → Int32 → Int32 → Option (Int32)
  | 0, _, _, _ => none
  | n + 1, w, x1, x2 =>
    if 6 ≤ x2 then
      some x1
    else
      (fX6_isAsked w o x2).bind fun v2 =>
      if v2 = 0 then
        lX6_asked_4 o n w (x1 + 0) (x2 + 1)
      else
        lX6_asked_4 o n w (x1 + 1) (x2 + 1)
set_option maxRecDepth 4000 in
theorem clX6_asked_4 {g : Gx} {E : Ex} (C : CC g E cX6_asked 3 RX6 1 21) (hR : RT g (some .int)) {o : Nat} (hO : shM E.2.2.2.2.2.1 o) (w : Wd) : ∀ (n : Nat) (x1 : Int32) (x2 : Int32), YO g E 3 (QP g E w) (lX6_asked_4 o n w x1 x2) w 4 [(0, .ref (E.2.2.2.2.1 + o)), (1, .int x1), (2, .int x2)] [] := by
  intro n
  induction n with
  | zero => intro x1 x2; exact y_no
  | succ n ih =>
    intro x1 x2
    rw [lX6_asked_4]
    refine y_iload_n (n := 5) C dX6_asked_4 2 rfl rfl ?_
    refine y_bipush (n := 7) C (6 : Int32) dX6_asked_5 (by decide) rfl ?_
    refine y_icmp_ge (tgt := 32) (n := 10) C dX6_asked_7 (by decide) rfl (fun h1 => ?_) (fun h1 => ?_)
    · refine y_iload_n (n := 33) C dX6_asked_32 1 rfl rfl ?_
      exact y_rp C hR dX6_asked_33
    · refine y_iload_n (n := 11) C dX6_asked_10 1 rfl rfl ?_
      refine y_aload_n (n := 12) C dX6_asked_11 0 rfl rfl ?_
      refine y_iload_n (n := 13) C dX6_asked_12 2 rfl rfl ?_
      refine y_cp (n := 16) C (fun r hr H locs la hP hS hl => y_runV (ci := 6) (st := [.int x1]) C ky_X6_isAsked wd_889 ⟨Nat.le_of_ble_eq_true rfl, Nat.le_of_ble_eq_true rfl⟩ hO.1 rfl (mX6_isAsked hO w x2 g.2.1 r hr) rfl (Nat.le_of_ble_eq_true rfl) rfl dX6_asked_13 hP hS hl) rfl (fun v2 hv2 => ?_)
      refine y_if_eq (tgt := 23) (n := 19) C dX6_asked_16 (by decide) rfl (fun h3 => ?_) (fun h3 => ?_)
      · refine y_iconst (n := 24) C (0 : Int32) dX6_asked_23 (by decide) rfl ?_
        refine y_iadd (n := 25) C dX6_asked_24 rfl ?_
        refine y_istore_n (n := 26) (ls' := [(1, .int (x1 + 0)), (0, .ref (E.2.2.2.2.1 + o)), (2, .int x2)]) C dX6_asked_25 (by decide) rfl rfl ?_
        refine y_iinc (n := 29) (v := x2 + 1) (ls' := [(2, .int (x2 + 1)), (1, .int (x1 + 0)), (0, .ref (E.2.2.2.2.1 + o))]) C dX6_asked_26 2 rfl rfl (by decide) rfl rfl ?_
        refine y_goto (tgt := 4) C dX6_asked_29 (by decide) ?_
        refine y_ls [2, 1, 0] rfl ?_
        exact ih (x1 + 0) (x2 + 1)
      · refine y_iconst (n := 20) C (1 : Int32) dX6_asked_19 (by decide) rfl ?_
        refine y_goto (tgt := 24) C dX6_asked_20 (by decide) ?_
        refine y_iadd (n := 25) C dX6_asked_24 rfl ?_
        refine y_istore_n (n := 26) (ls' := [(1, .int (x1 + 1)), (0, .ref (E.2.2.2.2.1 + o)), (2, .int x2)]) C dX6_asked_25 (by decide) rfl rfl ?_
        refine y_iinc (n := 29) (v := x2 + 1) (ls' := [(2, .int (x2 + 1)), (1, .int (x1 + 1)), (0, .ref (E.2.2.2.2.1 + o))]) C dX6_asked_26 2 rfl rfl (by decide) rfl rfl ?_
        refine y_goto (tgt := 4) C dX6_asked_29 (by decide) ?_
        refine y_ls [2, 1, 0] rfl ?_
        exact ih (x1 + 1) (x2 + 1)
def fX6_asked (w : Wd) (o : Nat)  : Option (Int32) :=
  lX6_asked_4 o 4096 w 0 0
set_option maxRecDepth 4000 in
theorem eX6_asked {g : Gx} {E : Ex} (C : CC g E cX6_asked 3 RX6 1 21) (hR : RT g (some .int)) {o : Nat} (hO : shM E.2.2.2.2.2.1 o) (w : Wd)  : YO g E 3 (QP g E w) (fX6_asked w o) w 0 [(0, .ref (E.2.2.2.2.1 + o))] [] := by
  unfold fX6_asked
  refine y_iconst (n := 1) C (0 : Int32) dX6_asked_0 (by decide) rfl ?_
  refine y_istore_n (n := 2) (ls' := [(1, .int 0), (0, .ref (E.2.2.2.2.1 + o))]) C dX6_asked_1 (by decide) rfl rfl ?_
  refine y_iconst (n := 3) C (0 : Int32) dX6_asked_2 (by decide) rfl ?_
  refine y_istore_n (n := 4) (ls' := [(2, .int 0), (1, .int 0), (0, .ref (E.2.2.2.2.1 + o))]) C dX6_asked_3 (by decide) rfl rfl ?_
  refine y_ls [2, 1, 0] rfl ?_
  exact clX6_asked_4 C hR hO w 4096 0 0
theorem mX6_asked {E : Ex} {o : Nat} (hO : shM E.2.2.2.2.2.1 o) (w : Wd)  (l : Launch) : MP l yX6_asked cX6_asked 3 (some .int) { frames := 1, cells := 0, slots := 0, locals := 21 } E [.ref (E.2.2.2.2.1 + o)] w (fX6_asked w o) :=
  y_met (Qc := fun r => yQi E (r, w)) (by decide +kernel) (Nat.le_of_ble_eq_true rfl) (fun g C hR => eX6_asked C hR hO w ) l
def fX6_left (w : Wd) (o : Nat) (a1 : Int32) : Option (Int32) :=
  (ldI 706 w (o + 1) (480 + a1)).bind fun v1 =>
  (ldI 706 w (o + 1) (568 + a1)).bind fun v2 =>
  some (v1 - v2)
set_option maxRecDepth 4000 in
theorem eX6_left {g : Gx} {E : Ex} (C : CC g E cX6_left 2 RX6 0 0) (hR : RT g (some .int)) {o : Nat} (hO : shM E.2.2.2.2.2.1 o) (w : Wd) (a1 : Int32) : YO g E 2 (QP g E w) (fX6_left w o a1) w 0 [(0, .ref (E.2.2.2.2.1 + o)), (1, .int a1)] [] := by
  unfold fX6_left
  refine y_aload_n (n := 1) C dX6_left_0 0 rfl rfl ?_
  refine y_get (ci := 6) (f := 0) (n := 4) C in_X6 hO.1 rfl (by decide) wd_731 rfl rfl dX6_left_1 rfl ?_
  refine y_sipush (n := 7) C (480 : Int32) dX6_left_4 (by decide) rfl ?_
  refine y_iload_n (n := 8) C dX6_left_7 1 rfl rfl ?_
  refine y_iadd (n := 9) C dX6_left_8 rfl ?_
  refine y_iald (n := 10) C hO.2.1 dX6_left_9 rfl (fun v1 hv1 => ?_)
  refine y_aload_n (n := 11) C dX6_left_10 0 rfl rfl ?_
  refine y_get (ci := 6) (f := 0) (n := 14) C in_X6 hO.1 rfl (by decide) wd_731 rfl rfl dX6_left_11 rfl ?_
  refine y_sipush (n := 17) C (568 : Int32) dX6_left_14 (by decide) rfl ?_
  refine y_iload_n (n := 18) C dX6_left_17 1 rfl rfl ?_
  refine y_iadd (n := 19) C dX6_left_18 rfl ?_
  refine y_iald (n := 20) C hO.2.1 dX6_left_19 rfl (fun v2 hv2 => ?_)
  refine y_isub (n := 21) C dX6_left_20 rfl ?_
  exact y_rp C hR dX6_left_21
theorem mX6_left {E : Ex} {o : Nat} (hO : shM E.2.2.2.2.2.1 o) (w : Wd) (a1 : Int32) (l : Launch) : MP l yX6_left cX6_left 2 (some .int) { frames := 0, cells := 0, slots := 0, locals := 0 } E [.ref (E.2.2.2.2.1 + o), .int a1] w (fX6_left w o a1) :=
  y_met (Qc := fun r => yQi E (r, w)) (by decide +kernel) (Nat.le_of_ble_eq_true rfl) (fun g C hR => eX6_left C hR hO w a1) l
def fX6_bound (w : Wd) (o : Nat) (a1 : Int32) : Option (Int32) :=
  (fX6_left w o a1).bind fun v1 =>
  if v1 = 0 then
    some 0
  else
    (ldI 706 w (o + 1) (568 + a1)).bind fun v3 =>
    (ldI 706 w (o + 1) ((240 + (40 * a1)) + v3)).bind fun v4 =>
    some v4
set_option maxRecDepth 4000 in
theorem eX6_bound {g : Gx} {E : Ex} (C : CC g E cX6_bound 2 RX6 1 21) (hR : RT g (some .int)) {o : Nat} (hO : shM E.2.2.2.2.2.1 o) (w : Wd) (a1 : Int32) : YO g E 2 (QP g E w) (fX6_bound w o a1) w 0 [(0, .ref (E.2.2.2.2.1 + o)), (1, .int a1)] [] := by
  unfold fX6_bound
  refine y_aload_n (n := 1) C dX6_bound_0 0 rfl rfl ?_
  refine y_iload_n (n := 2) C dX6_bound_1 1 rfl rfl ?_
  refine y_cp (n := 5) C (fun r hr H locs la hP hS hl => y_runV (ci := 6) (st := []) C ky_X6_left wd_905 ⟨Nat.le_of_ble_eq_true rfl, Nat.le_of_ble_eq_true rfl⟩ hO.1 rfl (mX6_left hO w a1 g.2.1 r hr) rfl (Nat.le_of_ble_eq_true rfl) rfl dX6_bound_2 hP hS hl) rfl (fun v1 hv1 => ?_)
  refine y_if_ne (tgt := 12) (n := 8) C dX6_bound_5 (by decide) rfl (fun h2 => ?_) (fun h2 => ?_)
  · refine y_aload_n (n := 13) C dX6_bound_12 0 rfl rfl ?_
    refine y_get (ci := 6) (f := 0) (n := 16) C in_X6 hO.1 rfl (by decide) wd_731 rfl rfl dX6_bound_13 rfl ?_
    refine y_sipush (n := 19) C (240 : Int32) dX6_bound_16 (by decide) rfl ?_
    refine y_bipush (n := 21) C (40 : Int32) dX6_bound_19 (by decide) rfl ?_
    refine y_iload_n (n := 22) C dX6_bound_21 1 rfl rfl ?_
    refine y_imul (n := 23) C dX6_bound_22 rfl ?_
    refine y_iadd (n := 24) C dX6_bound_23 rfl ?_
    refine y_aload_n (n := 25) C dX6_bound_24 0 rfl rfl ?_
    refine y_get (ci := 6) (f := 0) (n := 28) C in_X6 hO.1 rfl (by decide) wd_731 rfl rfl dX6_bound_25 rfl ?_
    refine y_sipush (n := 31) C (568 : Int32) dX6_bound_28 (by decide) rfl ?_
    refine y_iload_n (n := 32) C dX6_bound_31 1 rfl rfl ?_
    refine y_iadd (n := 33) C dX6_bound_32 rfl ?_
    refine y_iald (n := 34) C hO.2.1 dX6_bound_33 rfl (fun v3 hv3 => ?_)
    refine y_iadd (n := 35) C dX6_bound_34 rfl ?_
    refine y_iald (n := 36) C hO.2.1 dX6_bound_35 rfl (fun v4 hv4 => ?_)
    exact y_rp C hR dX6_bound_36
  · refine y_iconst (n := 9) C (0 : Int32) dX6_bound_8 (by decide) rfl ?_
    refine y_goto (tgt := 36) C dX6_bound_9 (by decide) ?_
    exact y_rp C hR dX6_bound_36
theorem mX6_bound {E : Ex} {o : Nat} (hO : shM E.2.2.2.2.2.1 o) (w : Wd) (a1 : Int32) (l : Launch) : MP l yX6_bound cX6_bound 2 (some .int) { frames := 1, cells := 0, slots := 0, locals := 21 } E [.ref (E.2.2.2.2.1 + o), .int a1] w (fX6_bound w o a1) :=
  y_met (Qc := fun r => yQi E (r, w)) (by decide +kernel) (Nat.le_of_ble_eq_true rfl) (fun g C hR => eX6_bound C hR hO w a1) l
def fX6_toldBound (w : Wd) (o : Nat) (a1 : Int32) : Option (Int32) :=
  (fX6_bound w o a1).bind fun v1 =>
  (ldI 706 w (o + 1) (492 + a1)).bind fun v2 =>
  if v2 ≤ v1 then
    (ldI 706 w (o + 1) (492 + a1)).bind fun v4 =>
    (ldI 706 w (o + 1) (574 + a1)).bind fun v5 =>
    if v5 = 1 then
      some v1
    else
      some (v1 - v4)
  else
    (ldI 706 w (o + 1) (574 + a1)).bind fun v7 =>
    if v7 = 1 then
      some v1
    else
      some 0
set_option maxRecDepth 4000 in
theorem eX6_toldBound {g : Gx} {E : Ex} (C : CC g E cX6_toldBound 4 RX6 2 42) (hR : RT g (some .int)) {o : Nat} (hO : shM E.2.2.2.2.2.1 o) (w : Wd) (a1 : Int32) : YO g E 4 (QP g E w) (fX6_toldBound w o a1) w 0 [(0, .ref (E.2.2.2.2.1 + o)), (1, .int a1)] [] := by
  unfold fX6_toldBound
  refine y_aload_n (n := 1) C dX6_toldBound_0 0 rfl rfl ?_
  refine y_iload_n (n := 2) C dX6_toldBound_1 1 rfl rfl ?_
  refine y_cp (n := 5) C (fun r hr H locs la hP hS hl => y_runV (ci := 6) (st := []) C ky_X6_bound wd_945 ⟨Nat.le_of_ble_eq_true rfl, Nat.le_of_ble_eq_true rfl⟩ hO.1 rfl (mX6_bound hO w a1 g.2.1 r hr) rfl (Nat.le_of_ble_eq_true rfl) rfl dX6_toldBound_2 hP hS hl) rfl (fun v1 hv1 => ?_)
  refine y_istore_n (n := 6) (ls' := [(2, .int v1), (0, .ref (E.2.2.2.2.1 + o)), (1, .int a1)]) C dX6_toldBound_5 (by decide) rfl rfl ?_
  refine y_iload_n (n := 7) C dX6_toldBound_6 0 rfl rfl ?_
  refine y_aload_n (n := 8) C dX6_toldBound_7 1 rfl rfl ?_
  refine y_get (ci := 6) (f := 0) (n := 11) C in_X6 hO.1 rfl (by decide) wd_731 rfl rfl dX6_toldBound_8 rfl ?_
  refine y_sipush (n := 14) C (492 : Int32) dX6_toldBound_11 (by decide) rfl ?_
  refine y_iload_n (n := 15) C dX6_toldBound_14 2 rfl rfl ?_
  refine y_iadd (n := 16) C dX6_toldBound_15 rfl ?_
  refine y_iald (n := 17) C hO.2.1 dX6_toldBound_16 rfl (fun v2 hv2 => ?_)
  refine y_icmp_ge (tgt := 24) (n := 20) C dX6_toldBound_17 (by decide) rfl (fun h3 => ?_) (fun h3 => ?_)
  · refine y_iload_n (n := 25) C dX6_toldBound_24 0 rfl rfl ?_
    refine y_aload_n (n := 26) C dX6_toldBound_25 1 rfl rfl ?_
    refine y_get (ci := 6) (f := 0) (n := 29) C in_X6 hO.1 rfl (by decide) wd_731 rfl rfl dX6_toldBound_26 rfl ?_
    refine y_sipush (n := 32) C (492 : Int32) dX6_toldBound_29 (by decide) rfl ?_
    refine y_iload_n (n := 33) C dX6_toldBound_32 2 rfl rfl ?_
    refine y_iadd (n := 34) C dX6_toldBound_33 rfl ?_
    refine y_iald (n := 35) C hO.2.1 dX6_toldBound_34 rfl (fun v4 hv4 => ?_)
    refine y_isub (n := 36) C dX6_toldBound_35 rfl ?_
    refine y_istore_n (n := 37) (ls' := [(3, .int (v1 - v4)), (2, .int v1), (0, .ref (E.2.2.2.2.1 + o)), (1, .int a1)]) C dX6_toldBound_36 (by decide) rfl rfl ?_
    refine y_aload_n (n := 38) C dX6_toldBound_37 2 rfl rfl ?_
    refine y_get (ci := 6) (f := 0) (n := 41) C in_X6 hO.1 rfl (by decide) wd_731 rfl rfl dX6_toldBound_38 rfl ?_
    refine y_sipush (n := 44) C (574 : Int32) dX6_toldBound_41 (by decide) rfl ?_
    refine y_iload_n (n := 45) C dX6_toldBound_44 3 rfl rfl ?_
    refine y_iadd (n := 46) C dX6_toldBound_45 rfl ?_
    refine y_iald (n := 47) C hO.2.1 dX6_toldBound_46 rfl (fun v5 hv5 => ?_)
    refine y_iconst (n := 48) C (1 : Int32) dX6_toldBound_47 (by decide) rfl ?_
    refine y_icmp_ne (tgt := 55) (n := 51) C dX6_toldBound_48 (by decide) rfl (fun h6 => ?_) (fun h6 => ?_)
    · refine y_iload_n (n := 56) C dX6_toldBound_55 0 rfl rfl ?_
      exact y_rp C hR dX6_toldBound_56
    · refine y_iload_n (n := 52) C dX6_toldBound_51 1 rfl rfl ?_
      refine y_goto (tgt := 56) C dX6_toldBound_52 (by decide) ?_
      exact y_rp C hR dX6_toldBound_56
  · refine y_iconst (n := 21) C (0 : Int32) dX6_toldBound_20 (by decide) rfl ?_
    refine y_goto (tgt := 36) C dX6_toldBound_21 (by decide) ?_
    refine y_istore_n (n := 37) (ls' := [(3, .int 0), (2, .int v1), (0, .ref (E.2.2.2.2.1 + o)), (1, .int a1)]) C dX6_toldBound_36 (by decide) rfl rfl ?_
    refine y_aload_n (n := 38) C dX6_toldBound_37 2 rfl rfl ?_
    refine y_get (ci := 6) (f := 0) (n := 41) C in_X6 hO.1 rfl (by decide) wd_731 rfl rfl dX6_toldBound_38 rfl ?_
    refine y_sipush (n := 44) C (574 : Int32) dX6_toldBound_41 (by decide) rfl ?_
    refine y_iload_n (n := 45) C dX6_toldBound_44 3 rfl rfl ?_
    refine y_iadd (n := 46) C dX6_toldBound_45 rfl ?_
    refine y_iald (n := 47) C hO.2.1 dX6_toldBound_46 rfl (fun v7 hv7 => ?_)
    refine y_iconst (n := 48) C (1 : Int32) dX6_toldBound_47 (by decide) rfl ?_
    refine y_icmp_ne (tgt := 55) (n := 51) C dX6_toldBound_48 (by decide) rfl (fun h8 => ?_) (fun h8 => ?_)
    · refine y_iload_n (n := 56) C dX6_toldBound_55 0 rfl rfl ?_
      exact y_rp C hR dX6_toldBound_56
    · refine y_iload_n (n := 52) C dX6_toldBound_51 1 rfl rfl ?_
      refine y_goto (tgt := 56) C dX6_toldBound_52 (by decide) ?_
      exact y_rp C hR dX6_toldBound_56
theorem mX6_toldBound {E : Ex} {o : Nat} (hO : shM E.2.2.2.2.2.1 o) (w : Wd) (a1 : Int32) (l : Launch) : MP l yX6_toldBound cX6_toldBound 4 (some .int) { frames := 2, cells := 0, slots := 0, locals := 42 } E [.ref (E.2.2.2.2.1 + o), .int a1] w (fX6_toldBound w o a1) :=
  y_met (Qc := fun r => yQi E (r, w)) (by decide +kernel) (Nat.le_of_ble_eq_true rfl) (fun g C hR => eX6_toldBound C hR hO w a1) l
def lX6_boundsTogether_4 (o : Nat) : Nat → Wd → Int32 → Int32 → Option (Int32)
  | 0, _, _, _ => none
  | n + 1, w, x1, x2 =>
    if 6 ≤ x2 then
      some x1
    else
      (ldI 706 w (o + 1) (486 + x2)).bind fun v2 =>
      (fX6_toldBound w o x2).bind fun v3 =>
      lX6_boundsTogether_4 o n w (x1 + (v2 * v3)) (x2 + 1)
set_option maxRecDepth 4000 in
theorem clX6_boundsTogether_4 {g : Gx} {E : Ex} (C : CC g E cX6_boundsTogether 3 RX6 3 65) (hR : RT g (some .int)) {o : Nat} (hO : shM E.2.2.2.2.2.1 o) (w : Wd) : ∀ (n : Nat) (x1 : Int32) (x2 : Int32), YO g E 3 (QP g E w) (lX6_boundsTogether_4 o n w x1 x2) w 4 [(0, .ref (E.2.2.2.2.1 + o)), (1, .int x1), (2, .int x2)] [] := by
  intro n
  induction n with
  | zero => intro x1 x2; exact y_no
  | succ n ih =>
    intro x1 x2
    rw [lX6_boundsTogether_4]
    refine y_iload_n (n := 5) C dX6_boundsTogether_4 2 rfl rfl ?_
    refine y_bipush (n := 7) C (6 : Int32) dX6_boundsTogether_5 (by decide) rfl ?_
    refine y_icmp_ge (tgt := 35) (n := 10) C dX6_boundsTogether_7 (by decide) rfl (fun h1 => ?_) (fun h1 => ?_)
    · refine y_iload_n (n := 36) C dX6_boundsTogether_35 1 rfl rfl ?_
      exact y_rp C hR dX6_boundsTogether_36
    · refine y_iload_n (n := 11) C dX6_boundsTogether_10 1 rfl rfl ?_
      refine y_aload_n (n := 12) C dX6_boundsTogether_11 0 rfl rfl ?_
      refine y_get (ci := 6) (f := 0) (n := 15) C in_X6 hO.1 rfl (by decide) wd_731 rfl rfl dX6_boundsTogether_12 rfl ?_
      refine y_sipush (n := 18) C (486 : Int32) dX6_boundsTogether_15 (by decide) rfl ?_
      refine y_iload_n (n := 19) C dX6_boundsTogether_18 2 rfl rfl ?_
      refine y_iadd (n := 20) C dX6_boundsTogether_19 rfl ?_
      refine y_iald (n := 21) C hO.2.1 dX6_boundsTogether_20 rfl (fun v2 hv2 => ?_)
      refine y_aload_n (n := 22) C dX6_boundsTogether_21 0 rfl rfl ?_
      refine y_iload_n (n := 23) C dX6_boundsTogether_22 2 rfl rfl ?_
      refine y_cp (n := 26) C (fun r hr H locs la hP hS hl => y_runV (ci := 6) (st := [.int v2, .int x1]) C ky_X6_toldBound wd_941 ⟨Nat.le_of_ble_eq_true rfl, Nat.le_of_ble_eq_true rfl⟩ hO.1 rfl (mX6_toldBound hO w x2 g.2.1 r hr) rfl (Nat.le_of_ble_eq_true rfl) rfl dX6_boundsTogether_23 hP hS hl) rfl (fun v3 hv3 => ?_)
      refine y_imul (n := 27) C dX6_boundsTogether_26 rfl ?_
      refine y_iadd (n := 28) C dX6_boundsTogether_27 rfl ?_
      refine y_istore_n (n := 29) (ls' := [(1, .int (x1 + (v2 * v3))), (0, .ref (E.2.2.2.2.1 + o)), (2, .int x2)]) C dX6_boundsTogether_28 (by decide) rfl rfl ?_
      refine y_iinc (n := 32) (v := x2 + 1) (ls' := [(2, .int (x2 + 1)), (1, .int (x1 + (v2 * v3))), (0, .ref (E.2.2.2.2.1 + o))]) C dX6_boundsTogether_29 2 rfl rfl (by decide) rfl rfl ?_
      refine y_goto (tgt := 4) C dX6_boundsTogether_32 (by decide) ?_
      refine y_ls [2, 1, 0] rfl ?_
      exact ih (x1 + (v2 * v3)) (x2 + 1)
def fX6_boundsTogether (w : Wd) (o : Nat)  : Option (Int32) :=
  lX6_boundsTogether_4 o 4096 w 0 0
set_option maxRecDepth 4000 in
theorem eX6_boundsTogether {g : Gx} {E : Ex} (C : CC g E cX6_boundsTogether 3 RX6 3 65) (hR : RT g (some .int)) {o : Nat} (hO : shM E.2.2.2.2.2.1 o) (w : Wd)  : YO g E 3 (QP g E w) (fX6_boundsTogether w o) w 0 [(0, .ref (E.2.2.2.2.1 + o))] [] := by
  unfold fX6_boundsTogether
  refine y_iconst (n := 1) C (0 : Int32) dX6_boundsTogether_0 (by decide) rfl ?_
  refine y_istore_n (n := 2) (ls' := [(1, .int 0), (0, .ref (E.2.2.2.2.1 + o))]) C dX6_boundsTogether_1 (by decide) rfl rfl ?_
  refine y_iconst (n := 3) C (0 : Int32) dX6_boundsTogether_2 (by decide) rfl ?_
  refine y_istore_n (n := 4) (ls' := [(2, .int 0), (1, .int 0), (0, .ref (E.2.2.2.2.1 + o))]) C dX6_boundsTogether_3 (by decide) rfl rfl ?_
  refine y_ls [2, 1, 0] rfl ?_
  exact clX6_boundsTogether_4 C hR hO w 4096 0 0
theorem mX6_boundsTogether {E : Ex} {o : Nat} (hO : shM E.2.2.2.2.2.1 o) (w : Wd)  (l : Launch) : MP l yX6_boundsTogether cX6_boundsTogether 3 (some .int) { frames := 3, cells := 0, slots := 0, locals := 65 } E [.ref (E.2.2.2.2.1 + o)] w (fX6_boundsTogether w o) :=
  y_met (Qc := fun r => yQi E (r, w)) (by decide +kernel) (Nat.le_of_ble_eq_true rfl) (fun g C hR => eX6_boundsTogether C hR hO w ) l
