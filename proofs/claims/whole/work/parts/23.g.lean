/-! X4_commandOfWord X4_isDigit X4_digitsFrom X4_numberFrom X4_numbersOf X4_wordLength X4_readCommand X5_isList X5_add X5_isWay X5_begin X5_setOfList X5_bribe X5_setDeleted X5_bring X5_cheapest X5_clearText X5_clerk X5_count -/
def lX4_commandOfWord_2 (o : Nat) : Nat → Wd → Int32 → Int32 → Option (Int32)
  | 0, _, _, _ => none
  | n + 1, w, x1, x2 =>
    if 7 ≤ x2 then
      some (-1)
    else
      (fX4_wordOf w x2).bind fun t2 =>
      if t2 < 7 then
        (fX4_isWord w o t2 x1).bind fun v3 =>
        if v3 = 0 then
          lX4_commandOfWord_2 o n w x1 (x2 + 1)
        else
          some x2
      else none
set_option maxRecDepth 4000 in
theorem clX4_commandOfWord_2 {g : Gx} {E : Ex} (C : CC g E cX4_commandOfWord 3 RX4 5 108) (hR : RT g (some .int)) {o : Nat} (hO : shT E.2.2.2.2.2.1 o) (w : Wd) : ∀ (n : Nat) (x1 : Int32) (x2 : Int32), YO g E 3 (QP g E w) (lX4_commandOfWord_2 o n w x1 x2) w 2 [(0, .ref (E.2.2.2.2.1 + o)), (1, .int x1), (2, .int x2)] [] := by
  intro n
  induction n with
  | zero => intro x1 x2; exact y_no
  | succ n ih =>
    intro x1 x2
    rw [lX4_commandOfWord_2]
    refine y_iload_n (n := 3) C dX4_commandOfWord_2 2 rfl rfl ?_
    refine y_bipush (n := 5) C (7 : Int32) dX4_commandOfWord_3 (by decide) rfl ?_
    refine y_icmp_ge (tgt := 28) (n := 8) C dX4_commandOfWord_5 (by decide) rfl (fun h1 => ?_) (fun h1 => ?_)
    · refine y_iconst (n := 29) C ((-1) : Int32) dX4_commandOfWord_28 (by decide) rfl ?_
      exact y_rp C hR dX4_commandOfWord_29
    · refine y_aload_n (n := 9) C dX4_commandOfWord_8 0 rfl rfl ?_
      refine y_iload_n (n := 10) C dX4_commandOfWord_9 2 rfl rfl ?_
      refine y_cs (n := 13) C (fun r hr H locs la hP hS hl => y_runS (st := [.ref (E.2.2.2.2.1 + o)]) C ky_X4_wordOf wd_503 ⟨Nat.le_of_ble_eq_true rfl, Nat.le_of_ble_eq_true rfl⟩ (mX4_wordOf w x2 g.2.1 r hr) rfl (Nat.le_of_ble_eq_true rfl) rfl dX4_commandOfWord_10 hP hS hl) rfl (fun t2 ht2 gt2 => ?_)
      refine y_iload_n (n := 14) C dX4_commandOfWord_13 1 rfl rfl ?_
      refine y_cp (n := 17) C (fun r hr H locs la hP hS hl => y_runV (ci := 4) (st := []) C ky_X4_isWord wd_513 ⟨Nat.le_of_ble_eq_true rfl, Nat.le_of_ble_eq_true rfl⟩ hO.1 rfl (mX4_isWord hO gt2 w x1 g.2.1 r hr) rfl (Nat.le_of_ble_eq_true rfl) rfl dX4_commandOfWord_14 hP hS hl) rfl (fun v3 hv3 => ?_)
      refine y_if_eq (tgt := 22) (n := 20) C dX4_commandOfWord_17 (by decide) rfl (fun h4 => ?_) (fun h4 => ?_)
      · refine y_iinc (n := 25) (v := x2 + 1) (ls' := [(2, .int (x2 + 1)), (0, .ref (E.2.2.2.2.1 + o)), (1, .int x1)]) C dX4_commandOfWord_22 2 rfl rfl (by decide) rfl rfl ?_
        refine y_goto (tgt := 2) C dX4_commandOfWord_25 (by decide) ?_
        refine y_ls [1, 2, 0] rfl ?_
        exact ih x1 (x2 + 1)
      · refine y_iload_n (n := 21) C dX4_commandOfWord_20 2 rfl rfl ?_
        exact y_rp C hR dX4_commandOfWord_21
def fX4_commandOfWord (w : Wd) (o : Nat) (a1 : Int32) : Option (Int32) :=
  lX4_commandOfWord_2 o 4096 w a1 0
set_option maxRecDepth 4000 in
theorem eX4_commandOfWord {g : Gx} {E : Ex} (C : CC g E cX4_commandOfWord 3 RX4 5 108) (hR : RT g (some .int)) {o : Nat} (hO : shT E.2.2.2.2.2.1 o) (w : Wd) (a1 : Int32) : YO g E 3 (QP g E w) (fX4_commandOfWord w o a1) w 0 [(0, .ref (E.2.2.2.2.1 + o)), (1, .int a1)] [] := by
  unfold fX4_commandOfWord
  refine y_iconst (n := 1) C (0 : Int32) dX4_commandOfWord_0 (by decide) rfl ?_
  refine y_istore_n (n := 2) (ls' := [(2, .int 0), (0, .ref (E.2.2.2.2.1 + o)), (1, .int a1)]) C dX4_commandOfWord_1 (by decide) rfl rfl ?_
  refine y_ls [1, 2, 0] rfl ?_
  exact clX4_commandOfWord_2 C hR hO w 4096 a1 0
theorem mX4_commandOfWord {E : Ex} {o : Nat} (hO : shT E.2.2.2.2.2.1 o) (w : Wd) (a1 : Int32) (l : Launch) : MP l yX4_commandOfWord cX4_commandOfWord 3 (some .int) { frames := 5, cells := 0, slots := 0, locals := 108 } E [.ref (E.2.2.2.2.1 + o), .int a1] w (fX4_commandOfWord w o a1) :=
  y_met (Qc := fun r => yQi E (r, w)) (by decide +kernel) (Nat.le_of_ble_eq_true rfl) (fun g C hR => eX4_commandOfWord C hR hO w a1) l
def fX4_isDigit (w : Wd) (a1 : Int32) : Option (Int32) :=
  if a1 < 48 then
    rtZ 0
  else
    if 57 < a1 then
      rtZ 0
    else
      rtZ 1
set_option maxRecDepth 4000 in
theorem eX4_isDigit {g : Gx} {E : Ex} (C : CC g E cX4_isDigit 1 RX4 0 0) (hR : RT g (some .boolean))  (w : Wd) (a1 : Int32) : YO g E 1 (QP g E w) (fX4_isDigit w a1) w 0 [(0, .int a1)] [] := by
  unfold fX4_isDigit
  refine y_iload_n (n := 1) C dX4_isDigit_0 0 rfl rfl ?_
  refine y_bipush (n := 3) C (48 : Int32) dX4_isDigit_1 (by decide) rfl ?_
  refine y_icmp_lt (tgt := 16) (n := 6) C dX4_isDigit_3 (by decide) rfl (fun h1 => ?_) (fun h1 => ?_)
  · refine y_iconst (n := 17) C (0 : Int32) dX4_isDigit_16 (by decide) rfl ?_
    exact y_rz C hR dX4_isDigit_17
  · refine y_iload_n (n := 7) C dX4_isDigit_6 0 rfl rfl ?_
    refine y_bipush (n := 9) C (57 : Int32) dX4_isDigit_7 (by decide) rfl ?_
    refine y_icmp_gt (tgt := 16) (n := 12) C dX4_isDigit_9 (by decide) rfl (fun h2 => ?_) (fun h2 => ?_)
    · refine y_iconst (n := 17) C (0 : Int32) dX4_isDigit_16 (by decide) rfl ?_
      exact y_rz C hR dX4_isDigit_17
    · refine y_iconst (n := 13) C (1 : Int32) dX4_isDigit_12 (by decide) rfl ?_
      refine y_goto (tgt := 17) C dX4_isDigit_13 (by decide) ?_
      exact y_rz C hR dX4_isDigit_17
theorem mX4_isDigit {E : Ex}  (w : Wd) (a1 : Int32) (l : Launch) : MP l yX4_isDigit cX4_isDigit 1 (some .boolean) { frames := 0, cells := 0, slots := 0, locals := 0 } E [.int a1] w (fX4_isDigit w a1) :=
  y_met (Qc := fun r => yQi E (r, w)) (by decide +kernel) (Nat.le_of_ble_eq_true rfl) (fun g C hR => eX4_isDigit C hR  w a1) l
def lX4_digitsFrom_14 (o : Nat) : Nat → Wd → Int32 → Int32 → Option (Int32)
  | 0, _, _, _ => none
  | n + 1, w, x1, x2 =>
    if 3 ≤ x2 then
      some x2
    else
      (fX4_signAt w o (x1 + x2)).bind fun v4 =>
      (fX4_isDigit w v4).bind fun v5 =>
      if v5 = 0 then
        some x2
      else
        lX4_digitsFrom_14 o n w x1 (x2 + 1)
set_option maxRecDepth 4000 in
theorem clX4_digitsFrom_14 {g : Gx} {E : Ex} (C : CC g E cX4_digitsFrom 3 RX4 1 21) (hR : RT g (some .int)) {o : Nat} (hO : shT E.2.2.2.2.2.1 o) (w : Wd) : ∀ (n : Nat) (x1 : Int32) (x2 : Int32), YO g E 3 (QP g E w) (lX4_digitsFrom_14 o n w x1 x2) w 14 [(0, .ref (E.2.2.2.2.1 + o)), (1, .int x1), (2, .int x2)] [] := by
  intro n
  induction n with
  | zero => intro x1 x2; exact y_no
  | succ n ih =>
    intro x1 x2
    rw [lX4_digitsFrom_14]
    refine y_iload_n (n := 15) C dX4_digitsFrom_14 2 rfl rfl ?_
    refine y_iconst (n := 16) C (3 : Int32) dX4_digitsFrom_15 (by decide) rfl ?_
    refine y_icmp_ge (tgt := 38) (n := 19) C dX4_digitsFrom_16 (by decide) rfl (fun h3 => ?_) (fun h3 => ?_)
    · refine y_iload_n (n := 39) C dX4_digitsFrom_38 2 rfl rfl ?_
      exact y_rp C hR dX4_digitsFrom_39
    · refine y_aload_n (n := 20) C dX4_digitsFrom_19 0 rfl rfl ?_
      refine y_iload_n (n := 21) C dX4_digitsFrom_20 1 rfl rfl ?_
      refine y_iload_n (n := 22) C dX4_digitsFrom_21 2 rfl rfl ?_
      refine y_iadd (n := 23) C dX4_digitsFrom_22 rfl ?_
      refine y_cp (n := 26) C (fun r hr H locs la hP hS hl => y_runV (ci := 4) (st := []) C ky_X4_signAt wd_495 ⟨Nat.le_of_ble_eq_true rfl, Nat.le_of_ble_eq_true rfl⟩ hO.1 rfl (mX4_signAt hO w (x1 + x2) g.2.1 r hr) rfl (Nat.le_of_ble_eq_true rfl) rfl dX4_digitsFrom_23 hP hS hl) rfl (fun v4 hv4 => ?_)
      refine y_cp (n := 29) C (fun r hr H locs la hP hS hl => y_runS (st := []) C ky_X4_isDigit wd_572 ⟨Nat.le_of_ble_eq_true rfl, Nat.le_of_ble_eq_true rfl⟩ (mX4_isDigit w v4 g.2.1 r hr) rfl (Nat.le_of_ble_eq_true rfl) rfl dX4_digitsFrom_26 hP hS hl) rfl (fun v5 hv5 => ?_)
      refine y_if_eq (tgt := 38) (n := 32) C dX4_digitsFrom_29 (by decide) rfl (fun h6 => ?_) (fun h6 => ?_)
      · refine y_iload_n (n := 39) C dX4_digitsFrom_38 2 rfl rfl ?_
        exact y_rp C hR dX4_digitsFrom_39
      · refine y_iinc (n := 35) (v := x2 + 1) (ls' := [(2, .int (x2 + 1)), (0, .ref (E.2.2.2.2.1 + o)), (1, .int x1)]) C dX4_digitsFrom_32 2 rfl rfl (by decide) rfl rfl ?_
        refine y_goto (tgt := 14) C dX4_digitsFrom_35 (by decide) ?_
        refine y_ls [1, 2, 0] rfl ?_
        exact ih x1 (x2 + 1)
def fX4_digitsFrom (w : Wd) (o : Nat) (a1 : Int32) : Option (Int32) :=
  (fX4_signAt w o a1).bind fun v1 =>
  if v1 = 48 then
    some 1
  else
    lX4_digitsFrom_14 o 4096 w a1 0
set_option maxRecDepth 4000 in
theorem eX4_digitsFrom {g : Gx} {E : Ex} (C : CC g E cX4_digitsFrom 3 RX4 1 21) (hR : RT g (some .int)) {o : Nat} (hO : shT E.2.2.2.2.2.1 o) (w : Wd) (a1 : Int32) : YO g E 3 (QP g E w) (fX4_digitsFrom w o a1) w 0 [(0, .ref (E.2.2.2.2.1 + o)), (1, .int a1)] [] := by
  unfold fX4_digitsFrom
  refine y_aload_n (n := 1) C dX4_digitsFrom_0 0 rfl rfl ?_
  refine y_iload_n (n := 2) C dX4_digitsFrom_1 1 rfl rfl ?_
  refine y_cp (n := 5) C (fun r hr H locs la hP hS hl => y_runV (ci := 4) (st := []) C ky_X4_signAt wd_495 ⟨Nat.le_of_ble_eq_true rfl, Nat.le_of_ble_eq_true rfl⟩ hO.1 rfl (mX4_signAt hO w a1 g.2.1 r hr) rfl (Nat.le_of_ble_eq_true rfl) rfl dX4_digitsFrom_2 hP hS hl) rfl (fun v1 hv1 => ?_)
  refine y_bipush (n := 7) C (48 : Int32) dX4_digitsFrom_5 (by decide) rfl ?_
  refine y_icmp_ne (tgt := 12) (n := 10) C dX4_digitsFrom_7 (by decide) rfl (fun h2 => ?_) (fun h2 => ?_)
  · refine y_iconst (n := 13) C (0 : Int32) dX4_digitsFrom_12 (by decide) rfl ?_
    refine y_istore_n (n := 14) (ls' := [(2, .int 0), (0, .ref (E.2.2.2.2.1 + o)), (1, .int a1)]) C dX4_digitsFrom_13 (by decide) rfl rfl ?_
    refine y_ls [1, 2, 0] rfl ?_
    exact clX4_digitsFrom_14 C hR hO w 4096 a1 0
  · refine y_iconst (n := 11) C (1 : Int32) dX4_digitsFrom_10 (by decide) rfl ?_
    exact y_rp C hR dX4_digitsFrom_11
theorem mX4_digitsFrom {E : Ex} {o : Nat} (hO : shT E.2.2.2.2.2.1 o) (w : Wd) (a1 : Int32) (l : Launch) : MP l yX4_digitsFrom cX4_digitsFrom 3 (some .int) { frames := 1, cells := 0, slots := 0, locals := 21 } E [.ref (E.2.2.2.2.1 + o), .int a1] w (fX4_digitsFrom w o a1) :=
  y_met (Qc := fun r => yQi E (r, w)) (by decide +kernel) (Nat.le_of_ble_eq_true rfl) (fun g C hR => eX4_digitsFrom C hR hO w a1) l
def lX4_numberFrom_5 (o : Nat) : Nat → Wd → Int32 → Int32 → Int32 → Int32 → Option (Int32)
  | 0, _, _, _, _, _ => none
  | n + 1, w, x1, x2, x3, x4 =>
    if x2 ≤ x4 then
      some x3
    else
      (fX4_signAt w o (x1 + x4)).bind fun v2 =>
      lX4_numberFrom_5 o n w x1 x2 ((10 * x3) + (v2 - 48)) (x4 + 1)
set_option maxRecDepth 4000 in
theorem clX4_numberFrom_5 {g : Gx} {E : Ex} (C : CC g E cX4_numberFrom 5 RX4 1 21) (hR : RT g (some .int)) {o : Nat} (hO : shT E.2.2.2.2.2.1 o) (w : Wd) : ∀ (n : Nat) (x1 : Int32) (x2 : Int32) (x3 : Int32) (x4 : Int32), YO g E 5 (QP g E w) (lX4_numberFrom_5 o n w x1 x2 x3 x4) w 5 [(0, .ref (E.2.2.2.2.1 + o)), (1, .int x1), (2, .int x2), (3, .int x3), (4, .int x4)] [] := by
  intro n
  induction n with
  | zero => intro x1 x2 x3 x4; exact y_no
  | succ n ih =>
    intro x1 x2 x3 x4
    rw [lX4_numberFrom_5]
    refine y_iload (n := 7) C dX4_numberFrom_5 4 rfl rfl ?_
    refine y_iload_n (n := 8) C dX4_numberFrom_7 2 rfl rfl ?_
    refine y_icmp_ge (tgt := 34) (n := 11) C dX4_numberFrom_8 (by decide) rfl (fun h1 => ?_) (fun h1 => ?_)
    · refine y_iload_n (n := 35) C dX4_numberFrom_34 3 rfl rfl ?_
      exact y_rp C hR dX4_numberFrom_35
    · refine y_bipush (n := 13) C (10 : Int32) dX4_numberFrom_11 (by decide) rfl ?_
      refine y_iload_n (n := 14) C dX4_numberFrom_13 3 rfl rfl ?_
      refine y_imul (n := 15) C dX4_numberFrom_14 rfl ?_
      refine y_aload_n (n := 16) C dX4_numberFrom_15 0 rfl rfl ?_
      refine y_iload_n (n := 17) C dX4_numberFrom_16 1 rfl rfl ?_
      refine y_iload (n := 19) C dX4_numberFrom_17 4 rfl rfl ?_
      refine y_iadd (n := 20) C dX4_numberFrom_19 rfl ?_
      refine y_cp (n := 23) C (fun r hr H locs la hP hS hl => y_runV (ci := 4) (st := [.int (10 * x3)]) C ky_X4_signAt wd_495 ⟨Nat.le_of_ble_eq_true rfl, Nat.le_of_ble_eq_true rfl⟩ hO.1 rfl (mX4_signAt hO w (x1 + x4) g.2.1 r hr) rfl (Nat.le_of_ble_eq_true rfl) rfl dX4_numberFrom_20 hP hS hl) rfl (fun v2 hv2 => ?_)
      refine y_bipush (n := 25) C (48 : Int32) dX4_numberFrom_23 (by decide) rfl ?_
      refine y_isub (n := 26) C dX4_numberFrom_25 rfl ?_
      refine y_iadd (n := 27) C dX4_numberFrom_26 rfl ?_
      refine y_istore_n (n := 28) (ls' := [(3, .int ((10 * x3) + (v2 - 48))), (0, .ref (E.2.2.2.2.1 + o)), (1, .int x1), (2, .int x2), (4, .int x4)]) C dX4_numberFrom_27 (by decide) rfl rfl ?_
      refine y_iinc (n := 31) (v := x4 + 1) (ls' := [(4, .int (x4 + 1)), (3, .int ((10 * x3) + (v2 - 48))), (0, .ref (E.2.2.2.2.1 + o)), (1, .int x1), (2, .int x2)]) C dX4_numberFrom_28 4 rfl rfl (by decide) rfl rfl ?_
      refine y_goto (tgt := 5) C dX4_numberFrom_31 (by decide) ?_
      refine y_ls [2, 3, 4, 1, 0] rfl ?_
      exact ih x1 x2 ((10 * x3) + (v2 - 48)) (x4 + 1)
def fX4_numberFrom (w : Wd) (o : Nat) (a1 : Int32) (a2 : Int32) : Option (Int32) :=
  lX4_numberFrom_5 o 4096 w a1 a2 0 0
set_option maxRecDepth 4000 in
theorem eX4_numberFrom {g : Gx} {E : Ex} (C : CC g E cX4_numberFrom 5 RX4 1 21) (hR : RT g (some .int)) {o : Nat} (hO : shT E.2.2.2.2.2.1 o) (w : Wd) (a1 : Int32) (a2 : Int32) : YO g E 5 (QP g E w) (fX4_numberFrom w o a1 a2) w 0 [(0, .ref (E.2.2.2.2.1 + o)), (1, .int a1), (2, .int a2)] [] := by
  unfold fX4_numberFrom
  refine y_iconst (n := 1) C (0 : Int32) dX4_numberFrom_0 (by decide) rfl ?_
  refine y_istore_n (n := 2) (ls' := [(3, .int 0), (0, .ref (E.2.2.2.2.1 + o)), (1, .int a1), (2, .int a2)]) C dX4_numberFrom_1 (by decide) rfl rfl ?_
  refine y_iconst (n := 3) C (0 : Int32) dX4_numberFrom_2 (by decide) rfl ?_
  refine y_istore (n := 5) (ls' := [(4, .int 0), (3, .int 0), (0, .ref (E.2.2.2.2.1 + o)), (1, .int a1), (2, .int a2)]) C dX4_numberFrom_3 (by decide) rfl rfl ?_
  refine y_ls [2, 3, 4, 1, 0] rfl ?_
  exact clX4_numberFrom_5 C hR hO w 4096 a1 a2 0 0
theorem mX4_numberFrom {E : Ex} {o : Nat} (hO : shT E.2.2.2.2.2.1 o) (w : Wd) (a1 : Int32) (a2 : Int32) (l : Launch) : MP l yX4_numberFrom cX4_numberFrom 5 (some .int) { frames := 1, cells := 0, slots := 0, locals := 21 } E [.ref (E.2.2.2.2.1 + o), .int a1, .int a2] w (fX4_numberFrom w o a1 a2) :=
  y_met (Qc := fun r => yQi E (r, w)) (by decide +kernel) (Nat.le_of_ble_eq_true rfl) (fun g C hR => eX4_numberFrom C hR hO w a1 a2) l
def fX4_numbersOf (w : Wd) (a1 : Int32) : Option (Int32) :=
  if a1 = 0 then
    some 3
  else
  if a1 = 1 then
    some 2
  else
  if a1 = 2 then
    some 2
  else
  if a1 = 3 then
    some 2
  else
  some 1
set_option maxRecDepth 4000 in
theorem eX4_numbersOf {g : Gx} {E : Ex} (C : CC g E cX4_numbersOf 1 RX4 0 0) (hR : RT g (some .int))  (w : Wd) (a1 : Int32) : YO g E 1 (QP g E w) (fX4_numbersOf w a1) w 0 [(0, .int a1)] [] := by
  unfold fX4_numbersOf
  refine y_iload_n (n := 1) C dX4_numbersOf_0 0 rfl rfl ?_
  refine y_if (fun h1 => ?_) (fun h1 => ?_)
  · refine y_swIn (tgt := 32) C 31 dX4_numbersOf_1 (by rw [h1]; decide) (by rw [h1]; decide) (by rw [h1]; rfl) (by decide) ?_
    refine y_iconst (n := 33) C (3 : Int32) dX4_numbersOf_32 (by decide) rfl ?_
    exact y_rp C hR dX4_numbersOf_33
  refine y_if (fun h2 => ?_) (fun h2 => ?_)
  · refine y_swIn (tgt := 34) C 33 dX4_numbersOf_1 (by rw [h2]; decide) (by rw [h2]; decide) (by rw [h2]; rfl) (by decide) ?_
    refine y_iconst (n := 35) C (2 : Int32) dX4_numbersOf_34 (by decide) rfl ?_
    exact y_rp C hR dX4_numbersOf_35
  refine y_if (fun h3 => ?_) (fun h3 => ?_)
  · refine y_swIn (tgt := 34) C 33 dX4_numbersOf_1 (by rw [h3]; decide) (by rw [h3]; decide) (by rw [h3]; rfl) (by decide) ?_
    refine y_iconst (n := 35) C (2 : Int32) dX4_numbersOf_34 (by decide) rfl ?_
    exact y_rp C hR dX4_numbersOf_35
  refine y_if (fun h4 => ?_) (fun h4 => ?_)
  · refine y_swIn (tgt := 34) C 33 dX4_numbersOf_1 (by rw [h4]; decide) (by rw [h4]; decide) (by rw [h4]; rfl) (by decide) ?_
    refine y_iconst (n := 35) C (2 : Int32) dX4_numbersOf_34 (by decide) rfl ?_
    exact y_rp C hR dX4_numbersOf_35
  refine y_swOut (tgt := 36) C dX4_numbersOf_1 (by have gh1 := sw_ne (k := 0) (by decide) h1; have gh2 := sw_ne (k := 1) (by decide) h2; have gh3 := sw_ne (k := 2) (by decide) h3; have gh4 := sw_ne (k := 3) (by decide) h4; omega) (by decide) ?_
  refine y_iconst (n := 37) C (1 : Int32) dX4_numbersOf_36 (by decide) rfl ?_
  exact y_rp C hR dX4_numbersOf_37
theorem mX4_numbersOf {E : Ex}  (w : Wd) (a1 : Int32) (l : Launch) : MP l yX4_numbersOf cX4_numbersOf 1 (some .int) { frames := 0, cells := 0, slots := 0, locals := 0 } E [.int a1] w (fX4_numbersOf w a1) :=
  y_met (Qc := fun r => yQi E (r, w)) (by decide +kernel) (Nat.le_of_ble_eq_true rfl) (fun g C hR => eX4_numbersOf C hR  w a1) l
def lX4_wordLength_2 (o : Nat) : Nat → Wd → Int32 → Option (Int32)
  | 0, _, _ => none
  | n + 1, w, x1 =>
    if (w.1 o 1) ≤ x1 then
      some x1
    else
      (fX4_signAt w o x1).bind fun v2 =>
      if v2 < 97 then
        some x1
      else
        (fX4_signAt w o x1).bind fun v4 =>
        if 122 < v4 then
          some x1
        else
          lX4_wordLength_2 o n w (x1 + 1)
set_option maxRecDepth 4000 in
theorem clX4_wordLength_2 {g : Gx} {E : Ex} (C : CC g E cX4_wordLength 2 RX4 1 21) (hR : RT g (some .int)) {o : Nat} (hO : shT E.2.2.2.2.2.1 o) (w : Wd) : ∀ (n : Nat) (x1 : Int32), YO g E 2 (QP g E w) (lX4_wordLength_2 o n w x1) w 2 [(0, .ref (E.2.2.2.2.1 + o)), (1, .int x1)] [] := by
  intro n
  induction n with
  | zero => intro x1; exact y_no
  | succ n ih =>
    intro x1
    rw [lX4_wordLength_2]
    refine y_iload_n (n := 3) C dX4_wordLength_2 1 rfl rfl ?_
    refine y_aload_n (n := 4) C dX4_wordLength_3 0 rfl rfl ?_
    refine y_get (ci := 4) (f := 1) (n := 7) C in_X4 hO.1 rfl (by decide) wd_173 rfl rfl dX4_wordLength_4 rfl ?_
    refine y_icmp_ge (tgt := 36) (n := 10) C dX4_wordLength_7 (by decide) rfl (fun h1 => ?_) (fun h1 => ?_)
    · refine y_iload_n (n := 37) C dX4_wordLength_36 1 rfl rfl ?_
      exact y_rp C hR dX4_wordLength_37
    · refine y_aload_n (n := 11) C dX4_wordLength_10 0 rfl rfl ?_
      refine y_iload_n (n := 12) C dX4_wordLength_11 1 rfl rfl ?_
      refine y_cp (n := 15) C (fun r hr H locs la hP hS hl => y_runV (ci := 4) (st := []) C ky_X4_signAt wd_495 ⟨Nat.le_of_ble_eq_true rfl, Nat.le_of_ble_eq_true rfl⟩ hO.1 rfl (mX4_signAt hO w x1 g.2.1 r hr) rfl (Nat.le_of_ble_eq_true rfl) rfl dX4_wordLength_12 hP hS hl) rfl (fun v2 hv2 => ?_)
      refine y_bipush (n := 17) C (97 : Int32) dX4_wordLength_15 (by decide) rfl ?_
      refine y_icmp_lt (tgt := 36) (n := 20) C dX4_wordLength_17 (by decide) rfl (fun h3 => ?_) (fun h3 => ?_)
      · refine y_iload_n (n := 37) C dX4_wordLength_36 1 rfl rfl ?_
        exact y_rp C hR dX4_wordLength_37
      · refine y_aload_n (n := 21) C dX4_wordLength_20 0 rfl rfl ?_
        refine y_iload_n (n := 22) C dX4_wordLength_21 1 rfl rfl ?_
        refine y_cp (n := 25) C (fun r hr H locs la hP hS hl => y_runV (ci := 4) (st := []) C ky_X4_signAt wd_495 ⟨Nat.le_of_ble_eq_true rfl, Nat.le_of_ble_eq_true rfl⟩ hO.1 rfl (mX4_signAt hO w x1 g.2.1 r hr) rfl (Nat.le_of_ble_eq_true rfl) rfl dX4_wordLength_22 hP hS hl) rfl (fun v4 hv4 => ?_)
        refine y_bipush (n := 27) C (122 : Int32) dX4_wordLength_25 (by decide) rfl ?_
        refine y_icmp_gt (tgt := 36) (n := 30) C dX4_wordLength_27 (by decide) rfl (fun h5 => ?_) (fun h5 => ?_)
        · refine y_iload_n (n := 37) C dX4_wordLength_36 1 rfl rfl ?_
          exact y_rp C hR dX4_wordLength_37
        · refine y_iinc (n := 33) (v := x1 + 1) (ls' := [(1, .int (x1 + 1)), (0, .ref (E.2.2.2.2.1 + o))]) C dX4_wordLength_30 1 rfl rfl (by decide) rfl rfl ?_
          refine y_goto (tgt := 2) C dX4_wordLength_33 (by decide) ?_
          refine y_ls [1, 0] rfl ?_
          exact ih (x1 + 1)
def fX4_wordLength (w : Wd) (o : Nat)  : Option (Int32) :=
  lX4_wordLength_2 o 4096 w 0
set_option maxRecDepth 4000 in
theorem eX4_wordLength {g : Gx} {E : Ex} (C : CC g E cX4_wordLength 2 RX4 1 21) (hR : RT g (some .int)) {o : Nat} (hO : shT E.2.2.2.2.2.1 o) (w : Wd)  : YO g E 2 (QP g E w) (fX4_wordLength w o) w 0 [(0, .ref (E.2.2.2.2.1 + o))] [] := by
  unfold fX4_wordLength
  refine y_iconst (n := 1) C (0 : Int32) dX4_wordLength_0 (by decide) rfl ?_
  refine y_istore_n (n := 2) (ls' := [(1, .int 0), (0, .ref (E.2.2.2.2.1 + o))]) C dX4_wordLength_1 (by decide) rfl rfl ?_
  refine y_ls [1, 0] rfl ?_
  exact clX4_wordLength_2 C hR hO w 4096 0
theorem mX4_wordLength {E : Ex} {o : Nat} (hO : shT E.2.2.2.2.2.1 o) (w : Wd)  (l : Launch) : MP l yX4_wordLength cX4_wordLength 2 (some .int) { frames := 1, cells := 0, slots := 0, locals := 21 } E [.ref (E.2.2.2.2.1 + o)] w (fX4_wordLength w o) :=
  y_met (Qc := fun r => yQi E (r, w)) (by decide +kernel) (Nat.le_of_ble_eq_true rfl) (fun g C hR => eX4_wordLength C hR hO w ) l
def lX4_readCommand_34 (o : Nat) : Nat → Wd → Int32 → Int32 → Int32 → Option (Int32 × Wd)
  | 0, _, _, _, _ => none
  | n + 1, w, x1, x2, x3 =>
    if x2 ≤ x3 then
      if (w.1 o 1) ≤ x1 then
        some ((-1), w)
      else
        some (x1, w)
    else
      (fX4_signAt w o x1).bind fun v8 =>
      if v8 = 32 then
        (fX4_digitsFrom w o (x1 + 1)).bind fun v10 =>
        if v10 = 0 then
          some (x1 + 1, w)
        else
          (fX4_numberFrom w o (x1 + 1) v10).bind fun v12 =>
          (fX5_put w (o + 2) 3 x3 v12).bind fun w13 =>
          lX4_readCommand_34 o n w13 ((x1 + 1) + v10) x2 (x3 + 1)
      else
        some (x1, w)
set_option maxRecDepth 4000 in
theorem clX4_readCommand_34 {g : Gx} {E : Ex} (C : CC g E cX4_readCommand 5 RX4 6 130) (hR : RT g (some .int)) {o : Nat} (hO : shT E.2.2.2.2.2.1 o) : ∀ (n : Nat) (w : Wd) (x1 : Int32) (x2 : Int32) (x3 : Int32), YO g E 5 (QI g E) (lX4_readCommand_34 o n w x1 x2 x3) w 34 [(0, .ref (E.2.2.2.2.1 + o)), (1, .int x1), (2, .int x2), (3, .int x3)] [] := by
  intro n
  induction n with
  | zero => intro w x1 x2 x3; exact y_no
  | succ n ih =>
    intro w x1 x2 x3
    rw [lX4_readCommand_34]
    refine y_iload_n (n := 35) C dX4_readCommand_34 3 rfl rfl ?_
    refine y_iload_n (n := 36) C dX4_readCommand_35 2 rfl rfl ?_
    refine y_icmp_ge (tgt := 94) (n := 39) C dX4_readCommand_36 (by decide) rfl (fun h6 => ?_) (fun h6 => ?_)
    · refine y_iload_n (n := 95) C dX4_readCommand_94 1 rfl rfl ?_
      refine y_aload_n (n := 96) C dX4_readCommand_95 0 rfl rfl ?_
      refine y_get (ci := 4) (f := 1) (n := 99) C in_X4 hO.1 rfl (by decide) wd_173 rfl rfl dX4_readCommand_96 rfl ?_
      refine y_icmp_ge (tgt := 106) (n := 102) C dX4_readCommand_99 (by decide) rfl (fun h7 => ?_) (fun h7 => ?_)
      · refine y_iconst (n := 107) C ((-1) : Int32) dX4_readCommand_106 (by decide) rfl ?_
        exact y_ri C hR dX4_readCommand_107
      · refine y_iload_n (n := 103) C dX4_readCommand_102 1 rfl rfl ?_
        refine y_goto (tgt := 107) C dX4_readCommand_103 (by decide) ?_
        exact y_ri C hR dX4_readCommand_107
    · refine y_aload_n (n := 40) C dX4_readCommand_39 0 rfl rfl ?_
      refine y_iload_n (n := 41) C dX4_readCommand_40 1 rfl rfl ?_
      refine y_cp (n := 44) C (fun r hr H locs la hP hS hl => y_runV (ci := 4) (st := []) C ky_X4_signAt wd_495 ⟨Nat.le_of_ble_eq_true rfl, Nat.le_of_ble_eq_true rfl⟩ hO.1 rfl (mX4_signAt hO w x1 g.2.1 r hr) rfl (Nat.le_of_ble_eq_true rfl) rfl dX4_readCommand_41 hP hS hl) rfl (fun v8 hv8 => ?_)
      refine y_bipush (n := 46) C (32 : Int32) dX4_readCommand_44 (by decide) rfl ?_
      refine y_icmp_eq (tgt := 51) (n := 49) C dX4_readCommand_46 (by decide) rfl (fun h9 => ?_) (fun h9 => ?_)
      · refine y_iinc (n := 54) (v := x1 + 1) (ls' := [(1, .int (x1 + 1)), (0, .ref (E.2.2.2.2.1 + o)), (2, .int x2), (3, .int x3)]) C dX4_readCommand_51 1 rfl rfl (by decide) rfl rfl ?_
        refine y_aload_n (n := 55) C dX4_readCommand_54 1 rfl rfl ?_
        refine y_iload_n (n := 56) C dX4_readCommand_55 0 rfl rfl ?_
        refine y_cp (n := 59) C (fun r hr H locs la hP hS hl => y_runV (ci := 4) (st := []) C ky_X4_digitsFrom wd_568 ⟨Nat.le_of_ble_eq_true rfl, Nat.le_of_ble_eq_true rfl⟩ hO.1 rfl (mX4_digitsFrom hO w (x1 + 1) g.2.1 r hr) rfl (Nat.le_of_ble_eq_true rfl) rfl dX4_readCommand_56 hP hS hl) rfl (fun v10 hv10 => ?_)
        refine y_istore (n := 61) (ls' := [(4, .int v10), (1, .int (x1 + 1)), (0, .ref (E.2.2.2.2.1 + o)), (2, .int x2), (3, .int x3)]) C dX4_readCommand_59 (by decide) rfl rfl ?_
        refine y_iload (n := 63) C dX4_readCommand_61 0 rfl rfl ?_
        refine y_if_ne (tgt := 68) (n := 66) C dX4_readCommand_63 (by decide) rfl (fun h11 => ?_) (fun h11 => ?_)
        · refine y_aload_n (n := 69) C dX4_readCommand_68 2 rfl rfl ?_
          refine y_get (ci := 4) (f := 3) (n := 72) C in_X4 hO.1 rfl (by decide) wd_177 rfl rfl dX4_readCommand_69 rfl ?_
          refine y_iload_n (n := 73) C dX4_readCommand_72 4 rfl rfl ?_
          refine y_aload_n (n := 74) C dX4_readCommand_73 2 rfl rfl ?_
          refine y_iload_n (n := 75) C dX4_readCommand_74 1 rfl rfl ?_
          refine y_iload (n := 77) C dX4_readCommand_75 0 rfl rfl ?_
          refine y_cp (n := 80) C (fun r hr H locs la hP hS hl => y_runV (ci := 4) (st := [.int x3, .ref (E.2.2.2.2.1 + (o + 2))]) C ky_X4_numberFrom wd_575 ⟨Nat.le_of_ble_eq_true rfl, Nat.le_of_ble_eq_true rfl⟩ hO.1 rfl (mX4_numberFrom hO w (x1 + 1) v10 g.2.1 r hr) rfl (Nat.le_of_ble_eq_true rfl) rfl dX4_readCommand_77 hP hS hl) rfl (fun v12 hv12 => ?_)
          refine y_cv (n := 83) C (fun r hr H locs la hP hS hl => y_runSN (st := []) C ky_X5_put wd_579 ⟨Nat.le_of_ble_eq_true rfl, Nat.le_of_ble_eq_true rfl⟩ (mX5_put hO.2.2 w x3 v12 g.2.1 r hr) rfl (Nat.le_of_ble_eq_true rfl) rfl dX4_readCommand_80 hP hS hl) rfl (fun w13 hw13 => ?_)
          refine y_iload_n (n := 84) C dX4_readCommand_83 1 rfl rfl ?_
          refine y_iload (n := 86) C dX4_readCommand_84 0 rfl rfl ?_
          refine y_iadd (n := 87) C dX4_readCommand_86 rfl ?_
          refine y_istore_n (n := 88) (ls' := [(1, .int ((x1 + 1) + v10)), (4, .int v10), (0, .ref (E.2.2.2.2.1 + o)), (2, .int x2), (3, .int x3)]) C dX4_readCommand_87 (by decide) rfl rfl ?_
          refine y_iinc (n := 91) (v := x3 + 1) (ls' := [(3, .int (x3 + 1)), (1, .int ((x1 + 1) + v10)), (4, .int v10), (0, .ref (E.2.2.2.2.1 + o)), (2, .int x2)]) C dX4_readCommand_88 4 rfl rfl (by decide) rfl rfl ?_
          refine y_goto (tgt := 34) C dX4_readCommand_91 (by decide) ?_
          refine y_ls [3, 1, 4, 0] rfl ?_
          exact ih w13 ((x1 + 1) + v10) x2 (x3 + 1)
        · refine y_iload_n (n := 67) C dX4_readCommand_66 1 rfl rfl ?_
          exact y_ri C hR dX4_readCommand_67
      · refine y_iload_n (n := 50) C dX4_readCommand_49 1 rfl rfl ?_
        exact y_ri C hR dX4_readCommand_50
def fX4_readCommand (w : Wd) (o : Nat)  : Option (Int32 × Wd) :=
  (fX4_wordLength w o).bind fun v1 =>
  (fX4_commandOfWord w o v1).bind fun v2 =>
  (pI w o 2 v2).bind fun w3 =>
  if (w3.1 o 2) = (-1) then
    some (0, w3)
  else
    (fX4_numbersOf w3 (w3.1 o 2)).bind fun v5 =>
    lX4_readCommand_34 o 4096 w3 v1 v5 0
set_option maxRecDepth 4000 in
theorem eX4_readCommand {g : Gx} {E : Ex} (C : CC g E cX4_readCommand 5 RX4 6 130) (hR : RT g (some .int)) {o : Nat} (hO : shT E.2.2.2.2.2.1 o) (w : Wd)  : YO g E 5 (QI g E) (fX4_readCommand w o) w 0 [(0, .ref (E.2.2.2.2.1 + o))] [] := by
  unfold fX4_readCommand
  refine y_aload_n (n := 1) C dX4_readCommand_0 0 rfl rfl ?_
  refine y_cp (n := 4) C (fun r hr H locs la hP hS hl => y_runV (ci := 4) (st := []) C ky_X4_wordLength wd_491 ⟨Nat.le_of_ble_eq_true rfl, Nat.le_of_ble_eq_true rfl⟩ hO.1 rfl (mX4_wordLength hO w g.2.1 r hr) rfl (Nat.le_of_ble_eq_true rfl) rfl dX4_readCommand_1 hP hS hl) rfl (fun v1 hv1 => ?_)
  refine y_istore_n (n := 5) (ls' := [(1, .int v1), (0, .ref (E.2.2.2.2.1 + o))]) C dX4_readCommand_4 (by decide) rfl rfl ?_
  refine y_aload_n (n := 6) C dX4_readCommand_5 1 rfl rfl ?_
  refine y_aload_n (n := 7) C dX4_readCommand_6 1 rfl rfl ?_
  refine y_iload_n (n := 8) C dX4_readCommand_7 0 rfl rfl ?_
  refine y_cp (n := 11) C (fun r hr H locs la hP hS hl => y_runV (ci := 4) (st := [.ref (E.2.2.2.2.1 + o)]) C ky_X4_commandOfWord wd_499 ⟨Nat.le_of_ble_eq_true rfl, Nat.le_of_ble_eq_true rfl⟩ hO.1 rfl (mX4_commandOfWord hO w v1 g.2.1 r hr) rfl (Nat.le_of_ble_eq_true rfl) rfl dX4_readCommand_8 hP hS hl) rfl (fun v2 hv2 => ?_)
  refine y_putI (ci := 4) (f := 2) (n := 14) C in_X4 tyX4 tyX4_ok nmX4 hO.1 rfl (by decide) wd_175 rfl rfl (by decide +kernel) (Nat.le_of_ble_eq_true rfl) st_X4_2 dX4_readCommand_11 rfl (fun w3 hw3 => ?_)
  refine y_aload_n (n := 15) C dX4_readCommand_14 1 rfl rfl ?_
  refine y_get (ci := 4) (f := 2) (n := 18) C in_X4 hO.1 rfl (by decide) wd_175 rfl rfl dX4_readCommand_15 rfl ?_
  refine y_iconst (n := 19) C ((-1) : Int32) dX4_readCommand_18 (by decide) rfl ?_
  refine y_icmp_ne (tgt := 24) (n := 22) C dX4_readCommand_19 (by decide) rfl (fun h4 => ?_) (fun h4 => ?_)
  · refine y_aload_n (n := 25) C dX4_readCommand_24 1 rfl rfl ?_
    refine y_get (ci := 4) (f := 2) (n := 28) C in_X4 hO.1 rfl (by decide) wd_175 rfl rfl dX4_readCommand_25 rfl ?_
    refine y_cp (n := 31) C (fun r hr H locs la hP hS hl => y_runS (st := []) C ky_X4_numbersOf wd_565 ⟨Nat.le_of_ble_eq_true rfl, Nat.le_of_ble_eq_true rfl⟩ (mX4_numbersOf w3 (w3.1 o 2) g.2.1 r hr) rfl (Nat.le_of_ble_eq_true rfl) rfl dX4_readCommand_28 hP hS hl) rfl (fun v5 hv5 => ?_)
    refine y_istore_n (n := 32) (ls' := [(2, .int v5), (1, .int v1), (0, .ref (E.2.2.2.2.1 + o))]) C dX4_readCommand_31 (by decide) rfl rfl ?_
    refine y_iconst (n := 33) C (0 : Int32) dX4_readCommand_32 (by decide) rfl ?_
    refine y_istore_n (n := 34) (ls' := [(3, .int 0), (2, .int v5), (1, .int v1), (0, .ref (E.2.2.2.2.1 + o))]) C dX4_readCommand_33 (by decide) rfl rfl ?_
    refine y_ls [3, 2, 1, 0] rfl ?_
    exact clX4_readCommand_34 C hR hO 4096 w3 v1 v5 0
  · refine y_iconst (n := 23) C (0 : Int32) dX4_readCommand_22 (by decide) rfl ?_
    exact y_ri C hR dX4_readCommand_23
theorem mX4_readCommand {E : Ex} {o : Nat} (hO : shT E.2.2.2.2.2.1 o) (w : Wd)  (l : Launch) : MI l yX4_readCommand cX4_readCommand 5 (some .int) { frames := 6, cells := 0, slots := 0, locals := 130 } E [.ref (E.2.2.2.2.1 + o)] w (fX4_readCommand w o) :=
  y_met (Qc := yQi E) (by decide +kernel) (Nat.le_of_ble_eq_true rfl) (fun g C hR => eX4_readCommand C hR hO w ) l
def fX5_isList (w : Wd) (a1 : Int32) : Option (Int32) :=
  if a1 < 0 then
    rtZ 0
  else
    if 6 ≤ a1 then
      rtZ 0
    else
      rtZ 1
set_option maxRecDepth 4000 in
theorem eX5_isList {g : Gx} {E : Ex} (C : CC g E cX5_isList 1 RX5 0 0) (hR : RT g (some .boolean))  (w : Wd) (a1 : Int32) : YO g E 1 (QP g E w) (fX5_isList w a1) w 0 [(0, .int a1)] [] := by
  unfold fX5_isList
  refine y_iload_n (n := 1) C dX5_isList_0 0 rfl rfl ?_
  refine y_if_lt (tgt := 14) (n := 4) C dX5_isList_1 (by decide) rfl (fun h1 => ?_) (fun h1 => ?_)
  · refine y_iconst (n := 15) C (0 : Int32) dX5_isList_14 (by decide) rfl ?_
    exact y_rz C hR dX5_isList_15
  · refine y_iload_n (n := 5) C dX5_isList_4 0 rfl rfl ?_
    refine y_bipush (n := 7) C (6 : Int32) dX5_isList_5 (by decide) rfl ?_
    refine y_icmp_ge (tgt := 14) (n := 10) C dX5_isList_7 (by decide) rfl (fun h2 => ?_) (fun h2 => ?_)
    · refine y_iconst (n := 15) C (0 : Int32) dX5_isList_14 (by decide) rfl ?_
      exact y_rz C hR dX5_isList_15
    · refine y_iconst (n := 11) C (1 : Int32) dX5_isList_10 (by decide) rfl ?_
      refine y_goto (tgt := 15) C dX5_isList_11 (by decide) ?_
      exact y_rz C hR dX5_isList_15
theorem mX5_isList {E : Ex}  (w : Wd) (a1 : Int32) (l : Launch) : MP l yX5_isList cX5_isList 1 (some .boolean) { frames := 0, cells := 0, slots := 0, locals := 0 } E [.int a1] w (fX5_isList w a1) :=
  y_met (Qc := fun r => yQi E (r, w)) (by decide +kernel) (Nat.le_of_ble_eq_true rfl) (fun g C hR => eX5_isList C hR  w a1) l
def fX5_add (y : Ly) (w : Wd) (o : Nat) (a1 : Int32) (a2 : Int32) (a3 : Int32) : Option (Int32 × Wd) :=
  (fX5_isList w a1).bind fun v1 =>
  if v1 = 0 then
    some ((-1), w)
  else
    (fX5_isDocument w a2).bind fun v3 =>
    if v3 = 0 then
      some ((-1), w)
    else
      if a3 < 1 then
        some ((-2), w)
      else
        if a3 ≤ 999 then
          if (bz (w.1 (o + 1 + 7) 0)) = 0 then
            (fX1_scoreOf w (o + 1 + 1) a1 a2).bind fun v8 =>
            if v8 = 0 then
              (fX1_sizeOf w (o + 1 + 1) a1).bind fun v14 =>
              if v14 < 40 then
                if v8 = a3 then
                  some ((-5), w)
                else
                  (fX0_record y w (o + 17) (o + 1)).bind fun w17 =>
                  ob2 (fX1_putIn w17 (o + 1 + 1) a1 a2 a3) fun v18 w19 =>
                  some (v18, w19)
              else
                some ((-3), w)
            else
              if v8 = a3 then
                some ((-5), w)
              else
                (fX0_record y w (o + 17) (o + 1)).bind fun w11 =>
                ob2 (fX1_putIn w11 (o + 1 + 1) a1 a2 a3) fun v12 w13 =>
                some (v12, w13)
          else
            some ((-4), w)
        else
          some ((-2), w)
set_option maxRecDepth 4000 in
theorem eX5_add {g : Gx} {E : Ex} (C : CC g E cX5_add 5 RX5 5 133) (hR : RT g (some .int)) {o : Nat} (hO : shB E.2.2.2.2.2.1 o) (w : Wd) (a1 : Int32) (a2 : Int32) (a3 : Int32) : YO g E 5 (QI g E) (fX5_add E.2.2.2.2.2.1 w o a1 a2 a3) w 0 [(0, .ref (E.2.2.2.2.1 + o)), (1, .int a1), (2, .int a2), (3, .int a3)] [] := by
  unfold fX5_add
  refine y_iload_n (n := 1) C dX5_add_0 1 rfl rfl ?_
  refine y_cp (n := 4) C (fun r hr H locs la hP hS hl => y_runS (st := []) C ky_X5_isList wd_214 ⟨Nat.le_of_ble_eq_true rfl, Nat.le_of_ble_eq_true rfl⟩ (mX5_isList w a1 g.2.1 r hr) rfl (Nat.le_of_ble_eq_true rfl) rfl dX5_add_1 hP hS hl) rfl (fun v1 hv1 => ?_)
  refine y_if_eq (tgt := 14) (n := 7) C dX5_add_4 (by decide) rfl (fun h2 => ?_) (fun h2 => ?_)
  · refine y_iconst (n := 15) C ((-1) : Int32) dX5_add_14 (by decide) rfl ?_
    exact y_ri C hR dX5_add_15
  · refine y_iload_n (n := 8) C dX5_add_7 2 rfl rfl ?_
    refine y_cp (n := 11) C (fun r hr H locs la hP hS hl => y_runS (st := []) C ky_X5_isDocument wd_217 ⟨Nat.le_of_ble_eq_true rfl, Nat.le_of_ble_eq_true rfl⟩ (mX5_isDocument w a2 g.2.1 r hr) rfl (Nat.le_of_ble_eq_true rfl) rfl dX5_add_8 hP hS hl) rfl (fun v3 hv3 => ?_)
    refine y_if_ne (tgt := 16) (n := 14) C dX5_add_11 (by decide) rfl (fun h4 => ?_) (fun h4 => ?_)
    · refine y_iload_n (n := 17) C dX5_add_16 3 rfl rfl ?_
      refine y_iconst (n := 18) C (1 : Int32) dX5_add_17 (by decide) rfl ?_
      refine y_icmp_lt (tgt := 28) (n := 21) C dX5_add_18 (by decide) rfl (fun h5 => ?_) (fun h5 => ?_)
      · refine y_bipush (n := 30) C ((-2) : Int32) dX5_add_28 (by decide) rfl ?_
        exact y_ri C hR dX5_add_30
      · refine y_iload_n (n := 22) C dX5_add_21 3 rfl rfl ?_
        refine y_sipush (n := 25) C (999 : Int32) dX5_add_22 (by decide) rfl ?_
        refine y_icmp_le (tgt := 31) (n := 28) C dX5_add_25 (by decide) rfl (fun h6 => ?_) (fun h6 => ?_)
        · refine y_aload_n (n := 32) C dX5_add_31 0 rfl rfl ?_
          refine y_get (ci := 5) (f := 0) (n := 35) C in_X5 hO.1 rfl (by decide) wd_191 rfl rfl dX5_add_32 rfl ?_
          refine y_getN (ci := 3) (f := 1) (n := 38) C in_X3 hO.2.1.1 rfl (by decide) wd_135 rfl rfl dX5_add_35 rfl ?_
          refine y_getN (ci := 2) (f := 0) (n := 41) C in_X2 hO.2.1.2.2.1 rfl (by decide) wd_73 rfl rfl dX5_add_38 rfl ?_
          refine y_if_eq (tgt := 47) (n := 44) C dX5_add_41 (by decide) rfl (fun h7 => ?_) (fun h7 => ?_)
          · refine y_aload_n (n := 48) C dX5_add_47 0 rfl rfl ?_
            refine y_get (ci := 5) (f := 0) (n := 51) C in_X5 hO.1 rfl (by decide) wd_191 rfl rfl dX5_add_48 rfl ?_
            refine y_getN (ci := 3) (f := 0) (n := 54) C in_X3 hO.2.1.1 rfl (by decide) wd_133 rfl rfl dX5_add_51 rfl ?_
            refine y_iload_n (n := 55) C dX5_add_54 1 rfl rfl ?_
            refine y_iload_n (n := 56) C dX5_add_55 2 rfl rfl ?_
            refine y_cp (n := 59) C (fun r hr H locs la hP hS hl => y_runVN (ci := 1) (st := []) C ky_X1_scoreOf wd_220 ⟨Nat.le_of_ble_eq_true rfl, Nat.le_of_ble_eq_true rfl⟩ hO.2.1.2.1.1 rfl (mX1_scoreOf hO.2.1.2.1 w a1 a2 g.2.1 r hr) rfl (Nat.le_of_ble_eq_true rfl) rfl dX5_add_56 hP hS hl) rfl (fun v8 hv8 => ?_)
            refine y_istore (n := 61) (ls' := [(4, .int v8), (0, .ref (E.2.2.2.2.1 + o)), (1, .int a1), (2, .int a2), (3, .int a3)]) C dX5_add_59 (by decide) rfl rfl ?_
            refine y_iload (n := 63) C dX5_add_61 0 rfl rfl ?_
            refine y_if_ne (tgt := 85) (n := 66) C dX5_add_63 (by decide) rfl (fun h9 => ?_) (fun h9 => ?_)
            · refine y_iload (n := 87) C dX5_add_85 0 rfl rfl ?_
              refine y_iload_n (n := 88) C dX5_add_87 4 rfl rfl ?_
              refine y_icmp_ne (tgt := 94) (n := 91) C dX5_add_88 (by decide) rfl (fun h10 => ?_) (fun h10 => ?_)
              · refine y_aload_n (n := 95) C dX5_add_94 1 rfl rfl ?_
                refine y_get (ci := 5) (f := 1) (n := 98) C in_X5 hO.1 rfl (by decide) wd_192 rfl rfl dX5_add_95 rfl ?_
                refine y_aload_n (n := 99) C dX5_add_98 1 rfl rfl ?_
                refine y_get (ci := 5) (f := 0) (n := 102) C in_X5 hO.1 rfl (by decide) wd_191 rfl rfl dX5_add_99 rfl ?_
                refine y_cv (n := 105) C (fun r hr H locs la hP hS hl => y_runVN (ci := 0) (st := []) C ky_X0_record wd_232 ⟨Nat.le_of_ble_eq_true rfl, Nat.le_of_ble_eq_true rfl⟩ hO.2.2.1.1 rfl (mX0_record hO.2.2.1 hO.2.1 w g.2.1 r hr) rfl (Nat.le_of_ble_eq_true rfl) rfl dX5_add_102 hP hS hl) rfl (fun w11 hw11 => ?_)
                refine y_aload_n (n := 106) C dX5_add_105 1 rfl rfl ?_
                refine y_get (ci := 5) (f := 0) (n := 109) C in_X5 hO.1 rfl (by decide) wd_191 rfl rfl dX5_add_106 rfl ?_
                refine y_getN (ci := 3) (f := 0) (n := 112) C in_X3 hO.2.1.1 rfl (by decide) wd_133 rfl rfl dX5_add_109 rfl ?_
                refine y_iload_n (n := 113) C dX5_add_112 2 rfl rfl ?_
                refine y_iload_n (n := 114) C dX5_add_113 3 rfl rfl ?_
                refine y_iload_n (n := 115) C dX5_add_114 4 rfl rfl ?_
                refine y_ci2 (n := 118) C (fun r hr H locs la hP hS hl => y_runVN (ci := 1) (st := []) C ky_X1_putIn wd_266 ⟨Nat.le_of_ble_eq_true rfl, Nat.le_of_ble_eq_true rfl⟩ hO.2.1.2.1.1 rfl (mX1_putIn hO.2.1.2.1 w11 a1 a2 a3 g.2.1 r hr) rfl (Nat.le_of_ble_eq_true rfl) rfl dX5_add_115 hP hS hl) rfl (fun v12 w13 hv12 => ?_)
                exact y_ri C hR dX5_add_118
              · refine y_bipush (n := 93) C ((-5) : Int32) dX5_add_91 (by decide) rfl ?_
                exact y_ri C hR dX5_add_93
            · refine y_aload_n (n := 67) C dX5_add_66 1 rfl rfl ?_
              refine y_get (ci := 5) (f := 0) (n := 70) C in_X5 hO.1 rfl (by decide) wd_191 rfl rfl dX5_add_67 rfl ?_
              refine y_getN (ci := 3) (f := 0) (n := 73) C in_X3 hO.2.1.1 rfl (by decide) wd_133 rfl rfl dX5_add_70 rfl ?_
              refine y_iload_n (n := 74) C dX5_add_73 2 rfl rfl ?_
              refine y_cp (n := 77) C (fun r hr H locs la hP hS hl => y_runVN (ci := 1) (st := []) C ky_X1_sizeOf wd_228 ⟨Nat.le_of_ble_eq_true rfl, Nat.le_of_ble_eq_true rfl⟩ hO.2.1.2.1.1 rfl (mX1_sizeOf hO.2.1.2.1 w a1 g.2.1 r hr) rfl (Nat.le_of_ble_eq_true rfl) rfl dX5_add_74 hP hS hl) rfl (fun v14 hv14 => ?_)
              refine y_bipush (n := 79) C (40 : Int32) dX5_add_77 (by decide) rfl ?_
              refine y_icmp_lt (tgt := 85) (n := 82) C dX5_add_79 (by decide) rfl (fun h15 => ?_) (fun h15 => ?_)
              · refine y_iload (n := 87) C dX5_add_85 0 rfl rfl ?_
                refine y_iload_n (n := 88) C dX5_add_87 4 rfl rfl ?_
                refine y_icmp_ne (tgt := 94) (n := 91) C dX5_add_88 (by decide) rfl (fun h16 => ?_) (fun h16 => ?_)
                · refine y_aload_n (n := 95) C dX5_add_94 1 rfl rfl ?_
                  refine y_get (ci := 5) (f := 1) (n := 98) C in_X5 hO.1 rfl (by decide) wd_192 rfl rfl dX5_add_95 rfl ?_
                  refine y_aload_n (n := 99) C dX5_add_98 1 rfl rfl ?_
                  refine y_get (ci := 5) (f := 0) (n := 102) C in_X5 hO.1 rfl (by decide) wd_191 rfl rfl dX5_add_99 rfl ?_
                  refine y_cv (n := 105) C (fun r hr H locs la hP hS hl => y_runVN (ci := 0) (st := []) C ky_X0_record wd_232 ⟨Nat.le_of_ble_eq_true rfl, Nat.le_of_ble_eq_true rfl⟩ hO.2.2.1.1 rfl (mX0_record hO.2.2.1 hO.2.1 w g.2.1 r hr) rfl (Nat.le_of_ble_eq_true rfl) rfl dX5_add_102 hP hS hl) rfl (fun w17 hw17 => ?_)
                  refine y_aload_n (n := 106) C dX5_add_105 1 rfl rfl ?_
                  refine y_get (ci := 5) (f := 0) (n := 109) C in_X5 hO.1 rfl (by decide) wd_191 rfl rfl dX5_add_106 rfl ?_
                  refine y_getN (ci := 3) (f := 0) (n := 112) C in_X3 hO.2.1.1 rfl (by decide) wd_133 rfl rfl dX5_add_109 rfl ?_
                  refine y_iload_n (n := 113) C dX5_add_112 2 rfl rfl ?_
                  refine y_iload_n (n := 114) C dX5_add_113 3 rfl rfl ?_
                  refine y_iload_n (n := 115) C dX5_add_114 4 rfl rfl ?_
                  refine y_ci2 (n := 118) C (fun r hr H locs la hP hS hl => y_runVN (ci := 1) (st := []) C ky_X1_putIn wd_266 ⟨Nat.le_of_ble_eq_true rfl, Nat.le_of_ble_eq_true rfl⟩ hO.2.1.2.1.1 rfl (mX1_putIn hO.2.1.2.1 w17 a1 a2 a3 g.2.1 r hr) rfl (Nat.le_of_ble_eq_true rfl) rfl dX5_add_115 hP hS hl) rfl (fun v18 w19 hv18 => ?_)
                  exact y_ri C hR dX5_add_118
                · refine y_bipush (n := 93) C ((-5) : Int32) dX5_add_91 (by decide) rfl ?_
                  exact y_ri C hR dX5_add_93
              · refine y_bipush (n := 84) C ((-3) : Int32) dX5_add_82 (by decide) rfl ?_
                exact y_ri C hR dX5_add_84
          · refine y_bipush (n := 46) C ((-4) : Int32) dX5_add_44 (by decide) rfl ?_
            exact y_ri C hR dX5_add_46
        · refine y_bipush (n := 30) C ((-2) : Int32) dX5_add_28 (by decide) rfl ?_
          exact y_ri C hR dX5_add_30
    · refine y_iconst (n := 15) C ((-1) : Int32) dX5_add_14 (by decide) rfl ?_
      exact y_ri C hR dX5_add_15
theorem mX5_add {E : Ex} {o : Nat} (hO : shB E.2.2.2.2.2.1 o) (w : Wd) (a1 : Int32) (a2 : Int32) (a3 : Int32) (l : Launch) : MI l yX5_add cX5_add 5 (some .int) { frames := 5, cells := 0, slots := 0, locals := 133 } E [.ref (E.2.2.2.2.1 + o), .int a1, .int a2, .int a3] w (fX5_add E.2.2.2.2.2.1 w o a1 a2 a3) :=
  y_met (Qc := yQi E) (by decide +kernel) (Nat.le_of_ble_eq_true rfl) (fun g C hR => eX5_add C hR hO w a1 a2 a3) l
def fX5_isWay (w : Wd) (a1 : Int32) : Option (Int32) :=
  if a1 < 0 then
    rtZ 0
  else
    if 2 < a1 then
      rtZ 0
    else
      rtZ 1
set_option maxRecDepth 4000 in
theorem eX5_isWay {g : Gx} {E : Ex} (C : CC g E cX5_isWay 1 RX5 0 0) (hR : RT g (some .boolean))  (w : Wd) (a1 : Int32) : YO g E 1 (QP g E w) (fX5_isWay w a1) w 0 [(0, .int a1)] [] := by
  unfold fX5_isWay
  refine y_iload_n (n := 1) C dX5_isWay_0 0 rfl rfl ?_
  refine y_if_lt (tgt := 13) (n := 4) C dX5_isWay_1 (by decide) rfl (fun h1 => ?_) (fun h1 => ?_)
  · refine y_iconst (n := 14) C (0 : Int32) dX5_isWay_13 (by decide) rfl ?_
    exact y_rz C hR dX5_isWay_14
  · refine y_iload_n (n := 5) C dX5_isWay_4 0 rfl rfl ?_
    refine y_iconst (n := 6) C (2 : Int32) dX5_isWay_5 (by decide) rfl ?_
    refine y_icmp_gt (tgt := 13) (n := 9) C dX5_isWay_6 (by decide) rfl (fun h2 => ?_) (fun h2 => ?_)
    · refine y_iconst (n := 14) C (0 : Int32) dX5_isWay_13 (by decide) rfl ?_
      exact y_rz C hR dX5_isWay_14
    · refine y_iconst (n := 10) C (1 : Int32) dX5_isWay_9 (by decide) rfl ?_
      refine y_goto (tgt := 14) C dX5_isWay_10 (by decide) ?_
      exact y_rz C hR dX5_isWay_14
theorem mX5_isWay {E : Ex}  (w : Wd) (a1 : Int32) (l : Launch) : MP l yX5_isWay cX5_isWay 1 (some .boolean) { frames := 0, cells := 0, slots := 0, locals := 0 } E [.int a1] w (fX5_isWay w a1) :=
  y_met (Qc := fun r => yQi E (r, w)) (by decide +kernel) (Nat.le_of_ble_eq_true rfl) (fun g C hR => eX5_isWay C hR  w a1) l
def fX5_begin (y : Ly) (w : Wd) (o : Nat) (a1 : Int32) (a2 : Int32) : Option (Int32 × Wd) :=
  (fX5_isWay w a1).bind fun v1 =>
  if v1 = 0 then
    some ((-2), w)
  else
    if (bz (w.1 (o + 1 + 7) 0)) = 0 then
      (fX1_questionSize w (o + 1 + 1)).bind fun v4 =>
      if v4 = 0 then
        some ((-4), w)
      else
        (fX0_record y w (o + 17) (o + 1)).bind fun w6 =>
        (pI w6 (o + 1) 2 ((w6.1 (o + 1) 2) + 1)).bind fun w7 =>
        (fX2_start w7 (o + 1 + 7) (o + 1 + 1) a1 a2).bind fun w8 =>
        (fX2_isOver w8 (o + 1 + 7) (o + 1 + 1)).bind fun v9 =>
        (fX5_oneIf w8 v9).bind fun v10 =>
        some (v10, w8)
    else
      some ((-4), w)
set_option maxRecDepth 4000 in
theorem eX5_begin {g : Gx} {E : Ex} (C : CC g E cX5_begin 3 RX5 5 133) (hR : RT g (some .int)) {o : Nat} (hO : shB E.2.2.2.2.2.1 o) (w : Wd) (a1 : Int32) (a2 : Int32) : YO g E 3 (QI g E) (fX5_begin E.2.2.2.2.2.1 w o a1 a2) w 0 [(0, .ref (E.2.2.2.2.1 + o)), (1, .int a1), (2, .int a2)] [] := by
  unfold fX5_begin
  refine y_iload_n (n := 1) C dX5_begin_0 1 rfl rfl ?_
  refine y_cp (n := 4) C (fun r hr H locs la hP hS hl => y_runS (st := []) C ky_X5_isWay wd_346 ⟨Nat.le_of_ble_eq_true rfl, Nat.le_of_ble_eq_true rfl⟩ (mX5_isWay w a1 g.2.1 r hr) rfl (Nat.le_of_ble_eq_true rfl) rfl dX5_begin_1 hP hS hl) rfl (fun v1 hv1 => ?_)
  refine y_if_ne (tgt := 10) (n := 7) C dX5_begin_4 (by decide) rfl (fun h2 => ?_) (fun h2 => ?_)
  · refine y_aload_n (n := 11) C dX5_begin_10 0 rfl rfl ?_
    refine y_get (ci := 5) (f := 0) (n := 14) C in_X5 hO.1 rfl (by decide) wd_191 rfl rfl dX5_begin_11 rfl ?_
    refine y_getN (ci := 3) (f := 1) (n := 17) C in_X3 hO.2.1.1 rfl (by decide) wd_135 rfl rfl dX5_begin_14 rfl ?_
    refine y_getN (ci := 2) (f := 0) (n := 20) C in_X2 hO.2.1.2.2.1 rfl (by decide) wd_73 rfl rfl dX5_begin_17 rfl ?_
    refine y_if_ne (tgt := 36) (n := 23) C dX5_begin_20 (by decide) rfl (fun h3 => ?_) (fun h3 => ?_)
    · refine y_bipush (n := 38) C ((-4) : Int32) dX5_begin_36 (by decide) rfl ?_
      exact y_ri C hR dX5_begin_38
    · refine y_aload_n (n := 24) C dX5_begin_23 0 rfl rfl ?_
      refine y_get (ci := 5) (f := 0) (n := 27) C in_X5 hO.1 rfl (by decide) wd_191 rfl rfl dX5_begin_24 rfl ?_
      refine y_getN (ci := 3) (f := 0) (n := 30) C in_X3 hO.2.1.1 rfl (by decide) wd_133 rfl rfl dX5_begin_27 rfl ?_
      refine y_cp (n := 33) C (fun r hr H locs la hP hS hl => y_runVN (ci := 1) (st := []) C ky_X1_questionSize wd_349 ⟨Nat.le_of_ble_eq_true rfl, Nat.le_of_ble_eq_true rfl⟩ hO.2.1.2.1.1 rfl (mX1_questionSize hO.2.1.2.1 w g.2.1 r hr) rfl (Nat.le_of_ble_eq_true rfl) rfl dX5_begin_30 hP hS hl) rfl (fun v4 hv4 => ?_)
      refine y_if_ne (tgt := 39) (n := 36) C dX5_begin_33 (by decide) rfl (fun h5 => ?_) (fun h5 => ?_)
      · refine y_aload_n (n := 40) C dX5_begin_39 0 rfl rfl ?_
        refine y_get (ci := 5) (f := 1) (n := 43) C in_X5 hO.1 rfl (by decide) wd_192 rfl rfl dX5_begin_40 rfl ?_
        refine y_aload_n (n := 44) C dX5_begin_43 0 rfl rfl ?_
        refine y_get (ci := 5) (f := 0) (n := 47) C in_X5 hO.1 rfl (by decide) wd_191 rfl rfl dX5_begin_44 rfl ?_
        refine y_cv (n := 50) C (fun r hr H locs la hP hS hl => y_runVN (ci := 0) (st := []) C ky_X0_record wd_232 ⟨Nat.le_of_ble_eq_true rfl, Nat.le_of_ble_eq_true rfl⟩ hO.2.2.1.1 rfl (mX0_record hO.2.2.1 hO.2.1 w g.2.1 r hr) rfl (Nat.le_of_ble_eq_true rfl) rfl dX5_begin_47 hP hS hl) rfl (fun w6 hw6 => ?_)
        refine y_aload_n (n := 51) C dX5_begin_50 0 rfl rfl ?_
        refine y_get (ci := 5) (f := 0) (n := 54) C in_X5 hO.1 rfl (by decide) wd_191 rfl rfl dX5_begin_51 rfl ?_
        refine y_dup (n := 55) C dX5_begin_54 rfl rfl ?_
        refine y_getN (ci := 3) (f := 2) (n := 58) C in_X3 hO.2.1.1 rfl (by decide) wd_137 rfl rfl dX5_begin_55 rfl ?_
        refine y_iconst (n := 59) C (1 : Int32) dX5_begin_58 (by decide) rfl ?_
        refine y_iadd (n := 60) C dX5_begin_59 rfl ?_
        refine y_putIN (ci := 3) (f := 2) (n := 63) C in_X3 tyX3 tyX3_ok nmX3 hO.2.1.1 rfl (by decide) wd_137 rfl rfl (by decide +kernel) (Nat.le_of_ble_eq_true rfl) st_X3_2 dX5_begin_60 rfl (fun w7 hw7 => ?_)
        refine y_aload_n (n := 64) C dX5_begin_63 0 rfl rfl ?_
        refine y_get (ci := 5) (f := 0) (n := 67) C in_X5 hO.1 rfl (by decide) wd_191 rfl rfl dX5_begin_64 rfl ?_
        refine y_getN (ci := 3) (f := 1) (n := 70) C in_X3 hO.2.1.1 rfl (by decide) wd_135 rfl rfl dX5_begin_67 rfl ?_
        refine y_aload_n (n := 71) C dX5_begin_70 0 rfl rfl ?_
        refine y_get (ci := 5) (f := 0) (n := 74) C in_X5 hO.1 rfl (by decide) wd_191 rfl rfl dX5_begin_71 rfl ?_
        refine y_getN (ci := 3) (f := 0) (n := 77) C in_X3 hO.2.1.1 rfl (by decide) wd_133 rfl rfl dX5_begin_74 rfl ?_
        refine y_iload_n (n := 78) C dX5_begin_77 1 rfl rfl ?_
        refine y_iload_n (n := 79) C dX5_begin_78 2 rfl rfl ?_
        refine y_cv (n := 82) C (fun r hr H locs la hP hS hl => y_runVN (ci := 2) (st := []) C ky_X2_start wd_357 ⟨Nat.le_of_ble_eq_true rfl, Nat.le_of_ble_eq_true rfl⟩ hO.2.1.2.2.1 rfl (mX2_start hO.2.1.2.2 hO.2.1.2.1 w7 a1 a2 g.2.1 r hr) rfl (Nat.le_of_ble_eq_true rfl) rfl dX5_begin_79 hP hS hl) rfl (fun w8 hw8 => ?_)
        refine y_aload_n (n := 83) C dX5_begin_82 0 rfl rfl ?_
        refine y_get (ci := 5) (f := 0) (n := 86) C in_X5 hO.1 rfl (by decide) wd_191 rfl rfl dX5_begin_83 rfl ?_
        refine y_getN (ci := 3) (f := 1) (n := 89) C in_X3 hO.2.1.1 rfl (by decide) wd_135 rfl rfl dX5_begin_86 rfl ?_
        refine y_aload_n (n := 90) C dX5_begin_89 0 rfl rfl ?_
        refine y_get (ci := 5) (f := 0) (n := 93) C in_X5 hO.1 rfl (by decide) wd_191 rfl rfl dX5_begin_90 rfl ?_
        refine y_getN (ci := 3) (f := 0) (n := 96) C in_X3 hO.2.1.1 rfl (by decide) wd_133 rfl rfl dX5_begin_93 rfl ?_
        refine y_cp (n := 99) C (fun r hr H locs la hP hS hl => y_runVN (ci := 2) (st := []) C ky_X2_isOver wd_378 ⟨Nat.le_of_ble_eq_true rfl, Nat.le_of_ble_eq_true rfl⟩ hO.2.1.2.2.1 rfl (mX2_isOver hO.2.1.2.2 hO.2.1.2.1 w8 g.2.1 r hr) rfl (Nat.le_of_ble_eq_true rfl) rfl dX5_begin_96 hP hS hl) rfl (fun v9 hv9 => ?_)
        refine y_cp (n := 102) C (fun r hr H locs la hP hS hl => y_runS (st := []) C ky_X5_oneIf wd_404 ⟨Nat.le_of_ble_eq_true rfl, Nat.le_of_ble_eq_true rfl⟩ (mX5_oneIf w8 v9 g.2.1 r hr) rfl (Nat.le_of_ble_eq_true rfl) rfl dX5_begin_99 hP hS hl) rfl (fun v10 hv10 => ?_)
        exact y_ri C hR dX5_begin_102
      · refine y_bipush (n := 38) C ((-4) : Int32) dX5_begin_36 (by decide) rfl ?_
        exact y_ri C hR dX5_begin_38
  · refine y_bipush (n := 9) C ((-2) : Int32) dX5_begin_7 (by decide) rfl ?_
    exact y_ri C hR dX5_begin_9
theorem mX5_begin {E : Ex} {o : Nat} (hO : shB E.2.2.2.2.2.1 o) (w : Wd) (a1 : Int32) (a2 : Int32) (l : Launch) : MI l yX5_begin cX5_begin 3 (some .int) { frames := 5, cells := 0, slots := 0, locals := 133 } E [.ref (E.2.2.2.2.1 + o), .int a1, .int a2] w (fX5_begin E.2.2.2.2.2.1 w o a1 a2) :=
  y_met (Qc := yQi E) (by decide +kernel) (Nat.le_of_ble_eq_true rfl) (fun g C hR => eX5_begin C hR hO w a1 a2) l
def fX5_setOfList (y : Ly) (w : Wd) (o k1 q1 : Nat) (a2 : Int32) (a3 : Int32) (a4 : Int32) : Option (Int32 × Wd) :=
  (fX5_isList w a2).bind fun v1 =>
  if v1 = 0 then
    some ((-1), w)
  else
    if a3 < 0 then
      some ((-2), w)
    else
      if a3 ≤ a4 then
        if (bz (w.1 (o + 1 + 7) 0)) = 0 then
          (fX5_at w k1 q1 a2).bind fun v6 =>
          if v6 = a3 then
            some ((-5), w)
          else
            (fX0_record y w (o + 17) (o + 1)).bind fun w8 =>
            (fX5_put w8 k1 q1 a2 a3).bind fun w9 =>
            some (v6, w9)
        else
          some ((-4), w)
      else
        some ((-2), w)
set_option maxRecDepth 4000 in
theorem eX5_setOfList {g : Gx} {E : Ex} (C : CC g E cX5_setOfList 6 RX5 5 133) (hR : RT g (some .int)) {o k1 q1 : Nat} (hO : shB E.2.2.2.2.2.1 o) (hk1 : E.2.2.2.2.2.1[k1]? = some (0, q1)) (w : Wd) (a2 : Int32) (a3 : Int32) (a4 : Int32) : YO g E 6 (QI g E) (fX5_setOfList E.2.2.2.2.2.1 w o k1 q1 a2 a3 a4) w 0 [(0, .ref (E.2.2.2.2.1 + o)), (1, .ref (E.2.2.2.2.1 + k1)), (2, .int a2), (3, .int a3), (4, .int a4)] [] := by
  unfold fX5_setOfList
  refine y_iload_n (n := 1) C dX5_setOfList_0 2 rfl rfl ?_
  refine y_cp (n := 4) C (fun r hr H locs la hP hS hl => y_runS (st := []) C ky_X5_isList wd_214 ⟨Nat.le_of_ble_eq_true rfl, Nat.le_of_ble_eq_true rfl⟩ (mX5_isList w a2 g.2.1 r hr) rfl (Nat.le_of_ble_eq_true rfl) rfl dX5_setOfList_1 hP hS hl) rfl (fun v1 hv1 => ?_)
  refine y_if_ne (tgt := 9) (n := 7) C dX5_setOfList_4 (by decide) rfl (fun h2 => ?_) (fun h2 => ?_)
  · refine y_iload_n (n := 10) C dX5_setOfList_9 3 rfl rfl ?_
    refine y_if_lt (tgt := 19) (n := 13) C dX5_setOfList_10 (by decide) rfl (fun h3 => ?_) (fun h3 => ?_)
    · refine y_bipush (n := 21) C ((-2) : Int32) dX5_setOfList_19 (by decide) rfl ?_
      exact y_ri C hR dX5_setOfList_21
    · refine y_iload_n (n := 14) C dX5_setOfList_13 3 rfl rfl ?_
      refine y_iload (n := 16) C dX5_setOfList_14 4 rfl rfl ?_
      refine y_icmp_le (tgt := 22) (n := 19) C dX5_setOfList_16 (by decide) rfl (fun h4 => ?_) (fun h4 => ?_)
      · refine y_aload_n (n := 23) C dX5_setOfList_22 0 rfl rfl ?_
        refine y_get (ci := 5) (f := 0) (n := 26) C in_X5 hO.1 rfl (by decide) wd_191 rfl rfl dX5_setOfList_23 rfl ?_
        refine y_getN (ci := 3) (f := 1) (n := 29) C in_X3 hO.2.1.1 rfl (by decide) wd_135 rfl rfl dX5_setOfList_26 rfl ?_
        refine y_getN (ci := 2) (f := 0) (n := 32) C in_X2 hO.2.1.2.2.1 rfl (by decide) wd_73 rfl rfl dX5_setOfList_29 rfl ?_
        refine y_if_eq (tgt := 38) (n := 35) C dX5_setOfList_32 (by decide) rfl (fun h5 => ?_) (fun h5 => ?_)
        · refine y_aload_n (n := 39) C dX5_setOfList_38 1 rfl rfl ?_
          refine y_iload_n (n := 40) C dX5_setOfList_39 2 rfl rfl ?_
          refine y_cp (n := 43) C (fun r hr H locs la hP hS hl => y_runS (st := []) C ky_X5_at wd_332 ⟨Nat.le_of_ble_eq_true rfl, Nat.le_of_ble_eq_true rfl⟩ (mX5_at hk1 w a2 g.2.1 r hr) rfl (Nat.le_of_ble_eq_true rfl) rfl dX5_setOfList_40 hP hS hl) rfl (fun v6 hv6 => ?_)
          refine y_istore (n := 45) (ls' := [(5, .int v6), (0, .ref (E.2.2.2.2.1 + o)), (1, .ref (E.2.2.2.2.1 + k1)), (2, .int a2), (3, .int a3), (4, .int a4)]) C dX5_setOfList_43 (by decide) rfl rfl ?_
          refine y_iload (n := 47) C dX5_setOfList_45 0 rfl rfl ?_
          refine y_iload_n (n := 48) C dX5_setOfList_47 4 rfl rfl ?_
          refine y_icmp_ne (tgt := 54) (n := 51) C dX5_setOfList_48 (by decide) rfl (fun h7 => ?_) (fun h7 => ?_)
          · refine y_aload_n (n := 55) C dX5_setOfList_54 1 rfl rfl ?_
            refine y_get (ci := 5) (f := 1) (n := 58) C in_X5 hO.1 rfl (by decide) wd_192 rfl rfl dX5_setOfList_55 rfl ?_
            refine y_aload_n (n := 59) C dX5_setOfList_58 1 rfl rfl ?_
            refine y_get (ci := 5) (f := 0) (n := 62) C in_X5 hO.1 rfl (by decide) wd_191 rfl rfl dX5_setOfList_59 rfl ?_
            refine y_cv (n := 65) C (fun r hr H locs la hP hS hl => y_runVN (ci := 0) (st := []) C ky_X0_record wd_232 ⟨Nat.le_of_ble_eq_true rfl, Nat.le_of_ble_eq_true rfl⟩ hO.2.2.1.1 rfl (mX0_record hO.2.2.1 hO.2.1 w g.2.1 r hr) rfl (Nat.le_of_ble_eq_true rfl) rfl dX5_setOfList_62 hP hS hl) rfl (fun w8 hw8 => ?_)
            refine y_aload_n (n := 66) C dX5_setOfList_65 2 rfl rfl ?_
            refine y_iload_n (n := 67) C dX5_setOfList_66 3 rfl rfl ?_
            refine y_iload_n (n := 68) C dX5_setOfList_67 4 rfl rfl ?_
            refine y_cv (n := 71) C (fun r hr H locs la hP hS hl => y_runS (st := []) C ky_X5_put wd_333 ⟨Nat.le_of_ble_eq_true rfl, Nat.le_of_ble_eq_true rfl⟩ (mX5_put hk1 w8 a2 a3 g.2.1 r hr) rfl (Nat.le_of_ble_eq_true rfl) rfl dX5_setOfList_68 hP hS hl) rfl (fun w9 hw9 => ?_)
            refine y_iload (n := 73) C dX5_setOfList_71 0 rfl rfl ?_
            exact y_ri C hR dX5_setOfList_73
          · refine y_bipush (n := 53) C ((-5) : Int32) dX5_setOfList_51 (by decide) rfl ?_
            exact y_ri C hR dX5_setOfList_53
        · refine y_bipush (n := 37) C ((-4) : Int32) dX5_setOfList_35 (by decide) rfl ?_
          exact y_ri C hR dX5_setOfList_37
      · refine y_bipush (n := 21) C ((-2) : Int32) dX5_setOfList_19 (by decide) rfl ?_
        exact y_ri C hR dX5_setOfList_21
  · refine y_iconst (n := 8) C ((-1) : Int32) dX5_setOfList_7 (by decide) rfl ?_
    exact y_ri C hR dX5_setOfList_8
theorem mX5_setOfList {E : Ex} {o k1 q1 : Nat} (hO : shB E.2.2.2.2.2.1 o) (hk1 : E.2.2.2.2.2.1[k1]? = some (0, q1)) (w : Wd) (a2 : Int32) (a3 : Int32) (a4 : Int32) (l : Launch) : MI l yX5_setOfList cX5_setOfList 6 (some .int) { frames := 5, cells := 0, slots := 0, locals := 133 } E [.ref (E.2.2.2.2.1 + o), .ref (E.2.2.2.2.1 + k1), .int a2, .int a3, .int a4] w (fX5_setOfList E.2.2.2.2.2.1 w o k1 q1 a2 a3 a4) :=
  y_met (Qc := yQi E) (by decide +kernel) (Nat.le_of_ble_eq_true rfl) (fun g C hR => eX5_setOfList C hR hO hk1 w a2 a3 a4) l
def fX5_bribe (y : Ly) (w : Wd) (o : Nat) (a1 : Int32) (a2 : Int32) : Option (Int32 × Wd) :=
  ob2 (fX5_setOfList y w o (o + 1 + 1 + 5) 6 a1 a2 500) fun v1 w2 =>
  some (v1, w2)
set_option maxRecDepth 4000 in
theorem eX5_bribe {g : Gx} {E : Ex} (C : CC g E cX5_bribe 3 RX5 6 158) (hR : RT g (some .int)) {o : Nat} (hO : shB E.2.2.2.2.2.1 o) (w : Wd) (a1 : Int32) (a2 : Int32) : YO g E 3 (QI g E) (fX5_bribe E.2.2.2.2.2.1 w o a1 a2) w 0 [(0, .ref (E.2.2.2.2.1 + o)), (1, .int a1), (2, .int a2)] [] := by
  unfold fX5_bribe
  refine y_aload_n (n := 1) C dX5_bribe_0 0 rfl rfl ?_
  refine y_aload_n (n := 2) C dX5_bribe_1 0 rfl rfl ?_
  refine y_get (ci := 5) (f := 0) (n := 5) C in_X5 hO.1 rfl (by decide) wd_191 rfl rfl dX5_bribe_2 rfl ?_
  refine y_getN (ci := 3) (f := 0) (n := 8) C in_X3 hO.2.1.1 rfl (by decide) wd_133 rfl rfl dX5_bribe_5 rfl ?_
  refine y_getN (ci := 1) (f := 4) (n := 11) C in_X1 hO.2.1.2.1.1 rfl (by decide) wd_44 rfl rfl dX5_bribe_8 rfl ?_
  refine y_iload_n (n := 12) C dX5_bribe_11 1 rfl rfl ?_
  refine y_iload_n (n := 13) C dX5_bribe_12 2 rfl rfl ?_
  refine y_sipush (n := 16) C (500 : Int32) dX5_bribe_13 (by decide) rfl ?_
  refine y_ci2 (n := 19) C (fun r hr H locs la hP hS hl => y_runV (ci := 5) (st := []) C ky_X5_setOfList wd_328 ⟨Nat.le_of_ble_eq_true rfl, Nat.le_of_ble_eq_true rfl⟩ hO.1 rfl (mX5_setOfList hO hO.2.1.2.1.2.2.2.2.2 w a1 a2 500 g.2.1 r hr) rfl (Nat.le_of_ble_eq_true rfl) rfl dX5_bribe_16 hP hS hl) rfl (fun v1 w2 hv1 => ?_)
  exact y_ri C hR dX5_bribe_19
theorem mX5_bribe {E : Ex} {o : Nat} (hO : shB E.2.2.2.2.2.1 o) (w : Wd) (a1 : Int32) (a2 : Int32) (l : Launch) : MI l yX5_bribe cX5_bribe 3 (some .int) { frames := 6, cells := 0, slots := 0, locals := 158 } E [.ref (E.2.2.2.2.1 + o), .int a1, .int a2] w (fX5_bribe E.2.2.2.2.2.1 w o a1 a2) :=
  y_met (Qc := yQi E) (by decide +kernel) (Nat.le_of_ble_eq_true rfl) (fun g C hR => eX5_bribe C hR hO w a1 a2) l
def fX5_setDeleted (y : Ly) (w : Wd) (o : Nat) (a1 : Int32) (a2 : Int32) : Option (Int32 × Wd) :=
  (fX5_isDocument w a1).bind fun v1 =>
  if v1 = 0 then
    some ((-1), w)
  else
    if (bz (w.1 (o + 1 + 7) 0)) = 0 then
      (fX1_isDeleted w (o + 1 + 1) a1).bind fun v4 =>
      if v4 = a2 then
        some ((-5), w)
      else
        (fX0_record y w (o + 17) (o + 1)).bind fun w6 =>
        (pL w6 (o + 1 + 1) ((w6.2.1 (o + 1 + 1)) ^^^ (1 <<< (Int32.toInt64 a1 &&& 63)))).bind fun w7 =>
        (fX1_listsWith w7 (o + 1 + 1) a1).bind fun v8 =>
        (fJ6_bitCount_0f7a4 w7 v8).bind fun v9 =>
        some (v9, w7)
    else
      some ((-4), w)
set_option maxRecDepth 4000 in
theorem eX5_setDeleted {g : Gx} {E : Ex} (C : CC g E cX5_setDeleted 3 RX5 5 133) (hR : RT g (some .int)) {o : Nat} (hO : shB E.2.2.2.2.2.1 o) (w : Wd) (a1 : Int32) (a2 : Int32) : YO g E 3 (QI g E) (fX5_setDeleted E.2.2.2.2.2.1 w o a1 a2) w 0 [(0, .ref (E.2.2.2.2.1 + o)), (1, .int a1), (2, .int a2)] [] := by
  unfold fX5_setDeleted
  refine y_iload_n (n := 1) C dX5_setDeleted_0 1 rfl rfl ?_
  refine y_cp (n := 4) C (fun r hr H locs la hP hS hl => y_runS (st := []) C ky_X5_isDocument wd_217 ⟨Nat.le_of_ble_eq_true rfl, Nat.le_of_ble_eq_true rfl⟩ (mX5_isDocument w a1 g.2.1 r hr) rfl (Nat.le_of_ble_eq_true rfl) rfl dX5_setDeleted_1 hP hS hl) rfl (fun v1 hv1 => ?_)
  refine y_if_ne (tgt := 9) (n := 7) C dX5_setDeleted_4 (by decide) rfl (fun h2 => ?_) (fun h2 => ?_)
  · refine y_aload_n (n := 10) C dX5_setDeleted_9 0 rfl rfl ?_
    refine y_get (ci := 5) (f := 0) (n := 13) C in_X5 hO.1 rfl (by decide) wd_191 rfl rfl dX5_setDeleted_10 rfl ?_
    refine y_getN (ci := 3) (f := 1) (n := 16) C in_X3 hO.2.1.1 rfl (by decide) wd_135 rfl rfl dX5_setDeleted_13 rfl ?_
    refine y_getN (ci := 2) (f := 0) (n := 19) C in_X2 hO.2.1.2.2.1 rfl (by decide) wd_73 rfl rfl dX5_setDeleted_16 rfl ?_
    refine y_if_eq (tgt := 25) (n := 22) C dX5_setDeleted_19 (by decide) rfl (fun h3 => ?_) (fun h3 => ?_)
    · refine y_aload_n (n := 26) C dX5_setDeleted_25 0 rfl rfl ?_
      refine y_get (ci := 5) (f := 0) (n := 29) C in_X5 hO.1 rfl (by decide) wd_191 rfl rfl dX5_setDeleted_26 rfl ?_
      refine y_getN (ci := 3) (f := 0) (n := 32) C in_X3 hO.2.1.1 rfl (by decide) wd_133 rfl rfl dX5_setDeleted_29 rfl ?_
      refine y_iload_n (n := 33) C dX5_setDeleted_32 1 rfl rfl ?_
      refine y_cp (n := 36) C (fun r hr H locs la hP hS hl => y_runVN (ci := 1) (st := []) C ky_X1_isDeleted wd_303 ⟨Nat.le_of_ble_eq_true rfl, Nat.le_of_ble_eq_true rfl⟩ hO.2.1.2.1.1 rfl (mX1_isDeleted hO.2.1.2.1 w a1 g.2.1 r hr) rfl (Nat.le_of_ble_eq_true rfl) rfl dX5_setDeleted_33 hP hS hl) rfl (fun v4 hv4 => ?_)
      refine y_iload_n (n := 37) C dX5_setDeleted_36 2 rfl rfl ?_
      refine y_icmp_ne (tgt := 43) (n := 40) C dX5_setDeleted_37 (by decide) rfl (fun h5 => ?_) (fun h5 => ?_)
      · refine y_aload_n (n := 44) C dX5_setDeleted_43 0 rfl rfl ?_
        refine y_get (ci := 5) (f := 1) (n := 47) C in_X5 hO.1 rfl (by decide) wd_192 rfl rfl dX5_setDeleted_44 rfl ?_
        refine y_aload_n (n := 48) C dX5_setDeleted_47 0 rfl rfl ?_
        refine y_get (ci := 5) (f := 0) (n := 51) C in_X5 hO.1 rfl (by decide) wd_191 rfl rfl dX5_setDeleted_48 rfl ?_
        refine y_cv (n := 54) C (fun r hr H locs la hP hS hl => y_runVN (ci := 0) (st := []) C ky_X0_record wd_232 ⟨Nat.le_of_ble_eq_true rfl, Nat.le_of_ble_eq_true rfl⟩ hO.2.2.1.1 rfl (mX0_record hO.2.2.1 hO.2.1 w g.2.1 r hr) rfl (Nat.le_of_ble_eq_true rfl) rfl dX5_setDeleted_51 hP hS hl) rfl (fun w6 hw6 => ?_)
        refine y_aload_n (n := 55) C dX5_setDeleted_54 0 rfl rfl ?_
        refine y_get (ci := 5) (f := 0) (n := 58) C in_X5 hO.1 rfl (by decide) wd_191 rfl rfl dX5_setDeleted_55 rfl ?_
        refine y_getN (ci := 3) (f := 0) (n := 61) C in_X3 hO.2.1.1 rfl (by decide) wd_133 rfl rfl dX5_setDeleted_58 rfl ?_
        refine y_dup (n := 62) C dX5_setDeleted_61 rfl rfl ?_
        refine y_getN (ci := 1) (f := 5) (n := 65) C in_X1 hO.2.1.2.1.1 rfl (by decide) wd_46 rfl rfl dX5_setDeleted_62 rfl ?_
        refine y_lconst (n := 66) C (1 : Int64) dX5_setDeleted_65 (by decide) rfl ?_
        refine y_iload_n (n := 67) C dX5_setDeleted_66 1 rfl rfl ?_
        refine y_lshl (n := 68) C dX5_setDeleted_67 rfl ?_
        refine y_lxor (n := 69) C dX5_setDeleted_68 rfl ?_
        refine y_putLN (ci := 1) (f := 5) (n := 72) C in_X1 tyX1 tyX1_ok nmX1 hO.2.1.2.1.1 rfl (by decide) wd_46 rfl rfl (by decide +kernel) (Nat.le_of_ble_eq_true rfl) st_X1_5 dX5_setDeleted_69 rfl (fun w7 hw7 => ?_)
        refine y_aload_n (n := 73) C dX5_setDeleted_72 0 rfl rfl ?_
        refine y_get (ci := 5) (f := 0) (n := 76) C in_X5 hO.1 rfl (by decide) wd_191 rfl rfl dX5_setDeleted_73 rfl ?_
        refine y_getN (ci := 3) (f := 0) (n := 79) C in_X3 hO.2.1.1 rfl (by decide) wd_133 rfl rfl dX5_setDeleted_76 rfl ?_
        refine y_iload_n (n := 80) C dX5_setDeleted_79 1 rfl rfl ?_
        refine y_cp (n := 83) C (fun r hr H locs la hP hS hl => y_runVN (ci := 1) (st := []) C ky_X1_listsWith wd_307 ⟨Nat.le_of_ble_eq_true rfl, Nat.le_of_ble_eq_true rfl⟩ hO.2.1.2.1.1 rfl (mX1_listsWith hO.2.1.2.1 w7 a1 g.2.1 r hr) rfl (Nat.le_of_ble_eq_true rfl) rfl dX5_setDeleted_80 hP hS hl) rfl (fun v8 hv8 => ?_)
        refine y_cp (n := 86) C (fun r hr H locs la hP hS hl => y_runS (st := []) C ky_J6_bitCount_0f7a4 wd_314 ⟨Nat.le_of_ble_eq_true rfl, Nat.le_of_ble_eq_true rfl⟩ (mJ6_bitCount_0f7a4 w7 v8 g.2.1 r hr) rfl (Nat.le_of_ble_eq_true rfl) rfl dX5_setDeleted_83 hP hS hl) rfl (fun v9 hv9 => ?_)
        exact y_ri C hR dX5_setDeleted_86
      · refine y_bipush (n := 42) C ((-5) : Int32) dX5_setDeleted_40 (by decide) rfl ?_
        exact y_ri C hR dX5_setDeleted_42
    · refine y_bipush (n := 24) C ((-4) : Int32) dX5_setDeleted_22 (by decide) rfl ?_
      exact y_ri C hR dX5_setDeleted_24
  · refine y_iconst (n := 8) C ((-1) : Int32) dX5_setDeleted_7 (by decide) rfl ?_
    exact y_ri C hR dX5_setDeleted_8
theorem mX5_setDeleted {E : Ex} {o : Nat} (hO : shB E.2.2.2.2.2.1 o) (w : Wd) (a1 : Int32) (a2 : Int32) (l : Launch) : MI l yX5_setDeleted cX5_setDeleted 3 (some .int) { frames := 5, cells := 0, slots := 0, locals := 133 } E [.ref (E.2.2.2.2.1 + o), .int a1, .int a2] w (fX5_setDeleted E.2.2.2.2.2.1 w o a1 a2) :=
  y_met (Qc := yQi E) (by decide +kernel) (Nat.le_of_ble_eq_true rfl) (fun g C hR => eX5_setDeleted C hR hO w a1 a2) l
def fX5_bring (y : Ly) (w : Wd) (o : Nat) (a1 : Int32) : Option (Int32 × Wd) :=
  ob2 (fX5_setDeleted y w o a1 0) fun v1 w2 =>
  some (v1, w2)
set_option maxRecDepth 4000 in
theorem eX5_bring {g : Gx} {E : Ex} (C : CC g E cX5_bring 2 RX5 6 155) (hR : RT g (some .int)) {o : Nat} (hO : shB E.2.2.2.2.2.1 o) (w : Wd) (a1 : Int32) : YO g E 2 (QI g E) (fX5_bring E.2.2.2.2.2.1 w o a1) w 0 [(0, .ref (E.2.2.2.2.1 + o)), (1, .int a1)] [] := by
  unfold fX5_bring
  refine y_aload_n (n := 1) C dX5_bring_0 0 rfl rfl ?_
  refine y_iload_n (n := 2) C dX5_bring_1 1 rfl rfl ?_
  refine y_iconst (n := 3) C (0 : Int32) dX5_bring_2 (by decide) rfl ?_
  refine y_ci2 (n := 6) C (fun r hr H locs la hP hS hl => y_runV (ci := 5) (st := []) C ky_X5_setDeleted wd_299 ⟨Nat.le_of_ble_eq_true rfl, Nat.le_of_ble_eq_true rfl⟩ hO.1 rfl (mX5_setDeleted hO w a1 0 g.2.1 r hr) rfl (Nat.le_of_ble_eq_true rfl) rfl dX5_bring_3 hP hS hl) rfl (fun v1 w2 hv1 => ?_)
  exact y_ri C hR dX5_bring_6
theorem mX5_bring {E : Ex} {o : Nat} (hO : shB E.2.2.2.2.2.1 o) (w : Wd) (a1 : Int32) (l : Launch) : MI l yX5_bring cX5_bring 2 (some .int) { frames := 6, cells := 0, slots := 0, locals := 155 } E [.ref (E.2.2.2.2.1 + o), .int a1] w (fX5_bring E.2.2.2.2.2.1 w o a1) :=
  y_met (Qc := yQi E) (by decide +kernel) (Nat.le_of_ble_eq_true rfl) (fun g C hR => eX5_bring C hR hO w a1) l
def lX5_cheapest_22 (o : Nat) : Nat → Wd → Int32 → Int32 → Int32 → Option (Int32 × Wd)
  | 0, _, _, _, _ => none
  | n + 1, w, x1, x2, x3 =>
    if 6 ≤ x3 then
      some (x1, w)
    else
      if (x3 &&& 1) = 1 then
        (fX2_start w (o + 102) (o + 1 + 1) (x3 >>> (1 &&& 31)) 1).bind fun w11 =>
        ob2 (fX2_goOn w11 (o + 102) (o + 1 + 1) 240) fun v12 w13 =>
        (fX2_cost w13 (o + 102)).bind fun v14 =>
        if x3 = 0 then
          lX5_cheapest_22 o n w13 x3 v14 (x3 + 1)
        else
          if x2 ≤ v14 then
            lX5_cheapest_22 o n w13 x1 x2 (x3 + 1)
          else
            lX5_cheapest_22 o n w13 x3 v14 (x3 + 1)
      else
        (fX2_start w (o + 102) (o + 1 + 1) (x3 >>> (1 &&& 31)) 0).bind fun w5 =>
        ob2 (fX2_goOn w5 (o + 102) (o + 1 + 1) 240) fun v6 w7 =>
        (fX2_cost w7 (o + 102)).bind fun v8 =>
        if x3 = 0 then
          lX5_cheapest_22 o n w7 x3 v8 (x3 + 1)
        else
          if x2 ≤ v8 then
            lX5_cheapest_22 o n w7 x1 x2 (x3 + 1)
          else
            lX5_cheapest_22 o n w7 x3 v8 (x3 + 1)
set_option maxRecDepth 4000 in
theorem clX5_cheapest_22 {g : Gx} {E : Ex} (C : CC g E cX5_cheapest 5 RX5 6 140) (hR : RT g (some .int)) {o : Nat} (hO : shB E.2.2.2.2.2.1 o) : ∀ (n : Nat) (w : Wd) (x1 : Int32) (x2 : Int32) (x3 : Int32), YO g E 5 (QI g E) (lX5_cheapest_22 o n w x1 x2 x3) w 22 [(0, .ref (E.2.2.2.2.1 + o)), (1, .int x1), (2, .int x2), (3, .int x3)] [] := by
  intro n
  induction n with
  | zero => intro w x1 x2 x3; exact y_no
  | succ n ih =>
    intro w x1 x2 x3
    rw [lX5_cheapest_22]
    refine y_iload_n (n := 23) C dX5_cheapest_22 3 rfl rfl ?_
    refine y_bipush (n := 25) C (6 : Int32) dX5_cheapest_23 (by decide) rfl ?_
    refine y_icmp_ge (tgt := 105) (n := 28) C dX5_cheapest_25 (by decide) rfl (fun h3 => ?_) (fun h3 => ?_)
    · refine y_iload_n (n := 106) C dX5_cheapest_105 1 rfl rfl ?_
      exact y_ri C hR dX5_cheapest_106
    · refine y_aload_n (n := 29) C dX5_cheapest_28 0 rfl rfl ?_
      refine y_get (ci := 5) (f := 5) (n := 32) C in_X5 hO.1 rfl (by decide) wd_196 rfl rfl dX5_cheapest_29 rfl ?_
      refine y_aload_n (n := 33) C dX5_cheapest_32 0 rfl rfl ?_
      refine y_get (ci := 5) (f := 0) (n := 36) C in_X5 hO.1 rfl (by decide) wd_191 rfl rfl dX5_cheapest_33 rfl ?_
      refine y_getN (ci := 3) (f := 0) (n := 39) C in_X3 hO.2.1.1 rfl (by decide) wd_133 rfl rfl dX5_cheapest_36 rfl ?_
      refine y_iload_n (n := 40) C dX5_cheapest_39 3 rfl rfl ?_
      refine y_iconst (n := 41) C (1 : Int32) dX5_cheapest_40 (by decide) rfl ?_
      refine y_ishr (n := 42) C dX5_cheapest_41 rfl ?_
      refine y_iload_n (n := 43) C dX5_cheapest_42 3 rfl rfl ?_
      refine y_iconst (n := 44) C (1 : Int32) dX5_cheapest_43 (by decide) rfl ?_
      refine y_iand (n := 45) C dX5_cheapest_44 rfl ?_
      refine y_iconst (n := 46) C (1 : Int32) dX5_cheapest_45 (by decide) rfl ?_
      refine y_icmp_ne (tgt := 53) (n := 49) C dX5_cheapest_46 (by decide) rfl (fun h4 => ?_) (fun h4 => ?_)
      · refine y_iconst (n := 54) C (0 : Int32) dX5_cheapest_53 (by decide) rfl ?_
        refine y_cv (n := 57) C (fun r hr H locs la hP hS hl => y_runVN (ci := 2) (st := []) C ky_X2_start wd_357 ⟨Nat.le_of_ble_eq_true rfl, Nat.le_of_ble_eq_true rfl⟩ hO.2.2.2.2.2.1 rfl (mX2_start hO.2.2.2.2.2 hO.2.1.2.1 w (x3 >>> (1 &&& 31)) 0 g.2.1 r hr) rfl (Nat.le_of_ble_eq_true rfl) rfl dX5_cheapest_54 hP hS hl) rfl (fun w5 hw5 => ?_)
        refine y_aload_n (n := 58) C dX5_cheapest_57 0 rfl rfl ?_
        refine y_get (ci := 5) (f := 5) (n := 61) C in_X5 hO.1 rfl (by decide) wd_196 rfl rfl dX5_cheapest_58 rfl ?_
        refine y_aload_n (n := 62) C dX5_cheapest_61 0 rfl rfl ?_
        refine y_get (ci := 5) (f := 0) (n := 65) C in_X5 hO.1 rfl (by decide) wd_191 rfl rfl dX5_cheapest_62 rfl ?_
        refine y_getN (ci := 3) (f := 0) (n := 68) C in_X3 hO.2.1.1 rfl (by decide) wd_133 rfl rfl dX5_cheapest_65 rfl ?_
        refine y_sipush (n := 71) C (240 : Int32) dX5_cheapest_68 (by decide) rfl ?_
        refine y_ci2 (n := 74) C (fun r hr H locs la hP hS hl => y_runVN (ci := 2) (st := []) C ky_X2_goOn wd_414 ⟨Nat.le_of_ble_eq_true rfl, Nat.le_of_ble_eq_true rfl⟩ hO.2.2.2.2.2.1 rfl (mX2_goOn hO.2.2.2.2.2 hO.2.1.2.1 w5 240 g.2.1 r hr) rfl (Nat.le_of_ble_eq_true rfl) rfl dX5_cheapest_71 hP hS hl) rfl (fun v6 w7 hv6 => ?_)
        refine y_pop (n := 75) C dX5_cheapest_74 rfl rfl ?_
        refine y_aload_n (n := 76) C dX5_cheapest_75 0 rfl rfl ?_
        refine y_get (ci := 5) (f := 5) (n := 79) C in_X5 hO.1 rfl (by decide) wd_196 rfl rfl dX5_cheapest_76 rfl ?_
        refine y_cp (n := 82) C (fun r hr H locs la hP hS hl => y_runVN (ci := 2) (st := []) C ky_X2_cost wd_681 ⟨Nat.le_of_ble_eq_true rfl, Nat.le_of_ble_eq_true rfl⟩ hO.2.2.2.2.2.1 rfl (mX2_cost hO.2.2.2.2.2 w7 g.2.1 r hr) rfl (Nat.le_of_ble_eq_true rfl) rfl dX5_cheapest_79 hP hS hl) rfl (fun v8 hv8 => ?_)
        refine y_istore (n := 84) (ls' := [(4, .int v8), (0, .ref (E.2.2.2.2.1 + o)), (1, .int x1), (2, .int x2), (3, .int x3)]) C dX5_cheapest_82 (by decide) rfl rfl ?_
        refine y_iload_n (n := 85) C dX5_cheapest_84 4 rfl rfl ?_
        refine y_if_eq (tgt := 94) (n := 88) C dX5_cheapest_85 (by decide) rfl (fun h9 => ?_) (fun h9 => ?_)
        · refine y_iload_n (n := 95) C dX5_cheapest_94 4 rfl rfl ?_
          refine y_istore_n (n := 96) (ls' := [(1, .int x3), (4, .int v8), (0, .ref (E.2.2.2.2.1 + o)), (2, .int x2), (3, .int x3)]) C dX5_cheapest_95 (by decide) rfl rfl ?_
          refine y_iload (n := 98) C dX5_cheapest_96 1 rfl rfl ?_
          refine y_istore_n (n := 99) (ls' := [(2, .int v8), (1, .int x3), (4, .int v8), (0, .ref (E.2.2.2.2.1 + o)), (3, .int x3)]) C dX5_cheapest_98 (by decide) rfl rfl ?_
          refine y_iinc (n := 102) (v := x3 + 1) (ls' := [(3, .int (x3 + 1)), (2, .int v8), (1, .int x3), (4, .int v8), (0, .ref (E.2.2.2.2.1 + o))]) C dX5_cheapest_99 4 rfl rfl (by decide) rfl rfl ?_
          refine y_goto (tgt := 22) C dX5_cheapest_102 (by decide) ?_
          refine y_ls [4, 2, 1, 0] rfl ?_
          exact ih w7 x3 v8 (x3 + 1)
        · refine y_iload (n := 90) C dX5_cheapest_88 0 rfl rfl ?_
          refine y_iload_n (n := 91) C dX5_cheapest_90 3 rfl rfl ?_
          refine y_icmp_ge (tgt := 99) (n := 94) C dX5_cheapest_91 (by decide) rfl (fun h10 => ?_) (fun h10 => ?_)
          · refine y_iinc (n := 102) (v := x3 + 1) (ls' := [(3, .int (x3 + 1)), (4, .int v8), (0, .ref (E.2.2.2.2.1 + o)), (1, .int x1), (2, .int x2)]) C dX5_cheapest_99 4 rfl rfl (by decide) rfl rfl ?_
            refine y_goto (tgt := 22) C dX5_cheapest_102 (by decide) ?_
            refine y_ls [2, 3, 4, 0] rfl ?_
            exact ih w7 x1 x2 (x3 + 1)
          · refine y_iload_n (n := 95) C dX5_cheapest_94 4 rfl rfl ?_
            refine y_istore_n (n := 96) (ls' := [(1, .int x3), (4, .int v8), (0, .ref (E.2.2.2.2.1 + o)), (2, .int x2), (3, .int x3)]) C dX5_cheapest_95 (by decide) rfl rfl ?_
            refine y_iload (n := 98) C dX5_cheapest_96 1 rfl rfl ?_
            refine y_istore_n (n := 99) (ls' := [(2, .int v8), (1, .int x3), (4, .int v8), (0, .ref (E.2.2.2.2.1 + o)), (3, .int x3)]) C dX5_cheapest_98 (by decide) rfl rfl ?_
            refine y_iinc (n := 102) (v := x3 + 1) (ls' := [(3, .int (x3 + 1)), (2, .int v8), (1, .int x3), (4, .int v8), (0, .ref (E.2.2.2.2.1 + o))]) C dX5_cheapest_99 4 rfl rfl (by decide) rfl rfl ?_
            refine y_goto (tgt := 22) C dX5_cheapest_102 (by decide) ?_
            refine y_ls [4, 2, 1, 0] rfl ?_
            exact ih w7 x3 v8 (x3 + 1)
      · refine y_iconst (n := 50) C (1 : Int32) dX5_cheapest_49 (by decide) rfl ?_
        refine y_goto (tgt := 54) C dX5_cheapest_50 (by decide) ?_
        refine y_cv (n := 57) C (fun r hr H locs la hP hS hl => y_runVN (ci := 2) (st := []) C ky_X2_start wd_357 ⟨Nat.le_of_ble_eq_true rfl, Nat.le_of_ble_eq_true rfl⟩ hO.2.2.2.2.2.1 rfl (mX2_start hO.2.2.2.2.2 hO.2.1.2.1 w (x3 >>> (1 &&& 31)) 1 g.2.1 r hr) rfl (Nat.le_of_ble_eq_true rfl) rfl dX5_cheapest_54 hP hS hl) rfl (fun w11 hw11 => ?_)
        refine y_aload_n (n := 58) C dX5_cheapest_57 0 rfl rfl ?_
        refine y_get (ci := 5) (f := 5) (n := 61) C in_X5 hO.1 rfl (by decide) wd_196 rfl rfl dX5_cheapest_58 rfl ?_
        refine y_aload_n (n := 62) C dX5_cheapest_61 0 rfl rfl ?_
        refine y_get (ci := 5) (f := 0) (n := 65) C in_X5 hO.1 rfl (by decide) wd_191 rfl rfl dX5_cheapest_62 rfl ?_
        refine y_getN (ci := 3) (f := 0) (n := 68) C in_X3 hO.2.1.1 rfl (by decide) wd_133 rfl rfl dX5_cheapest_65 rfl ?_
        refine y_sipush (n := 71) C (240 : Int32) dX5_cheapest_68 (by decide) rfl ?_
        refine y_ci2 (n := 74) C (fun r hr H locs la hP hS hl => y_runVN (ci := 2) (st := []) C ky_X2_goOn wd_414 ⟨Nat.le_of_ble_eq_true rfl, Nat.le_of_ble_eq_true rfl⟩ hO.2.2.2.2.2.1 rfl (mX2_goOn hO.2.2.2.2.2 hO.2.1.2.1 w11 240 g.2.1 r hr) rfl (Nat.le_of_ble_eq_true rfl) rfl dX5_cheapest_71 hP hS hl) rfl (fun v12 w13 hv12 => ?_)
        refine y_pop (n := 75) C dX5_cheapest_74 rfl rfl ?_
        refine y_aload_n (n := 76) C dX5_cheapest_75 0 rfl rfl ?_
        refine y_get (ci := 5) (f := 5) (n := 79) C in_X5 hO.1 rfl (by decide) wd_196 rfl rfl dX5_cheapest_76 rfl ?_
        refine y_cp (n := 82) C (fun r hr H locs la hP hS hl => y_runVN (ci := 2) (st := []) C ky_X2_cost wd_681 ⟨Nat.le_of_ble_eq_true rfl, Nat.le_of_ble_eq_true rfl⟩ hO.2.2.2.2.2.1 rfl (mX2_cost hO.2.2.2.2.2 w13 g.2.1 r hr) rfl (Nat.le_of_ble_eq_true rfl) rfl dX5_cheapest_79 hP hS hl) rfl (fun v14 hv14 => ?_)
        refine y_istore (n := 84) (ls' := [(4, .int v14), (0, .ref (E.2.2.2.2.1 + o)), (1, .int x1), (2, .int x2), (3, .int x3)]) C dX5_cheapest_82 (by decide) rfl rfl ?_
        refine y_iload_n (n := 85) C dX5_cheapest_84 4 rfl rfl ?_
        refine y_if_eq (tgt := 94) (n := 88) C dX5_cheapest_85 (by decide) rfl (fun h15 => ?_) (fun h15 => ?_)
        · refine y_iload_n (n := 95) C dX5_cheapest_94 4 rfl rfl ?_
          refine y_istore_n (n := 96) (ls' := [(1, .int x3), (4, .int v14), (0, .ref (E.2.2.2.2.1 + o)), (2, .int x2), (3, .int x3)]) C dX5_cheapest_95 (by decide) rfl rfl ?_
          refine y_iload (n := 98) C dX5_cheapest_96 1 rfl rfl ?_
          refine y_istore_n (n := 99) (ls' := [(2, .int v14), (1, .int x3), (4, .int v14), (0, .ref (E.2.2.2.2.1 + o)), (3, .int x3)]) C dX5_cheapest_98 (by decide) rfl rfl ?_
          refine y_iinc (n := 102) (v := x3 + 1) (ls' := [(3, .int (x3 + 1)), (2, .int v14), (1, .int x3), (4, .int v14), (0, .ref (E.2.2.2.2.1 + o))]) C dX5_cheapest_99 4 rfl rfl (by decide) rfl rfl ?_
          refine y_goto (tgt := 22) C dX5_cheapest_102 (by decide) ?_
          refine y_ls [4, 2, 1, 0] rfl ?_
          exact ih w13 x3 v14 (x3 + 1)
        · refine y_iload (n := 90) C dX5_cheapest_88 0 rfl rfl ?_
          refine y_iload_n (n := 91) C dX5_cheapest_90 3 rfl rfl ?_
          refine y_icmp_ge (tgt := 99) (n := 94) C dX5_cheapest_91 (by decide) rfl (fun h16 => ?_) (fun h16 => ?_)
          · refine y_iinc (n := 102) (v := x3 + 1) (ls' := [(3, .int (x3 + 1)), (4, .int v14), (0, .ref (E.2.2.2.2.1 + o)), (1, .int x1), (2, .int x2)]) C dX5_cheapest_99 4 rfl rfl (by decide) rfl rfl ?_
            refine y_goto (tgt := 22) C dX5_cheapest_102 (by decide) ?_
            refine y_ls [2, 3, 4, 0] rfl ?_
            exact ih w13 x1 x2 (x3 + 1)
          · refine y_iload_n (n := 95) C dX5_cheapest_94 4 rfl rfl ?_
            refine y_istore_n (n := 96) (ls' := [(1, .int x3), (4, .int v14), (0, .ref (E.2.2.2.2.1 + o)), (2, .int x2), (3, .int x3)]) C dX5_cheapest_95 (by decide) rfl rfl ?_
            refine y_iload (n := 98) C dX5_cheapest_96 1 rfl rfl ?_
            refine y_istore_n (n := 99) (ls' := [(2, .int v14), (1, .int x3), (4, .int v14), (0, .ref (E.2.2.2.2.1 + o)), (3, .int x3)]) C dX5_cheapest_98 (by decide) rfl rfl ?_
            refine y_iinc (n := 102) (v := x3 + 1) (ls' := [(3, .int (x3 + 1)), (2, .int v14), (1, .int x3), (4, .int v14), (0, .ref (E.2.2.2.2.1 + o))]) C dX5_cheapest_99 4 rfl rfl (by decide) rfl rfl ?_
            refine y_goto (tgt := 22) C dX5_cheapest_102 (by decide) ?_
            refine y_ls [4, 2, 1, 0] rfl ?_
            exact ih w13 x3 v14 (x3 + 1)
def fX5_cheapest (w : Wd) (o : Nat)  : Option (Int32 × Wd) :=
  (fX1_questionSize w (o + 1 + 1)).bind fun v1 =>
  if v1 = 0 then
    some ((-4), w)
  else
    lX5_cheapest_22 o 4096 w 0 0 0
set_option maxRecDepth 4000 in
theorem eX5_cheapest {g : Gx} {E : Ex} (C : CC g E cX5_cheapest 5 RX5 6 140) (hR : RT g (some .int)) {o : Nat} (hO : shB E.2.2.2.2.2.1 o) (w : Wd)  : YO g E 5 (QI g E) (fX5_cheapest w o) w 0 [(0, .ref (E.2.2.2.2.1 + o))] [] := by
  unfold fX5_cheapest
  refine y_aload_n (n := 1) C dX5_cheapest_0 0 rfl rfl ?_
  refine y_get (ci := 5) (f := 0) (n := 4) C in_X5 hO.1 rfl (by decide) wd_191 rfl rfl dX5_cheapest_1 rfl ?_
  refine y_getN (ci := 3) (f := 0) (n := 7) C in_X3 hO.2.1.1 rfl (by decide) wd_133 rfl rfl dX5_cheapest_4 rfl ?_
  refine y_cp (n := 10) C (fun r hr H locs la hP hS hl => y_runVN (ci := 1) (st := []) C ky_X1_questionSize wd_349 ⟨Nat.le_of_ble_eq_true rfl, Nat.le_of_ble_eq_true rfl⟩ hO.2.1.2.1.1 rfl (mX1_questionSize hO.2.1.2.1 w g.2.1 r hr) rfl (Nat.le_of_ble_eq_true rfl) rfl dX5_cheapest_7 hP hS hl) rfl (fun v1 hv1 => ?_)
  refine y_if_ne (tgt := 16) (n := 13) C dX5_cheapest_10 (by decide) rfl (fun h2 => ?_) (fun h2 => ?_)
  · refine y_iconst (n := 17) C (0 : Int32) dX5_cheapest_16 (by decide) rfl ?_
    refine y_istore_n (n := 18) (ls' := [(1, .int 0), (0, .ref (E.2.2.2.2.1 + o))]) C dX5_cheapest_17 (by decide) rfl rfl ?_
    refine y_iconst (n := 19) C (0 : Int32) dX5_cheapest_18 (by decide) rfl ?_
    refine y_istore_n (n := 20) (ls' := [(2, .int 0), (1, .int 0), (0, .ref (E.2.2.2.2.1 + o))]) C dX5_cheapest_19 (by decide) rfl rfl ?_
    refine y_iconst (n := 21) C (0 : Int32) dX5_cheapest_20 (by decide) rfl ?_
    refine y_istore_n (n := 22) (ls' := [(3, .int 0), (2, .int 0), (1, .int 0), (0, .ref (E.2.2.2.2.1 + o))]) C dX5_cheapest_21 (by decide) rfl rfl ?_
    refine y_ls [3, 2, 1, 0] rfl ?_
    exact clX5_cheapest_22 C hR hO 4096 w 0 0 0
  · refine y_bipush (n := 15) C ((-4) : Int32) dX5_cheapest_13 (by decide) rfl ?_
    exact y_ri C hR dX5_cheapest_15
theorem mX5_cheapest {E : Ex} {o : Nat} (hO : shB E.2.2.2.2.2.1 o) (w : Wd)  (l : Launch) : MI l yX5_cheapest cX5_cheapest 5 (some .int) { frames := 6, cells := 0, slots := 0, locals := 140 } E [.ref (E.2.2.2.2.1 + o)] w (fX5_cheapest w o) :=
  y_met (Qc := yQi E) (by decide +kernel) (Nat.le_of_ble_eq_true rfl) (fun g C hR => eX5_cheapest C hR hO w ) l
def fX5_clearText (w : Wd) (o : Nat)  : Option (Int32 × Wd) :=
  (pI w (o + 99) 1 0).bind fun w1 =>
  some (w.1 (o + 99) 1, w1)
set_option maxRecDepth 4000 in
theorem eX5_clearText {g : Gx} {E : Ex} (C : CC g E cX5_clearText 2 RX5 0 0) (hR : RT g (some .int)) {o : Nat} (hO : shB E.2.2.2.2.2.1 o) (w : Wd)  : YO g E 2 (QI g E) (fX5_clearText w o) w 0 [(0, .ref (E.2.2.2.2.1 + o))] [] := by
  unfold fX5_clearText
  refine y_aload_n (n := 1) C dX5_clearText_0 0 rfl rfl ?_
  refine y_get (ci := 5) (f := 4) (n := 4) C in_X5 hO.1 rfl (by decide) wd_195 rfl rfl dX5_clearText_1 rfl ?_
  refine y_getN (ci := 4) (f := 1) (n := 7) C in_X4 hO.2.2.2.2.1.1 rfl (by decide) wd_174 rfl rfl dX5_clearText_4 rfl ?_
  refine y_istore_n (n := 8) (ls' := [(1, .int (w.1 (o + 99) 1)), (0, .ref (E.2.2.2.2.1 + o))]) C dX5_clearText_7 (by decide) rfl rfl ?_
  refine y_aload_n (n := 9) C dX5_clearText_8 1 rfl rfl ?_
  refine y_get (ci := 5) (f := 4) (n := 12) C in_X5 hO.1 rfl (by decide) wd_195 rfl rfl dX5_clearText_9 rfl ?_
  refine y_iconst (n := 13) C (0 : Int32) dX5_clearText_12 (by decide) rfl ?_
  refine y_putIN (ci := 4) (f := 1) (n := 16) C in_X4 tyX4 tyX4_ok nmX4 hO.2.2.2.2.1.1 rfl (by decide) wd_174 rfl rfl (by decide +kernel) (Nat.le_of_ble_eq_true rfl) st_X4_1 dX5_clearText_13 rfl (fun w1 hw1 => ?_)
  refine y_iload_n (n := 17) C dX5_clearText_16 0 rfl rfl ?_
  exact y_ri C hR dX5_clearText_17
theorem mX5_clearText {E : Ex} {o : Nat} (hO : shB E.2.2.2.2.2.1 o) (w : Wd)  (l : Launch) : MI l yX5_clearText cX5_clearText 2 (some .int) { frames := 0, cells := 0, slots := 0, locals := 0 } E [.ref (E.2.2.2.2.1 + o)] w (fX5_clearText w o) :=
  y_met (Qc := yQi E) (by decide +kernel) (Nat.le_of_ble_eq_true rfl) (fun g C hR => eX5_clearText C hR hO w ) l
def fX5_clerk (w : Wd) (o : Nat) (a1 : Int32) (a2 : Int32) : Option (Int32) :=
  (fX5_isList w a1).bind fun v1 =>
  if v1 = 0 then
    some (-1)
  else
    if a2 < 0 then
      some (-2)
    else
      if a2 ≤ 4 then
        if (bz (w.1 (o + 1 + 7) 0)) = 0 then
          some (-4)
        else
          (fX1_isAsked w (o + 1 + 1) a1).bind fun v6 =>
          if v6 = 0 then
            some (-5)
          else
            if a2 = 0 then
              (fX5_at w (o + 1 + 7 + 1) 6 a1).bind fun v9 =>
              some v9
            else
            if a2 = 1 then
              (fX5_at w (o + 1 + 7 + 4) 6 a1).bind fun v11 =>
              some v11
            else
            if a2 = 2 then
              (fX5_at w (o + 1 + 7 + 3) 6 a1).bind fun v13 =>
              some v13
            else
            if a2 = 3 then
              (fX2_isCaught w (o + 1 + 7) a1).bind fun v15 =>
              (fX5_oneIf w v15).bind fun v16 =>
              some v16
            else
            (fX5_at w (o + 1 + 7 + 2) 6 a1).bind fun v17 =>
            some v17
      else
        some (-2)
set_option maxRecDepth 4000 in
theorem eX5_clerk {g : Gx} {E : Ex} (C : CC g E cX5_clerk 3 RX5 2 42) (hR : RT g (some .int)) {o : Nat} (hO : shB E.2.2.2.2.2.1 o) (w : Wd) (a1 : Int32) (a2 : Int32) : YO g E 3 (QP g E w) (fX5_clerk w o a1 a2) w 0 [(0, .ref (E.2.2.2.2.1 + o)), (1, .int a1), (2, .int a2)] [] := by
  unfold fX5_clerk
  refine y_iload_n (n := 1) C dX5_clerk_0 1 rfl rfl ?_
  refine y_cp (n := 4) C (fun r hr H locs la hP hS hl => y_runS (st := []) C ky_X5_isList wd_214 ⟨Nat.le_of_ble_eq_true rfl, Nat.le_of_ble_eq_true rfl⟩ (mX5_isList w a1 g.2.1 r hr) rfl (Nat.le_of_ble_eq_true rfl) rfl dX5_clerk_1 hP hS hl) rfl (fun v1 hv1 => ?_)
  refine y_if_ne (tgt := 9) (n := 7) C dX5_clerk_4 (by decide) rfl (fun h2 => ?_) (fun h2 => ?_)
  · refine y_iload_n (n := 10) C dX5_clerk_9 2 rfl rfl ?_
    refine y_if_lt (tgt := 18) (n := 13) C dX5_clerk_10 (by decide) rfl (fun h3 => ?_) (fun h3 => ?_)
    · refine y_bipush (n := 20) C ((-2) : Int32) dX5_clerk_18 (by decide) rfl ?_
      exact y_rp C hR dX5_clerk_20
    · refine y_iload_n (n := 14) C dX5_clerk_13 2 rfl rfl ?_
      refine y_iconst (n := 15) C (4 : Int32) dX5_clerk_14 (by decide) rfl ?_
      refine y_icmp_le (tgt := 21) (n := 18) C dX5_clerk_15 (by decide) rfl (fun h4 => ?_) (fun h4 => ?_)
      · refine y_aload_n (n := 22) C dX5_clerk_21 0 rfl rfl ?_
        refine y_get (ci := 5) (f := 0) (n := 25) C in_X5 hO.1 rfl (by decide) wd_191 rfl rfl dX5_clerk_22 rfl ?_
        refine y_getN (ci := 3) (f := 1) (n := 28) C in_X3 hO.2.1.1 rfl (by decide) wd_135 rfl rfl dX5_clerk_25 rfl ?_
        refine y_getN (ci := 2) (f := 0) (n := 31) C in_X2 hO.2.1.2.2.1 rfl (by decide) wd_73 rfl rfl dX5_clerk_28 rfl ?_
        refine y_if_ne (tgt := 37) (n := 34) C dX5_clerk_31 (by decide) rfl (fun h5 => ?_) (fun h5 => ?_)
        · refine y_aload_n (n := 38) C dX5_clerk_37 0 rfl rfl ?_
          refine y_get (ci := 5) (f := 0) (n := 41) C in_X5 hO.1 rfl (by decide) wd_191 rfl rfl dX5_clerk_38 rfl ?_
          refine y_getN (ci := 3) (f := 0) (n := 44) C in_X3 hO.2.1.1 rfl (by decide) wd_133 rfl rfl dX5_clerk_41 rfl ?_
          refine y_iload_n (n := 45) C dX5_clerk_44 1 rfl rfl ?_
          refine y_cp (n := 48) C (fun r hr H locs la hP hS hl => y_runVN (ci := 1) (st := []) C ky_X1_isAsked wd_655 ⟨Nat.le_of_ble_eq_true rfl, Nat.le_of_ble_eq_true rfl⟩ hO.2.1.2.1.1 rfl (mX1_isAsked hO.2.1.2.1 w a1 g.2.1 r hr) rfl (Nat.le_of_ble_eq_true rfl) rfl dX5_clerk_45 hP hS hl) rfl (fun v6 hv6 => ?_)
          refine y_if_ne (tgt := 54) (n := 51) C dX5_clerk_48 (by decide) rfl (fun h7 => ?_) (fun h7 => ?_)
          · refine y_iload_n (n := 55) C dX5_clerk_54 2 rfl rfl ?_
            refine y_if (fun h8 => ?_) (fun h8 => ?_)
            · refine y_swIn (tgt := 84) C 29 dX5_clerk_55 (by rw [h8]; decide) (by rw [h8]; decide) (by rw [h8]; rfl) (by decide) ?_
              refine y_aload_n (n := 85) C dX5_clerk_84 0 rfl rfl ?_
              refine y_get (ci := 5) (f := 0) (n := 88) C in_X5 hO.1 rfl (by decide) wd_191 rfl rfl dX5_clerk_85 rfl ?_
              refine y_getN (ci := 3) (f := 1) (n := 91) C in_X3 hO.2.1.1 rfl (by decide) wd_135 rfl rfl dX5_clerk_88 rfl ?_
              refine y_getN (ci := 2) (f := 7) (n := 94) C in_X2 hO.2.1.2.2.1 rfl (by decide) wd_83 rfl rfl dX5_clerk_91 rfl ?_
              refine y_iload_n (n := 95) C dX5_clerk_94 1 rfl rfl ?_
              refine y_cp (n := 98) C (fun r hr H locs la hP hS hl => y_runS (st := []) C ky_X5_at wd_332 ⟨Nat.le_of_ble_eq_true rfl, Nat.le_of_ble_eq_true rfl⟩ (mX5_at hO.2.1.2.2.2.1 w a1 g.2.1 r hr) rfl (Nat.le_of_ble_eq_true rfl) rfl dX5_clerk_95 hP hS hl) rfl (fun v9 hv9 => ?_)
              exact y_rp C hR dX5_clerk_98
            refine y_if (fun h10 => ?_) (fun h10 => ?_)
            · refine y_swIn (tgt := 99) C 44 dX5_clerk_55 (by rw [h10]; decide) (by rw [h10]; decide) (by rw [h10]; rfl) (by decide) ?_
              refine y_aload_n (n := 100) C dX5_clerk_99 0 rfl rfl ?_
              refine y_get (ci := 5) (f := 0) (n := 103) C in_X5 hO.1 rfl (by decide) wd_191 rfl rfl dX5_clerk_100 rfl ?_
              refine y_getN (ci := 3) (f := 1) (n := 106) C in_X3 hO.2.1.1 rfl (by decide) wd_135 rfl rfl dX5_clerk_103 rfl ?_
              refine y_getN (ci := 2) (f := 10) (n := 109) C in_X2 hO.2.1.2.2.1 rfl (by decide) wd_89 rfl rfl dX5_clerk_106 rfl ?_
              refine y_iload_n (n := 110) C dX5_clerk_109 1 rfl rfl ?_
              refine y_cp (n := 113) C (fun r hr H locs la hP hS hl => y_runS (st := []) C ky_X5_at wd_332 ⟨Nat.le_of_ble_eq_true rfl, Nat.le_of_ble_eq_true rfl⟩ (mX5_at hO.2.1.2.2.2.2.2.2.1 w a1 g.2.1 r hr) rfl (Nat.le_of_ble_eq_true rfl) rfl dX5_clerk_110 hP hS hl) rfl (fun v11 hv11 => ?_)
              exact y_rp C hR dX5_clerk_113
            refine y_if (fun h12 => ?_) (fun h12 => ?_)
            · refine y_swIn (tgt := 114) C 59 dX5_clerk_55 (by rw [h12]; decide) (by rw [h12]; decide) (by rw [h12]; rfl) (by decide) ?_
              refine y_aload_n (n := 115) C dX5_clerk_114 0 rfl rfl ?_
              refine y_get (ci := 5) (f := 0) (n := 118) C in_X5 hO.1 rfl (by decide) wd_191 rfl rfl dX5_clerk_115 rfl ?_
              refine y_getN (ci := 3) (f := 1) (n := 121) C in_X3 hO.2.1.1 rfl (by decide) wd_135 rfl rfl dX5_clerk_118 rfl ?_
              refine y_getN (ci := 2) (f := 9) (n := 124) C in_X2 hO.2.1.2.2.1 rfl (by decide) wd_87 rfl rfl dX5_clerk_121 rfl ?_
              refine y_iload_n (n := 125) C dX5_clerk_124 1 rfl rfl ?_
              refine y_cp (n := 128) C (fun r hr H locs la hP hS hl => y_runS (st := []) C ky_X5_at wd_332 ⟨Nat.le_of_ble_eq_true rfl, Nat.le_of_ble_eq_true rfl⟩ (mX5_at hO.2.1.2.2.2.2.2.1 w a1 g.2.1 r hr) rfl (Nat.le_of_ble_eq_true rfl) rfl dX5_clerk_125 hP hS hl) rfl (fun v13 hv13 => ?_)
              exact y_rp C hR dX5_clerk_128
            refine y_if (fun h14 => ?_) (fun h14 => ?_)
            · refine y_swIn (tgt := 129) C 74 dX5_clerk_55 (by rw [h14]; decide) (by rw [h14]; decide) (by rw [h14]; rfl) (by decide) ?_
              refine y_aload_n (n := 130) C dX5_clerk_129 0 rfl rfl ?_
              refine y_get (ci := 5) (f := 0) (n := 133) C in_X5 hO.1 rfl (by decide) wd_191 rfl rfl dX5_clerk_130 rfl ?_
              refine y_getN (ci := 3) (f := 1) (n := 136) C in_X3 hO.2.1.1 rfl (by decide) wd_135 rfl rfl dX5_clerk_133 rfl ?_
              refine y_iload_n (n := 137) C dX5_clerk_136 1 rfl rfl ?_
              refine y_cp (n := 140) C (fun r hr H locs la hP hS hl => y_runVN (ci := 2) (st := []) C ky_X2_isCaught wd_656 ⟨Nat.le_of_ble_eq_true rfl, Nat.le_of_ble_eq_true rfl⟩ hO.2.1.2.2.1 rfl (mX2_isCaught hO.2.1.2.2 w a1 g.2.1 r hr) rfl (Nat.le_of_ble_eq_true rfl) rfl dX5_clerk_137 hP hS hl) rfl (fun v15 hv15 => ?_)
              refine y_cp (n := 143) C (fun r hr H locs la hP hS hl => y_runS (st := []) C ky_X5_oneIf wd_404 ⟨Nat.le_of_ble_eq_true rfl, Nat.le_of_ble_eq_true rfl⟩ (mX5_oneIf w v15 g.2.1 r hr) rfl (Nat.le_of_ble_eq_true rfl) rfl dX5_clerk_140 hP hS hl) rfl (fun v16 hv16 => ?_)
              exact y_rp C hR dX5_clerk_143
            refine y_swOut (tgt := 144) C dX5_clerk_55 (by have gh8 := sw_ne (k := 0) (by decide) h8; have gh10 := sw_ne (k := 1) (by decide) h10; have gh12 := sw_ne (k := 2) (by decide) h12; have gh14 := sw_ne (k := 3) (by decide) h14; omega) (by decide) ?_
            refine y_aload_n (n := 145) C dX5_clerk_144 0 rfl rfl ?_
            refine y_get (ci := 5) (f := 0) (n := 148) C in_X5 hO.1 rfl (by decide) wd_191 rfl rfl dX5_clerk_145 rfl ?_
            refine y_getN (ci := 3) (f := 1) (n := 151) C in_X3 hO.2.1.1 rfl (by decide) wd_135 rfl rfl dX5_clerk_148 rfl ?_
            refine y_getN (ci := 2) (f := 8) (n := 154) C in_X2 hO.2.1.2.2.1 rfl (by decide) wd_85 rfl rfl dX5_clerk_151 rfl ?_
            refine y_iload_n (n := 155) C dX5_clerk_154 1 rfl rfl ?_
            refine y_cp (n := 158) C (fun r hr H locs la hP hS hl => y_runS (st := []) C ky_X5_at wd_332 ⟨Nat.le_of_ble_eq_true rfl, Nat.le_of_ble_eq_true rfl⟩ (mX5_at hO.2.1.2.2.2.2.1 w a1 g.2.1 r hr) rfl (Nat.le_of_ble_eq_true rfl) rfl dX5_clerk_155 hP hS hl) rfl (fun v17 hv17 => ?_)
            exact y_rp C hR dX5_clerk_158
          · refine y_bipush (n := 53) C ((-5) : Int32) dX5_clerk_51 (by decide) rfl ?_
            exact y_rp C hR dX5_clerk_53
        · refine y_bipush (n := 36) C ((-4) : Int32) dX5_clerk_34 (by decide) rfl ?_
          exact y_rp C hR dX5_clerk_36
      · refine y_bipush (n := 20) C ((-2) : Int32) dX5_clerk_18 (by decide) rfl ?_
        exact y_rp C hR dX5_clerk_20
  · refine y_iconst (n := 8) C ((-1) : Int32) dX5_clerk_7 (by decide) rfl ?_
    exact y_rp C hR dX5_clerk_8
theorem mX5_clerk {E : Ex} {o : Nat} (hO : shB E.2.2.2.2.2.1 o) (w : Wd) (a1 : Int32) (a2 : Int32) (l : Launch) : MP l yX5_clerk cX5_clerk 3 (some .int) { frames := 2, cells := 0, slots := 0, locals := 42 } E [.ref (E.2.2.2.2.1 + o), .int a1, .int a2] w (fX5_clerk w o a1 a2) :=
  y_met (Qc := fun r => yQi E (r, w)) (by decide +kernel) (Nat.le_of_ble_eq_true rfl) (fun g C hR => eX5_clerk C hR hO w a1 a2) l
def fX5_count (w : Wd) (o : Nat) (a1 : Int32) : Option (Int32) :=
  if a1 = 0 then
    (fX1_entries w (o + 1 + 1)).bind fun v2 =>
    some v2
  else
  if a1 = 1 then
    (fX1_questionSize w (o + 1 + 1)).bind fun v4 =>
    some v4
  else
  if a1 = 2 then
    some (w.1 (o + 1 + 1) 6)
  else
  if a1 = 3 then
    (fJ13_bitCount_95d88 w (w.2.1 (o + 1 + 1))).bind fun v7 =>
    some v7
  else
  if a1 = 4 then
    (fX1_wantedSize w (o + 1 + 1)).bind fun v9 =>
    some v9
  else
  if a1 = 5 then
    (fX5_oneIf w (bz (w.1 (o + 1 + 7) 0))).bind fun v11 =>
    some v11
  else
  if a1 = 6 then
    some (w.1 (o + 1) 2)
  else
  if a1 = 7 then
    some (w.1 (o + 1) 3)
  else
  if a1 = 8 then
    some (w.1 (o + 17) 1)
  else
  if a1 = 9 then
    some (w.1 (o + 99) 1)
  else
  some (-2)
set_option maxRecDepth 4000 in
theorem eX5_count {g : Gx} {E : Ex} (C : CC g E cX5_count 2 RX5 5 109) (hR : RT g (some .int)) {o : Nat} (hO : shB E.2.2.2.2.2.1 o) (w : Wd) (a1 : Int32) : YO g E 2 (QP g E w) (fX5_count w o a1) w 0 [(0, .ref (E.2.2.2.2.1 + o)), (1, .int a1)] [] := by
  unfold fX5_count
  refine y_iload_n (n := 1) C dX5_count_0 1 rfl rfl ?_
  refine y_if (fun h1 => ?_) (fun h1 => ?_)
  · refine y_swIn (tgt := 56) C 55 dX5_count_1 (by rw [h1]; decide) (by rw [h1]; decide) (by rw [h1]; rfl) (by decide) ?_
    refine y_aload_n (n := 57) C dX5_count_56 0 rfl rfl ?_
    refine y_get (ci := 5) (f := 0) (n := 60) C in_X5 hO.1 rfl (by decide) wd_191 rfl rfl dX5_count_57 rfl ?_
    refine y_getN (ci := 3) (f := 0) (n := 63) C in_X3 hO.2.1.1 rfl (by decide) wd_133 rfl rfl dX5_count_60 rfl ?_
    refine y_cp (n := 66) C (fun r hr H locs la hP hS hl => y_runVN (ci := 1) (st := []) C ky_X1_entries wd_601 ⟨Nat.le_of_ble_eq_true rfl, Nat.le_of_ble_eq_true rfl⟩ hO.2.1.2.1.1 rfl (mX1_entries hO.2.1.2.1 w g.2.1 r hr) rfl (Nat.le_of_ble_eq_true rfl) rfl dX5_count_63 hP hS hl) rfl (fun v2 hv2 => ?_)
    exact y_rp C hR dX5_count_66
  refine y_if (fun h3 => ?_) (fun h3 => ?_)
  · refine y_swIn (tgt := 67) C 66 dX5_count_1 (by rw [h3]; decide) (by rw [h3]; decide) (by rw [h3]; rfl) (by decide) ?_
    refine y_aload_n (n := 68) C dX5_count_67 0 rfl rfl ?_
    refine y_get (ci := 5) (f := 0) (n := 71) C in_X5 hO.1 rfl (by decide) wd_191 rfl rfl dX5_count_68 rfl ?_
    refine y_getN (ci := 3) (f := 0) (n := 74) C in_X3 hO.2.1.1 rfl (by decide) wd_133 rfl rfl dX5_count_71 rfl ?_
    refine y_cp (n := 77) C (fun r hr H locs la hP hS hl => y_runVN (ci := 1) (st := []) C ky_X1_questionSize wd_349 ⟨Nat.le_of_ble_eq_true rfl, Nat.le_of_ble_eq_true rfl⟩ hO.2.1.2.1.1 rfl (mX1_questionSize hO.2.1.2.1 w g.2.1 r hr) rfl (Nat.le_of_ble_eq_true rfl) rfl dX5_count_74 hP hS hl) rfl (fun v4 hv4 => ?_)
    exact y_rp C hR dX5_count_77
  refine y_if (fun h5 => ?_) (fun h5 => ?_)
  · refine y_swIn (tgt := 78) C 77 dX5_count_1 (by rw [h5]; decide) (by rw [h5]; decide) (by rw [h5]; rfl) (by decide) ?_
    refine y_aload_n (n := 79) C dX5_count_78 0 rfl rfl ?_
    refine y_get (ci := 5) (f := 0) (n := 82) C in_X5 hO.1 rfl (by decide) wd_191 rfl rfl dX5_count_79 rfl ?_
    refine y_getN (ci := 3) (f := 0) (n := 85) C in_X3 hO.2.1.1 rfl (by decide) wd_133 rfl rfl dX5_count_82 rfl ?_
    refine y_getN (ci := 1) (f := 6) (n := 88) C in_X1 hO.2.1.2.1.1 rfl (by decide) wd_48 rfl rfl dX5_count_85 rfl ?_
    exact y_rp C hR dX5_count_88
  refine y_if (fun h6 => ?_) (fun h6 => ?_)
  · refine y_swIn (tgt := 89) C 88 dX5_count_1 (by rw [h6]; decide) (by rw [h6]; decide) (by rw [h6]; rfl) (by decide) ?_
    refine y_aload_n (n := 90) C dX5_count_89 0 rfl rfl ?_
    refine y_get (ci := 5) (f := 0) (n := 93) C in_X5 hO.1 rfl (by decide) wd_191 rfl rfl dX5_count_90 rfl ?_
    refine y_getN (ci := 3) (f := 0) (n := 96) C in_X3 hO.2.1.1 rfl (by decide) wd_133 rfl rfl dX5_count_93 rfl ?_
    refine y_getN (ci := 1) (f := 5) (n := 99) C in_X1 hO.2.1.2.1.1 rfl (by decide) wd_46 rfl rfl dX5_count_96 rfl ?_
    refine y_cp (n := 102) C (fun r hr H locs la hP hS hl => y_runS (st := []) C ky_J13_bitCount_95d88 wd_714 ⟨Nat.le_of_ble_eq_true rfl, Nat.le_of_ble_eq_true rfl⟩ (mJ13_bitCount_95d88 w (w.2.1 (o + 1 + 1)) g.2.1 r hr) rfl (Nat.le_of_ble_eq_true rfl) rfl dX5_count_99 hP hS hl) rfl (fun v7 hv7 => ?_)
    exact y_rp C hR dX5_count_102
  refine y_if (fun h8 => ?_) (fun h8 => ?_)
  · refine y_swIn (tgt := 103) C 102 dX5_count_1 (by rw [h8]; decide) (by rw [h8]; decide) (by rw [h8]; rfl) (by decide) ?_
    refine y_aload_n (n := 104) C dX5_count_103 0 rfl rfl ?_
    refine y_get (ci := 5) (f := 0) (n := 107) C in_X5 hO.1 rfl (by decide) wd_191 rfl rfl dX5_count_104 rfl ?_
    refine y_getN (ci := 3) (f := 0) (n := 110) C in_X3 hO.2.1.1 rfl (by decide) wd_133 rfl rfl dX5_count_107 rfl ?_
    refine y_cp (n := 113) C (fun r hr H locs la hP hS hl => y_runVN (ci := 1) (st := []) C ky_X1_wantedSize wd_720 ⟨Nat.le_of_ble_eq_true rfl, Nat.le_of_ble_eq_true rfl⟩ hO.2.1.2.1.1 rfl (mX1_wantedSize hO.2.1.2.1 w g.2.1 r hr) rfl (Nat.le_of_ble_eq_true rfl) rfl dX5_count_110 hP hS hl) rfl (fun v9 hv9 => ?_)
    exact y_rp C hR dX5_count_113
  refine y_if (fun h10 => ?_) (fun h10 => ?_)
  · refine y_swIn (tgt := 114) C 113 dX5_count_1 (by rw [h10]; decide) (by rw [h10]; decide) (by rw [h10]; rfl) (by decide) ?_
    refine y_aload_n (n := 115) C dX5_count_114 0 rfl rfl ?_
    refine y_get (ci := 5) (f := 0) (n := 118) C in_X5 hO.1 rfl (by decide) wd_191 rfl rfl dX5_count_115 rfl ?_
    refine y_getN (ci := 3) (f := 1) (n := 121) C in_X3 hO.2.1.1 rfl (by decide) wd_135 rfl rfl dX5_count_118 rfl ?_
    refine y_getN (ci := 2) (f := 0) (n := 124) C in_X2 hO.2.1.2.2.1 rfl (by decide) wd_73 rfl rfl dX5_count_121 rfl ?_
    refine y_cp (n := 127) C (fun r hr H locs la hP hS hl => y_runS (st := []) C ky_X5_oneIf wd_404 ⟨Nat.le_of_ble_eq_true rfl, Nat.le_of_ble_eq_true rfl⟩ (mX5_oneIf w (bz (w.1 (o + 1 + 7) 0)) g.2.1 r hr) rfl (Nat.le_of_ble_eq_true rfl) rfl dX5_count_124 hP hS hl) rfl (fun v11 hv11 => ?_)
    exact y_rp C hR dX5_count_127
  refine y_if (fun h12 => ?_) (fun h12 => ?_)
  · refine y_swIn (tgt := 128) C 127 dX5_count_1 (by rw [h12]; decide) (by rw [h12]; decide) (by rw [h12]; rfl) (by decide) ?_
    refine y_aload_n (n := 129) C dX5_count_128 0 rfl rfl ?_
    refine y_get (ci := 5) (f := 0) (n := 132) C in_X5 hO.1 rfl (by decide) wd_191 rfl rfl dX5_count_129 rfl ?_
    refine y_getN (ci := 3) (f := 2) (n := 135) C in_X3 hO.2.1.1 rfl (by decide) wd_137 rfl rfl dX5_count_132 rfl ?_
    exact y_rp C hR dX5_count_135
  refine y_if (fun h13 => ?_) (fun h13 => ?_)
  · refine y_swIn (tgt := 136) C 135 dX5_count_1 (by rw [h13]; decide) (by rw [h13]; decide) (by rw [h13]; rfl) (by decide) ?_
    refine y_aload_n (n := 137) C dX5_count_136 0 rfl rfl ?_
    refine y_get (ci := 5) (f := 0) (n := 140) C in_X5 hO.1 rfl (by decide) wd_191 rfl rfl dX5_count_137 rfl ?_
    refine y_getN (ci := 3) (f := 3) (n := 143) C in_X3 hO.2.1.1 rfl (by decide) wd_139 rfl rfl dX5_count_140 rfl ?_
    exact y_rp C hR dX5_count_143
  refine y_if (fun h14 => ?_) (fun h14 => ?_)
  · refine y_swIn (tgt := 144) C 143 dX5_count_1 (by rw [h14]; decide) (by rw [h14]; decide) (by rw [h14]; rfl) (by decide) ?_
    refine y_aload_n (n := 145) C dX5_count_144 0 rfl rfl ?_
    refine y_get (ci := 5) (f := 1) (n := 148) C in_X5 hO.1 rfl (by decide) wd_192 rfl rfl dX5_count_145 rfl ?_
    refine y_getN (ci := 0) (f := 1) (n := 151) C in_X0 hO.2.2.1.1 rfl (by decide) wd_160 rfl rfl dX5_count_148 rfl ?_
    exact y_rp C hR dX5_count_151
  refine y_if (fun h15 => ?_) (fun h15 => ?_)
  · refine y_swIn (tgt := 152) C 151 dX5_count_1 (by rw [h15]; decide) (by rw [h15]; decide) (by rw [h15]; rfl) (by decide) ?_
    refine y_aload_n (n := 153) C dX5_count_152 0 rfl rfl ?_
    refine y_get (ci := 5) (f := 4) (n := 156) C in_X5 hO.1 rfl (by decide) wd_195 rfl rfl dX5_count_153 rfl ?_
    refine y_getN (ci := 4) (f := 1) (n := 159) C in_X4 hO.2.2.2.2.1.1 rfl (by decide) wd_174 rfl rfl dX5_count_156 rfl ?_
    exact y_rp C hR dX5_count_159
  refine y_swOut (tgt := 160) C dX5_count_1 (by have gh1 := sw_ne (k := 0) (by decide) h1; have gh3 := sw_ne (k := 1) (by decide) h3; have gh5 := sw_ne (k := 2) (by decide) h5; have gh6 := sw_ne (k := 3) (by decide) h6; have gh8 := sw_ne (k := 4) (by decide) h8; have gh10 := sw_ne (k := 5) (by decide) h10; have gh12 := sw_ne (k := 6) (by decide) h12; have gh13 := sw_ne (k := 7) (by decide) h13; have gh14 := sw_ne (k := 8) (by decide) h14; have gh15 := sw_ne (k := 9) (by decide) h15; omega) (by decide) ?_
  refine y_bipush (n := 162) C ((-2) : Int32) dX5_count_160 (by decide) rfl ?_
  exact y_rp C hR dX5_count_162
theorem mX5_count {E : Ex} {o : Nat} (hO : shB E.2.2.2.2.2.1 o) (w : Wd) (a1 : Int32) (l : Launch) : MP l yX5_count cX5_count 2 (some .int) { frames := 5, cells := 0, slots := 0, locals := 109 } E [.ref (E.2.2.2.2.1 + o), .int a1] w (fX5_count w o a1) :=
  y_met (Qc := fun r => yQi E (r, w)) (by decide +kernel) (Nat.le_of_ble_eq_true rfl) (fun g C hR => eX5_count C hR hO w a1) l
