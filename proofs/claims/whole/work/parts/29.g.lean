/-! X6_keep X6_knownOf X6_letter X6_list X6_readNumber X6_perform X6_tellLess X6_reading X6_restore -/
def lX6_keep_7 (o : Nat) : Nat → Wd → Int32 → Option (Int32 × Wd)
  | 0, _, _ => none
  | n + 1, w, x1 =>
    if 706 ≤ x1 then
      (fX6_entries w o).bind fun v3 =>
      some (v3, w)
    else
      (ldI 706 w (o + 1) x1).bind fun v4 =>
      (stI 706 w (o + 3) x1 v4).bind fun w5 =>
      lX6_keep_7 o n w5 (x1 + 1)
set_option maxRecDepth 4000 in
theorem clX6_keep_7 {g : Gx} {E : Ex} (C : CC g E cX6_keep 2 RX6 1 22) (hR : RT g (some .int)) {o : Nat} (hO : shM E.2.2.2.2.2.1 o) : ∀ (n : Nat) (w : Wd) (x1 : Int32), YO g E 2 (QI g E) (lX6_keep_7 o n w x1) w 7 [(0, .ref (E.2.2.2.2.1 + o)), (1, .int x1)] [] := by
  intro n
  induction n with
  | zero => intro w x1; exact y_no
  | succ n ih =>
    intro w x1
    rw [lX6_keep_7]
    refine y_iload_n (n := 8) C dX6_keep_7 1 rfl rfl ?_
    refine y_sipush (n := 11) C (706 : Int32) dX6_keep_8 (by decide) rfl ?_
    refine y_icmp_ge (tgt := 32) (n := 14) C dX6_keep_11 (by decide) rfl (fun h2 => ?_) (fun h2 => ?_)
    · refine y_aload_n (n := 33) C dX6_keep_32 0 rfl rfl ?_
      refine y_cp (n := 36) C (fun r hr H locs la hP hS hl => y_runV (ci := 6) (st := []) C ky_X6_entries wd_776 ⟨Nat.le_of_ble_eq_true rfl, Nat.le_of_ble_eq_true rfl⟩ hO.1 rfl (mX6_entries hO w g.2.1 r hr) rfl (Nat.le_of_ble_eq_true rfl) rfl dX6_keep_33 hP hS hl) rfl (fun v3 hv3 => ?_)
      exact y_ri C hR dX6_keep_36
    · refine y_aload_n (n := 15) C dX6_keep_14 0 rfl rfl ?_
      refine y_get (ci := 6) (f := 2) (n := 18) C in_X6 hO.1 rfl (by decide) wd_733 rfl rfl dX6_keep_15 rfl ?_
      refine y_iload_n (n := 19) C dX6_keep_18 1 rfl rfl ?_
      refine y_aload_n (n := 20) C dX6_keep_19 0 rfl rfl ?_
      refine y_get (ci := 6) (f := 0) (n := 23) C in_X6 hO.1 rfl (by decide) wd_731 rfl rfl dX6_keep_20 rfl ?_
      refine y_iload_n (n := 24) C dX6_keep_23 1 rfl rfl ?_
      refine y_iald (n := 25) C hO.2.1 dX6_keep_24 rfl (fun v4 hv4 => ?_)
      refine y_iast (n := 26) C hO.2.2.2.1 dX6_keep_25 rfl (fun w5 hw5 => ?_)
      refine y_iinc (n := 29) (v := x1 + 1) (ls' := [(1, .int (x1 + 1)), (0, .ref (E.2.2.2.2.1 + o))]) C dX6_keep_26 1 rfl rfl (by decide) rfl rfl ?_
      refine y_goto (tgt := 7) C dX6_keep_29 (by decide) ?_
      refine y_ls [1, 0] rfl ?_
      exact ih w5 (x1 + 1)
def fX6_keep (w : Wd) (o : Nat)  : Option (Int32 × Wd) :=
  (stZ w o 6 1).bind fun w1 =>
  lX6_keep_7 o 4096 w1 0
set_option maxRecDepth 4000 in
theorem eX6_keep {g : Gx} {E : Ex} (C : CC g E cX6_keep 2 RX6 1 22) (hR : RT g (some .int)) {o : Nat} (hO : shM E.2.2.2.2.2.1 o) (w : Wd)  : YO g E 2 (QI g E) (fX6_keep w o) w 0 [(0, .ref (E.2.2.2.2.1 + o))] [] := by
  unfold fX6_keep
  refine y_aload_n (n := 1) C dX6_keep_0 0 rfl rfl ?_
  refine y_iconst (n := 2) C (1 : Int32) dX6_keep_1 (by decide) rfl ?_
  refine y_putZ (ci := 6) (f := 6) (n := 5) C in_X6 tyX6 tyX6_ok nmX6 hO.1 rfl (by decide) wd_737 rfl rfl (by decide +kernel) (Nat.le_of_ble_eq_true rfl) st_X6_6 dX6_keep_2 rfl (fun w1 hw1 => ?_)
  refine y_iconst (n := 6) C (0 : Int32) dX6_keep_5 (by decide) rfl ?_
  refine y_istore_n (n := 7) (ls' := [(1, .int 0), (0, .ref (E.2.2.2.2.1 + o))]) C dX6_keep_6 (by decide) rfl rfl ?_
  refine y_ls [1, 0] rfl ?_
  exact clX6_keep_7 C hR hO 4096 w1 0
theorem mX6_keep {E : Ex} {o : Nat} (hO : shM E.2.2.2.2.2.1 o) (w : Wd)  (l : Launch) : MI l yX6_keep cX6_keep 2 (some .int) { frames := 1, cells := 0, slots := 0, locals := 22 } E [.ref (E.2.2.2.2.1 + o)] w (fX6_keep w o) :=
  y_met (Qc := yQi E) (by decide +kernel) (Nat.le_of_ble_eq_true rfl) (fun g C hR => eX6_keep C hR hO w ) l
def lX6_knownOf_4 (o : Nat) : Nat → Wd → Int32 → Int32 → Int32 → Option (Int32)
  | 0, _, _, _, _ => none
  | n + 1, w, x1, x2, x3 =>
    if 6 ≤ x3 then
      some x2
    else
      (fX6_isAsked w o x3).bind fun v2 =>
      if v2 = 0 then
        lX6_knownOf_4 o n w x1 (x2 ||| 0) (x3 + 1)
      else
        (fX6_isKnown w o x3 x1).bind fun v4 =>
        if v4 = 0 then
          lX6_knownOf_4 o n w x1 (x2 ||| 0) (x3 + 1)
        else
          lX6_knownOf_4 o n w x1 (x2 ||| (1 <<< (x3 &&& 31))) (x3 + 1)
set_option maxRecDepth 4000 in
theorem clX6_knownOf_4 {g : Gx} {E : Ex} (C : CC g E cX6_knownOf 4 RX6 2 43) (hR : RT g (some .int)) {o : Nat} (hO : shM E.2.2.2.2.2.1 o) (w : Wd) : ∀ (n : Nat) (x1 : Int32) (x2 : Int32) (x3 : Int32), YO g E 4 (QP g E w) (lX6_knownOf_4 o n w x1 x2 x3) w 4 [(0, .ref (E.2.2.2.2.1 + o)), (1, .int x1), (2, .int x2), (3, .int x3)] [] := by
  intro n
  induction n with
  | zero => intro x1 x2 x3; exact y_no
  | succ n ih =>
    intro x1 x2 x3
    rw [lX6_knownOf_4]
    refine y_iload_n (n := 5) C dX6_knownOf_4 3 rfl rfl ?_
    refine y_bipush (n := 7) C (6 : Int32) dX6_knownOf_5 (by decide) rfl ?_
    refine y_icmp_ge (tgt := 43) (n := 10) C dX6_knownOf_7 (by decide) rfl (fun h1 => ?_) (fun h1 => ?_)
    · refine y_iload_n (n := 44) C dX6_knownOf_43 2 rfl rfl ?_
      exact y_rp C hR dX6_knownOf_44
    · refine y_iload_n (n := 11) C dX6_knownOf_10 2 rfl rfl ?_
      refine y_aload_n (n := 12) C dX6_knownOf_11 0 rfl rfl ?_
      refine y_iload_n (n := 13) C dX6_knownOf_12 3 rfl rfl ?_
      refine y_cp (n := 16) C (fun r hr H locs la hP hS hl => y_runV (ci := 6) (st := [.int x2]) C ky_X6_isAsked wd_889 ⟨Nat.le_of_ble_eq_true rfl, Nat.le_of_ble_eq_true rfl⟩ hO.1 rfl (mX6_isAsked hO w x3 g.2.1 r hr) rfl (Nat.le_of_ble_eq_true rfl) rfl dX6_knownOf_13 hP hS hl) rfl (fun v2 hv2 => ?_)
      refine y_if_eq (tgt := 34) (n := 19) C dX6_knownOf_16 (by decide) rfl (fun h3 => ?_) (fun h3 => ?_)
      · refine y_iconst (n := 35) C (0 : Int32) dX6_knownOf_34 (by decide) rfl ?_
        refine y_ior (n := 36) C dX6_knownOf_35 rfl ?_
        refine y_istore_n (n := 37) (ls' := [(2, .int (x2 ||| 0)), (0, .ref (E.2.2.2.2.1 + o)), (1, .int x1), (3, .int x3)]) C dX6_knownOf_36 (by decide) rfl rfl ?_
        refine y_iinc (n := 40) (v := x3 + 1) (ls' := [(3, .int (x3 + 1)), (2, .int (x2 ||| 0)), (0, .ref (E.2.2.2.2.1 + o)), (1, .int x1)]) C dX6_knownOf_37 3 rfl rfl (by decide) rfl rfl ?_
        refine y_goto (tgt := 4) C dX6_knownOf_40 (by decide) ?_
        refine y_ls [2, 3, 1, 0] rfl ?_
        exact ih x1 (x2 ||| 0) (x3 + 1)
      · refine y_aload_n (n := 20) C dX6_knownOf_19 0 rfl rfl ?_
        refine y_iload_n (n := 21) C dX6_knownOf_20 3 rfl rfl ?_
        refine y_iload_n (n := 22) C dX6_knownOf_21 1 rfl rfl ?_
        refine y_cp (n := 25) C (fun r hr H locs la hP hS hl => y_runV (ci := 6) (st := [.int x2]) C ky_X6_isKnown wd_925 ⟨Nat.le_of_ble_eq_true rfl, Nat.le_of_ble_eq_true rfl⟩ hO.1 rfl (mX6_isKnown hO w x3 x1 g.2.1 r hr) rfl (Nat.le_of_ble_eq_true rfl) rfl dX6_knownOf_22 hP hS hl) rfl (fun v4 hv4 => ?_)
        refine y_if_eq (tgt := 34) (n := 28) C dX6_knownOf_25 (by decide) rfl (fun h5 => ?_) (fun h5 => ?_)
        · refine y_iconst (n := 35) C (0 : Int32) dX6_knownOf_34 (by decide) rfl ?_
          refine y_ior (n := 36) C dX6_knownOf_35 rfl ?_
          refine y_istore_n (n := 37) (ls' := [(2, .int (x2 ||| 0)), (0, .ref (E.2.2.2.2.1 + o)), (1, .int x1), (3, .int x3)]) C dX6_knownOf_36 (by decide) rfl rfl ?_
          refine y_iinc (n := 40) (v := x3 + 1) (ls' := [(3, .int (x3 + 1)), (2, .int (x2 ||| 0)), (0, .ref (E.2.2.2.2.1 + o)), (1, .int x1)]) C dX6_knownOf_37 3 rfl rfl (by decide) rfl rfl ?_
          refine y_goto (tgt := 4) C dX6_knownOf_40 (by decide) ?_
          refine y_ls [2, 3, 1, 0] rfl ?_
          exact ih x1 (x2 ||| 0) (x3 + 1)
        · refine y_iconst (n := 29) C (1 : Int32) dX6_knownOf_28 (by decide) rfl ?_
          refine y_iload_n (n := 30) C dX6_knownOf_29 3 rfl rfl ?_
          refine y_ishl (n := 31) C dX6_knownOf_30 rfl ?_
          refine y_goto (tgt := 35) C dX6_knownOf_31 (by decide) ?_
          refine y_ior (n := 36) C dX6_knownOf_35 rfl ?_
          refine y_istore_n (n := 37) (ls' := [(2, .int (x2 ||| (1 <<< (x3 &&& 31)))), (0, .ref (E.2.2.2.2.1 + o)), (1, .int x1), (3, .int x3)]) C dX6_knownOf_36 (by decide) rfl rfl ?_
          refine y_iinc (n := 40) (v := x3 + 1) (ls' := [(3, .int (x3 + 1)), (2, .int (x2 ||| (1 <<< (x3 &&& 31)))), (0, .ref (E.2.2.2.2.1 + o)), (1, .int x1)]) C dX6_knownOf_37 3 rfl rfl (by decide) rfl rfl ?_
          refine y_goto (tgt := 4) C dX6_knownOf_40 (by decide) ?_
          refine y_ls [2, 3, 1, 0] rfl ?_
          exact ih x1 (x2 ||| (1 <<< (x3 &&& 31))) (x3 + 1)
def fX6_knownOf (w : Wd) (o : Nat) (a1 : Int32) : Option (Int32) :=
  lX6_knownOf_4 o 4096 w a1 0 0
set_option maxRecDepth 4000 in
theorem eX6_knownOf {g : Gx} {E : Ex} (C : CC g E cX6_knownOf 4 RX6 2 43) (hR : RT g (some .int)) {o : Nat} (hO : shM E.2.2.2.2.2.1 o) (w : Wd) (a1 : Int32) : YO g E 4 (QP g E w) (fX6_knownOf w o a1) w 0 [(0, .ref (E.2.2.2.2.1 + o)), (1, .int a1)] [] := by
  unfold fX6_knownOf
  refine y_iconst (n := 1) C (0 : Int32) dX6_knownOf_0 (by decide) rfl ?_
  refine y_istore_n (n := 2) (ls' := [(2, .int 0), (0, .ref (E.2.2.2.2.1 + o)), (1, .int a1)]) C dX6_knownOf_1 (by decide) rfl rfl ?_
  refine y_iconst (n := 3) C (0 : Int32) dX6_knownOf_2 (by decide) rfl ?_
  refine y_istore_n (n := 4) (ls' := [(3, .int 0), (2, .int 0), (0, .ref (E.2.2.2.2.1 + o)), (1, .int a1)]) C dX6_knownOf_3 (by decide) rfl rfl ?_
  refine y_ls [2, 3, 1, 0] rfl ?_
  exact clX6_knownOf_4 C hR hO w 4096 a1 0 0
theorem mX6_knownOf {E : Ex} {o : Nat} (hO : shM E.2.2.2.2.2.1 o) (w : Wd) (a1 : Int32) (l : Launch) : MP l yX6_knownOf cX6_knownOf 4 (some .int) { frames := 2, cells := 0, slots := 0, locals := 43 } E [.ref (E.2.2.2.2.1 + o), .int a1] w (fX6_knownOf w o a1) :=
  y_met (Qc := fun r => yQi E (r, w)) (by decide +kernel) (Nat.le_of_ble_eq_true rfl) (fun g C hR => eX6_knownOf C hR hO w a1) l
def fX6_letter (w : Wd) (o : Nat) (a1 : Int32) : Option (Int32) :=
  if (w.1 o 8) ≤ a1 then
    some (-1)
  else
    (ldI 40 w (o + 6) a1).bind fun v2 =>
    some v2
set_option maxRecDepth 4000 in
theorem eX6_letter {g : Gx} {E : Ex} (C : CC g E cX6_letter 2 RX6 0 0) (hR : RT g (some .int)) {o : Nat} (hO : shM E.2.2.2.2.2.1 o) (w : Wd) (a1 : Int32) : YO g E 2 (QP g E w) (fX6_letter w o a1) w 0 [(0, .ref (E.2.2.2.2.1 + o)), (1, .int a1)] [] := by
  unfold fX6_letter
  refine y_iload_n (n := 1) C dX6_letter_0 1 rfl rfl ?_
  refine y_aload_n (n := 2) C dX6_letter_1 0 rfl rfl ?_
  refine y_get (ci := 6) (f := 8) (n := 5) C in_X6 hO.1 rfl (by decide) wd_739 rfl rfl dX6_letter_2 rfl ?_
  refine y_icmp_ge (tgt := 17) (n := 8) C dX6_letter_5 (by decide) rfl (fun h1 => ?_) (fun h1 => ?_)
  · refine y_iconst (n := 18) C ((-1) : Int32) dX6_letter_17 (by decide) rfl ?_
    exact y_rp C hR dX6_letter_18
  · refine y_aload_n (n := 9) C dX6_letter_8 0 rfl rfl ?_
    refine y_get (ci := 6) (f := 7) (n := 12) C in_X6 hO.1 rfl (by decide) wd_738 rfl rfl dX6_letter_9 rfl ?_
    refine y_iload_n (n := 13) C dX6_letter_12 1 rfl rfl ?_
    refine y_cald (n := 14) C hO.2.2.2.2.2.2.1 dX6_letter_13 rfl (fun v2 hv2 => ?_)
    refine y_goto (tgt := 18) C dX6_letter_14 (by decide) ?_
    exact y_rp C hR dX6_letter_18
theorem mX6_letter {E : Ex} {o : Nat} (hO : shM E.2.2.2.2.2.1 o) (w : Wd) (a1 : Int32) (l : Launch) : MP l yX6_letter cX6_letter 2 (some .int) { frames := 0, cells := 0, slots := 0, locals := 0 } E [.ref (E.2.2.2.2.1 + o), .int a1] w (fX6_letter w o a1) :=
  y_met (Qc := fun r => yQi E (r, w)) (by decide +kernel) (Nat.le_of_ble_eq_true rfl) (fun g C hR => eX6_letter C hR hO w a1) l
def lX6_list_99 (o : Nat) : Nat → Wd → Int32 → Int32 → Int32 → Option (Int32)
  | 0, _, _, _, _ => none
  | n + 1, w, x1, x3, x4 =>
    (ldI 706 w (o + 1) (480 + x1)).bind fun v7 =>
    if v7 ≤ x4 then
      some x3
    else
      (ldI 706 w (o + 1) ((0 + (40 * x1)) + x4)).bind fun v9 =>
      (ldI 706 w (o + 1) (498 + v9)).bind fun v10 =>
      lX6_list_99 o n w x1 (x3 + v10) (x4 + 1)
set_option maxRecDepth 4000 in
theorem clX6_list_99 {g : Gx} {E : Ex} (C : CC g E cX6_list 5 RX6 1 20) (hR : RT g (some .int)) {o : Nat} (hO : shM E.2.2.2.2.2.1 o) (w : Wd) : ∀ (n : Nat) (x1 : Int32) (x3 : Int32) (x4 : Int32), YO g E 5 (QP g E w) (lX6_list_99 o n w x1 x3 x4) w 99 [(0, .ref (E.2.2.2.2.1 + o)), (1, .int x1), (3, .int x3), (4, .int x4)] [] := by
  intro n
  induction n with
  | zero => intro x1 x3 x4; exact y_no
  | succ n ih =>
    intro x1 x3 x4
    rw [lX6_list_99]
    refine y_iload (n := 101) C dX6_list_99 3 rfl rfl ?_
    refine y_aload_n (n := 102) C dX6_list_101 0 rfl rfl ?_
    refine y_get (ci := 6) (f := 0) (n := 105) C in_X6 hO.1 rfl (by decide) wd_731 rfl rfl dX6_list_102 rfl ?_
    refine y_sipush (n := 108) C (480 : Int32) dX6_list_105 (by decide) rfl ?_
    refine y_iload_n (n := 109) C dX6_list_108 1 rfl rfl ?_
    refine y_iadd (n := 110) C dX6_list_109 rfl ?_
    refine y_iald (n := 111) C hO.2.1 dX6_list_110 rfl (fun v7 hv7 => ?_)
    refine y_icmp_ge (tgt := 146) (n := 114) C dX6_list_111 (by decide) rfl (fun h8 => ?_) (fun h8 => ?_)
    · refine y_iload_n (n := 147) C dX6_list_146 2 rfl rfl ?_
      exact y_rp C hR dX6_list_147
    · refine y_iload_n (n := 115) C dX6_list_114 2 rfl rfl ?_
      refine y_aload_n (n := 116) C dX6_list_115 0 rfl rfl ?_
      refine y_get (ci := 6) (f := 0) (n := 119) C in_X6 hO.1 rfl (by decide) wd_731 rfl rfl dX6_list_116 rfl ?_
      refine y_sipush (n := 122) C (498 : Int32) dX6_list_119 (by decide) rfl ?_
      refine y_aload_n (n := 123) C dX6_list_122 0 rfl rfl ?_
      refine y_get (ci := 6) (f := 0) (n := 126) C in_X6 hO.1 rfl (by decide) wd_731 rfl rfl dX6_list_123 rfl ?_
      refine y_iconst (n := 127) C (0 : Int32) dX6_list_126 (by decide) rfl ?_
      refine y_bipush (n := 129) C (40 : Int32) dX6_list_127 (by decide) rfl ?_
      refine y_iload_n (n := 130) C dX6_list_129 1 rfl rfl ?_
      refine y_imul (n := 131) C dX6_list_130 rfl ?_
      refine y_iadd (n := 132) C dX6_list_131 rfl ?_
      refine y_iload (n := 134) C dX6_list_132 3 rfl rfl ?_
      refine y_iadd (n := 135) C dX6_list_134 rfl ?_
      refine y_iald (n := 136) C hO.2.1 dX6_list_135 rfl (fun v9 hv9 => ?_)
      refine y_iadd (n := 137) C dX6_list_136 rfl ?_
      refine y_iald (n := 138) C hO.2.1 dX6_list_137 rfl (fun v10 hv10 => ?_)
      refine y_iadd (n := 139) C dX6_list_138 rfl ?_
      refine y_istore_n (n := 140) (ls' := [(3, .int (x3 + v10)), (0, .ref (E.2.2.2.2.1 + o)), (1, .int x1), (4, .int x4)]) C dX6_list_139 (by decide) rfl rfl ?_
      refine y_iinc (n := 143) (v := x4 + 1) (ls' := [(4, .int (x4 + 1)), (3, .int (x3 + v10)), (0, .ref (E.2.2.2.2.1 + o)), (1, .int x1)]) C dX6_list_140 3 rfl rfl (by decide) rfl rfl ?_
      refine y_goto (tgt := 99) C dX6_list_143 (by decide) ?_
      refine y_ls [2, 3, 1, 0] rfl ?_
      exact ih x1 (x3 + v10) (x4 + 1)
def fX6_list (w : Wd) (o : Nat) (a1 : Int32) (a2 : Int32) : Option (Int32) :=
  (fX6_isList w a1).bind fun v1 =>
  if v1 = 0 then
    some (-1)
  else
    if a2 < 0 then
      some (-2)
    else
      if a2 ≤ 4 then
        if 3 ≤ a2 then
          if a2 = 3 then
            (ldI 706 w (o + 1) (480 + a1)).bind fun v11 =>
            if v11 = 0 then
              some 0
            else
              (ldI 706 w (o + 1) (240 + (40 * a1))).bind fun v13 =>
              some v13
          else
            lX6_list_99 o 4096 w a1 0 0
        else
          if a2 = 0 then
            (ldI 706 w (o + 1) (480 + a1)).bind fun v18 =>
            some v18
          else
            if a2 = 1 then
              (ldI 706 w (o + 1) (486 + a1)).bind fun v17 =>
              some v17
            else
              (ldI 706 w (o + 1) (492 + a1)).bind fun v16 =>
              some v16
      else
        some (-2)
set_option maxRecDepth 4000 in
theorem eX6_list {g : Gx} {E : Ex} (C : CC g E cX6_list 5 RX6 1 20) (hR : RT g (some .int)) {o : Nat} (hO : shM E.2.2.2.2.2.1 o) (w : Wd) (a1 : Int32) (a2 : Int32) : YO g E 5 (QP g E w) (fX6_list w o a1 a2) w 0 [(0, .ref (E.2.2.2.2.1 + o)), (1, .int a1), (2, .int a2)] [] := by
  unfold fX6_list
  refine y_iload_n (n := 1) C dX6_list_0 1 rfl rfl ?_
  refine y_cp (n := 4) C (fun r hr H locs la hP hS hl => y_runS (st := []) C ky_X6_isList wd_792 ⟨Nat.le_of_ble_eq_true rfl, Nat.le_of_ble_eq_true rfl⟩ (mX6_isList w a1 g.2.1 r hr) rfl (Nat.le_of_ble_eq_true rfl) rfl dX6_list_1 hP hS hl) rfl (fun v1 hv1 => ?_)
  refine y_if_ne (tgt := 9) (n := 7) C dX6_list_4 (by decide) rfl (fun h2 => ?_) (fun h2 => ?_)
  · refine y_iload_n (n := 10) C dX6_list_9 2 rfl rfl ?_
    refine y_if_lt (tgt := 18) (n := 13) C dX6_list_10 (by decide) rfl (fun h3 => ?_) (fun h3 => ?_)
    · refine y_bipush (n := 20) C ((-2) : Int32) dX6_list_18 (by decide) rfl ?_
      exact y_rp C hR dX6_list_20
    · refine y_iload_n (n := 14) C dX6_list_13 2 rfl rfl ?_
      refine y_iconst (n := 15) C (4 : Int32) dX6_list_14 (by decide) rfl ?_
      refine y_icmp_le (tgt := 21) (n := 18) C dX6_list_15 (by decide) rfl (fun h4 => ?_) (fun h4 => ?_)
      · refine y_iload_n (n := 22) C dX6_list_21 2 rfl rfl ?_
        refine y_iconst (n := 23) C (3 : Int32) dX6_list_22 (by decide) rfl ?_
        refine y_icmp_ge (tgt := 58) (n := 26) C dX6_list_23 (by decide) rfl (fun h5 => ?_) (fun h5 => ?_)
        · refine y_iload_n (n := 59) C dX6_list_58 2 rfl rfl ?_
          refine y_iconst (n := 60) C (3 : Int32) dX6_list_59 (by decide) rfl ?_
          refine y_icmp_ne (tgt := 94) (n := 63) C dX6_list_60 (by decide) rfl (fun h6 => ?_) (fun h6 => ?_)
          · refine y_iconst (n := 95) C (0 : Int32) dX6_list_94 (by decide) rfl ?_
            refine y_istore_n (n := 96) (ls' := [(3, .int 0), (0, .ref (E.2.2.2.2.1 + o)), (1, .int a1), (2, .int a2)]) C dX6_list_95 (by decide) rfl rfl ?_
            refine y_iconst (n := 97) C (0 : Int32) dX6_list_96 (by decide) rfl ?_
            refine y_istore (n := 99) (ls' := [(4, .int 0), (3, .int 0), (0, .ref (E.2.2.2.2.1 + o)), (1, .int a1), (2, .int a2)]) C dX6_list_97 (by decide) rfl rfl ?_
            refine y_ls [2, 3, 1, 0] rfl ?_
            exact clX6_list_99 C hR hO w 4096 a1 0 0
          · refine y_aload_n (n := 64) C dX6_list_63 0 rfl rfl ?_
            refine y_get (ci := 6) (f := 0) (n := 67) C in_X6 hO.1 rfl (by decide) wd_731 rfl rfl dX6_list_64 rfl ?_
            refine y_sipush (n := 70) C (480 : Int32) dX6_list_67 (by decide) rfl ?_
            refine y_iload_n (n := 71) C dX6_list_70 1 rfl rfl ?_
            refine y_iadd (n := 72) C dX6_list_71 rfl ?_
            refine y_iald (n := 73) C hO.2.1 dX6_list_72 rfl (fun v11 hv11 => ?_)
            refine y_if_ne (tgt := 80) (n := 76) C dX6_list_73 (by decide) rfl (fun h12 => ?_) (fun h12 => ?_)
            · refine y_aload_n (n := 81) C dX6_list_80 0 rfl rfl ?_
              refine y_get (ci := 6) (f := 0) (n := 84) C in_X6 hO.1 rfl (by decide) wd_731 rfl rfl dX6_list_81 rfl ?_
              refine y_sipush (n := 87) C (240 : Int32) dX6_list_84 (by decide) rfl ?_
              refine y_bipush (n := 89) C (40 : Int32) dX6_list_87 (by decide) rfl ?_
              refine y_iload_n (n := 90) C dX6_list_89 1 rfl rfl ?_
              refine y_imul (n := 91) C dX6_list_90 rfl ?_
              refine y_iadd (n := 92) C dX6_list_91 rfl ?_
              refine y_iald (n := 93) C hO.2.1 dX6_list_92 rfl (fun v13 hv13 => ?_)
              exact y_rp C hR dX6_list_93
            · refine y_iconst (n := 77) C (0 : Int32) dX6_list_76 (by decide) rfl ?_
              refine y_goto (tgt := 93) C dX6_list_77 (by decide) ?_
              exact y_rp C hR dX6_list_93
        · refine y_aload_n (n := 27) C dX6_list_26 0 rfl rfl ?_
          refine y_get (ci := 6) (f := 0) (n := 30) C in_X6 hO.1 rfl (by decide) wd_731 rfl rfl dX6_list_27 rfl ?_
          refine y_iload_n (n := 31) C dX6_list_30 2 rfl rfl ?_
          refine y_if_ne (tgt := 40) (n := 34) C dX6_list_31 (by decide) rfl (fun h14 => ?_) (fun h14 => ?_)
          · refine y_iload_n (n := 41) C dX6_list_40 2 rfl rfl ?_
            refine y_iconst (n := 42) C (1 : Int32) dX6_list_41 (by decide) rfl ?_
            refine y_icmp_ne (tgt := 51) (n := 45) C dX6_list_42 (by decide) rfl (fun h15 => ?_) (fun h15 => ?_)
            · refine y_sipush (n := 54) C (492 : Int32) dX6_list_51 (by decide) rfl ?_
              refine y_iload_n (n := 55) C dX6_list_54 1 rfl rfl ?_
              refine y_iadd (n := 56) C dX6_list_55 rfl ?_
              refine y_iald (n := 57) C hO.2.1 dX6_list_56 rfl (fun v16 hv16 => ?_)
              exact y_rp C hR dX6_list_57
            · refine y_sipush (n := 48) C (486 : Int32) dX6_list_45 (by decide) rfl ?_
              refine y_goto (tgt := 54) C dX6_list_48 (by decide) ?_
              refine y_iload_n (n := 55) C dX6_list_54 1 rfl rfl ?_
              refine y_iadd (n := 56) C dX6_list_55 rfl ?_
              refine y_iald (n := 57) C hO.2.1 dX6_list_56 rfl (fun v17 hv17 => ?_)
              exact y_rp C hR dX6_list_57
          · refine y_sipush (n := 37) C (480 : Int32) dX6_list_34 (by decide) rfl ?_
            refine y_goto (tgt := 54) C dX6_list_37 (by decide) ?_
            refine y_iload_n (n := 55) C dX6_list_54 1 rfl rfl ?_
            refine y_iadd (n := 56) C dX6_list_55 rfl ?_
            refine y_iald (n := 57) C hO.2.1 dX6_list_56 rfl (fun v18 hv18 => ?_)
            exact y_rp C hR dX6_list_57
      · refine y_bipush (n := 20) C ((-2) : Int32) dX6_list_18 (by decide) rfl ?_
        exact y_rp C hR dX6_list_20
  · refine y_iconst (n := 8) C ((-1) : Int32) dX6_list_7 (by decide) rfl ?_
    exact y_rp C hR dX6_list_8
theorem mX6_list {E : Ex} {o : Nat} (hO : shM E.2.2.2.2.2.1 o) (w : Wd) (a1 : Int32) (a2 : Int32) (l : Launch) : MP l yX6_list cX6_list 5 (some .int) { frames := 1, cells := 0, slots := 0, locals := 20 } E [.ref (E.2.2.2.2.1 + o), .int a1, .int a2] w (fX6_list w o a1 a2) :=
  y_met (Qc := fun r => yQi E (r, w)) (by decide +kernel) (Nat.le_of_ble_eq_true rfl) (fun g C hR => eX6_list C hR hO w a1 a2) l
def lX6_readNumber_78 (o : Nat) : Nat → Wd → Int32 → Int32 → Int32 → Int32 → Option (Wd)
  | 0, _, _, _, _, _ => none
  | n + 1, w, x1, x2, x3, x4 =>
    if x4 = 0 then
      (stI 3 w (o + 7) x1 x2).bind fun w12 =>
      some w12
    else
      if 3 ≤ x3 then
        (stI 3 w (o + 7) x1 x2).bind fun w14 =>
        some w14
      else
        (fX6_letter w o (w.1 o 9)).bind fun v15 =>
        (pI w o 9 ((w.1 o 9) + 1)).bind fun w16 =>
        if (((10 * x2) + v15) - 48) ≤ 0 then
          lX6_readNumber_78 o n w16 x1 (((10 * x2) + v15) - 48) (x3 + 1) 0
        else
          (fX6_letter w16 o (w16.1 o 9)).bind fun v18 =>
          (fX6_isDigit w16 v18).bind fun v19 =>
          if v19 = 0 then
            lX6_readNumber_78 o n w16 x1 (((10 * x2) + v15) - 48) (x3 + 1) 0
          else
            lX6_readNumber_78 o n w16 x1 (((10 * x2) + v15) - 48) (x3 + 1) 1
set_option maxRecDepth 4000 in
theorem clX6_readNumber_78 {g : Gx} {E : Ex} (C : CC g E cX6_readNumber 5 RX6 1 21) (hR : RT g none) {o : Nat} (hO : shM E.2.2.2.2.2.1 o) : ∀ (n : Nat) (w : Wd) (x1 : Int32) (x2 : Int32) (x3 : Int32) (x4 : Int32), YO g E 5 (QV g E) (lX6_readNumber_78 o n w x1 x2 x3 x4) w 78 [(0, .ref (E.2.2.2.2.1 + o)), (1, .int x1), (2, .int x2), (3, .int x3), (4, .int x4)] [] := by
  intro n
  induction n with
  | zero => intro w x1 x2 x3 x4; exact y_no
  | succ n ih =>
    intro w x1 x2 x3 x4
    rw [lX6_readNumber_78]
    refine y_iload (n := 80) C dX6_readNumber_78 4 rfl rfl ?_
    refine y_if_eq (tgt := 146) (n := 83) C dX6_readNumber_80 (by decide) rfl (fun h11 => ?_) (fun h11 => ?_)
    · refine y_aload_n (n := 147) C dX6_readNumber_146 0 rfl rfl ?_
      refine y_get (ci := 6) (f := 11) (n := 150) C in_X6 hO.1 rfl (by decide) wd_742 rfl rfl dX6_readNumber_147 rfl ?_
      refine y_iload_n (n := 151) C dX6_readNumber_150 1 rfl rfl ?_
      refine y_iload_n (n := 152) C dX6_readNumber_151 2 rfl rfl ?_
      refine y_iast (n := 153) C hO.2.2.2.2.2.2.2 dX6_readNumber_152 rfl (fun w12 hw12 => ?_)
      exact y_rv C hR dX6_readNumber_153
    · refine y_iload_n (n := 84) C dX6_readNumber_83 3 rfl rfl ?_
      refine y_iconst (n := 85) C (3 : Int32) dX6_readNumber_84 (by decide) rfl ?_
      refine y_icmp_ge (tgt := 146) (n := 88) C dX6_readNumber_85 (by decide) rfl (fun h13 => ?_) (fun h13 => ?_)
      · refine y_aload_n (n := 147) C dX6_readNumber_146 0 rfl rfl ?_
        refine y_get (ci := 6) (f := 11) (n := 150) C in_X6 hO.1 rfl (by decide) wd_742 rfl rfl dX6_readNumber_147 rfl ?_
        refine y_iload_n (n := 151) C dX6_readNumber_150 1 rfl rfl ?_
        refine y_iload_n (n := 152) C dX6_readNumber_151 2 rfl rfl ?_
        refine y_iast (n := 153) C hO.2.2.2.2.2.2.2 dX6_readNumber_152 rfl (fun w14 hw14 => ?_)
        exact y_rv C hR dX6_readNumber_153
      · refine y_bipush (n := 90) C (10 : Int32) dX6_readNumber_88 (by decide) rfl ?_
        refine y_iload_n (n := 91) C dX6_readNumber_90 2 rfl rfl ?_
        refine y_imul (n := 92) C dX6_readNumber_91 rfl ?_
        refine y_aload_n (n := 93) C dX6_readNumber_92 0 rfl rfl ?_
        refine y_aload_n (n := 94) C dX6_readNumber_93 0 rfl rfl ?_
        refine y_get (ci := 6) (f := 9) (n := 97) C in_X6 hO.1 rfl (by decide) wd_740 rfl rfl dX6_readNumber_94 rfl ?_
        refine y_cp (n := 100) C (fun r hr H locs la hP hS hl => y_runV (ci := 6) (st := [.int (10 * x2)]) C ky_X6_letter wd_1064 ⟨Nat.le_of_ble_eq_true rfl, Nat.le_of_ble_eq_true rfl⟩ hO.1 rfl (mX6_letter hO w (w.1 o 9) g.2.1 r hr) rfl (Nat.le_of_ble_eq_true rfl) rfl dX6_readNumber_97 hP hS hl) rfl (fun v15 hv15 => ?_)
        refine y_iadd (n := 101) C dX6_readNumber_100 rfl ?_
        refine y_bipush (n := 103) C (48 : Int32) dX6_readNumber_101 (by decide) rfl ?_
        refine y_isub (n := 104) C dX6_readNumber_103 rfl ?_
        refine y_istore_n (n := 105) (ls' := [(2, .int (((10 * x2) + v15) - 48)), (0, .ref (E.2.2.2.2.1 + o)), (1, .int x1), (3, .int x3), (4, .int x4)]) C dX6_readNumber_104 (by decide) rfl rfl ?_
        refine y_aload_n (n := 106) C dX6_readNumber_105 1 rfl rfl ?_
        refine y_dup (n := 107) C dX6_readNumber_106 rfl rfl ?_
        refine y_get (ci := 6) (f := 9) (n := 110) C in_X6 hO.1 rfl (by decide) wd_740 rfl rfl dX6_readNumber_107 rfl ?_
        refine y_iconst (n := 111) C (1 : Int32) dX6_readNumber_110 (by decide) rfl ?_
        refine y_iadd (n := 112) C dX6_readNumber_111 rfl ?_
        refine y_putI (ci := 6) (f := 9) (n := 115) C in_X6 tyX6 tyX6_ok nmX6 hO.1 rfl (by decide) wd_740 rfl rfl (by decide +kernel) (Nat.le_of_ble_eq_true rfl) st_X6_9 dX6_readNumber_112 rfl (fun w16 hw16 => ?_)
        refine y_iinc (n := 118) (v := x3 + 1) (ls' := [(3, .int (x3 + 1)), (2, .int (((10 * x2) + v15) - 48)), (0, .ref (E.2.2.2.2.1 + o)), (1, .int x1), (4, .int x4)]) C dX6_readNumber_115 3 rfl rfl (by decide) rfl rfl ?_
        refine y_iload_n (n := 119) C dX6_readNumber_118 1 rfl rfl ?_
        refine y_if_le (tgt := 140) (n := 122) C dX6_readNumber_119 (by decide) rfl (fun h17 => ?_) (fun h17 => ?_)
        · refine y_iconst (n := 141) C (0 : Int32) dX6_readNumber_140 (by decide) rfl ?_
          refine y_istore (n := 143) (ls' := [(4, .int 0), (3, .int (x3 + 1)), (2, .int (((10 * x2) + v15) - 48)), (0, .ref (E.2.2.2.2.1 + o)), (1, .int x1)]) C dX6_readNumber_141 (by decide) rfl rfl ?_
          refine y_goto (tgt := 78) C dX6_readNumber_143 (by decide) ?_
          refine y_ls [3, 4, 2, 1, 0] rfl ?_
          exact ih w16 x1 (((10 * x2) + v15) - 48) (x3 + 1) 0
        · refine y_aload_n (n := 123) C dX6_readNumber_122 2 rfl rfl ?_
          refine y_aload_n (n := 124) C dX6_readNumber_123 2 rfl rfl ?_
          refine y_get (ci := 6) (f := 9) (n := 127) C in_X6 hO.1 rfl (by decide) wd_740 rfl rfl dX6_readNumber_124 rfl ?_
          refine y_cp (n := 130) C (fun r hr H locs la hP hS hl => y_runV (ci := 6) (st := []) C ky_X6_letter wd_1064 ⟨Nat.le_of_ble_eq_true rfl, Nat.le_of_ble_eq_true rfl⟩ hO.1 rfl (mX6_letter hO w16 (w16.1 o 9) g.2.1 r hr) rfl (Nat.le_of_ble_eq_true rfl) rfl dX6_readNumber_127 hP hS hl) rfl (fun v18 hv18 => ?_)
          refine y_cp (n := 133) C (fun r hr H locs la hP hS hl => y_runS (st := []) C ky_X6_isDigit wd_1068 ⟨Nat.le_of_ble_eq_true rfl, Nat.le_of_ble_eq_true rfl⟩ (mX6_isDigit w16 v18 g.2.1 r hr) rfl (Nat.le_of_ble_eq_true rfl) rfl dX6_readNumber_130 hP hS hl) rfl (fun v19 hv19 => ?_)
          refine y_if_eq (tgt := 140) (n := 136) C dX6_readNumber_133 (by decide) rfl (fun h20 => ?_) (fun h20 => ?_)
          · refine y_iconst (n := 141) C (0 : Int32) dX6_readNumber_140 (by decide) rfl ?_
            refine y_istore (n := 143) (ls' := [(4, .int 0), (3, .int (x3 + 1)), (2, .int (((10 * x2) + v15) - 48)), (0, .ref (E.2.2.2.2.1 + o)), (1, .int x1)]) C dX6_readNumber_141 (by decide) rfl rfl ?_
            refine y_goto (tgt := 78) C dX6_readNumber_143 (by decide) ?_
            refine y_ls [3, 4, 2, 1, 0] rfl ?_
            exact ih w16 x1 (((10 * x2) + v15) - 48) (x3 + 1) 0
          · refine y_iconst (n := 137) C (1 : Int32) dX6_readNumber_136 (by decide) rfl ?_
            refine y_goto (tgt := 141) C dX6_readNumber_137 (by decide) ?_
            refine y_istore (n := 143) (ls' := [(4, .int 1), (3, .int (x3 + 1)), (2, .int (((10 * x2) + v15) - 48)), (0, .ref (E.2.2.2.2.1 + o)), (1, .int x1)]) C dX6_readNumber_141 (by decide) rfl rfl ?_
            refine y_goto (tgt := 78) C dX6_readNumber_143 (by decide) ?_
            refine y_ls [3, 4, 2, 1, 0] rfl ?_
            exact ih w16 x1 (((10 * x2) + v15) - 48) (x3 + 1) 1
def fX6_readNumber (w : Wd) (o : Nat) (a1 : Int32) : Option (Wd) :=
  (fX6_letter w o (w.1 o 9)).bind fun v1 =>
  if v1 = 32 then
    (stZ w o 10 0).bind fun w3 =>
    if (bz (w3.1 o 10)) = 0 then
      (pI w3 o 9 ((w3.1 o 9) + 1)).bind fun w5 =>
      (fX6_letter w5 o (w5.1 o 9)).bind fun v6 =>
      (fX6_isDigit w5 v6).bind fun v7 =>
      if v7 = 0 then
        (stZ w5 o 10 1).bind fun w21 =>
        if (bz (w21.1 o 10)) = 0 then
          lX6_readNumber_78 o 4096 w21 a1 0 0 1
        else
          some w21
      else
        (stZ w5 o 10 0).bind fun w9 =>
        if (bz (w9.1 o 10)) = 0 then
          lX6_readNumber_78 o 4096 w9 a1 0 0 1
        else
          some w9
    else
      some w3
  else
    (stZ w o 10 1).bind fun w23 =>
    if (bz (w23.1 o 10)) = 0 then
      (pI w23 o 9 ((w23.1 o 9) + 1)).bind fun w25 =>
      (fX6_letter w25 o (w25.1 o 9)).bind fun v26 =>
      (fX6_isDigit w25 v26).bind fun v27 =>
      if v27 = 0 then
        (stZ w25 o 10 1).bind fun w31 =>
        if (bz (w31.1 o 10)) = 0 then
          lX6_readNumber_78 o 4096 w31 a1 0 0 1
        else
          some w31
      else
        (stZ w25 o 10 0).bind fun w29 =>
        if (bz (w29.1 o 10)) = 0 then
          lX6_readNumber_78 o 4096 w29 a1 0 0 1
        else
          some w29
    else
      some w23
set_option maxRecDepth 4000 in
theorem eX6_readNumber {g : Gx} {E : Ex} (C : CC g E cX6_readNumber 5 RX6 1 21) (hR : RT g none) {o : Nat} (hO : shM E.2.2.2.2.2.1 o) (w : Wd) (a1 : Int32) : YO g E 5 (QV g E) (fX6_readNumber w o a1) w 0 [(0, .ref (E.2.2.2.2.1 + o)), (1, .int a1)] [] := by
  unfold fX6_readNumber
  refine y_aload_n (n := 1) C dX6_readNumber_0 0 rfl rfl ?_
  refine y_aload_n (n := 2) C dX6_readNumber_1 0 rfl rfl ?_
  refine y_aload_n (n := 3) C dX6_readNumber_2 0 rfl rfl ?_
  refine y_get (ci := 6) (f := 9) (n := 6) C in_X6 hO.1 rfl (by decide) wd_740 rfl rfl dX6_readNumber_3 rfl ?_
  refine y_cp (n := 9) C (fun r hr H locs la hP hS hl => y_runV (ci := 6) (st := [.ref (E.2.2.2.2.1 + o)]) C ky_X6_letter wd_1064 ⟨Nat.le_of_ble_eq_true rfl, Nat.le_of_ble_eq_true rfl⟩ hO.1 rfl (mX6_letter hO w (w.1 o 9) g.2.1 r hr) rfl (Nat.le_of_ble_eq_true rfl) rfl dX6_readNumber_6 hP hS hl) rfl (fun v1 hv1 => ?_)
  refine y_bipush (n := 11) C (32 : Int32) dX6_readNumber_9 (by decide) rfl ?_
  refine y_icmp_eq (tgt := 18) (n := 14) C dX6_readNumber_11 (by decide) rfl (fun h2 => ?_) (fun h2 => ?_)
  · refine y_iconst (n := 19) C (0 : Int32) dX6_readNumber_18 (by decide) rfl ?_
    refine y_putZ (ci := 6) (f := 10) (n := 22) C in_X6 tyX6 tyX6_ok nmX6 hO.1 rfl (by decide) wd_741 rfl rfl (by decide +kernel) (Nat.le_of_ble_eq_true rfl) st_X6_10 dX6_readNumber_19 rfl (fun w3 hw3 => ?_)
    refine y_aload_n (n := 23) C dX6_readNumber_22 0 rfl rfl ?_
    refine y_get (ci := 6) (f := 10) (n := 26) C in_X6 hO.1 rfl (by decide) wd_741 rfl rfl dX6_readNumber_23 rfl ?_
    refine y_if_eq (tgt := 30) (n := 29) C dX6_readNumber_26 (by decide) rfl (fun h4 => ?_) (fun h4 => ?_)
    · refine y_aload_n (n := 31) C dX6_readNumber_30 0 rfl rfl ?_
      refine y_dup (n := 32) C dX6_readNumber_31 rfl rfl ?_
      refine y_get (ci := 6) (f := 9) (n := 35) C in_X6 hO.1 rfl (by decide) wd_740 rfl rfl dX6_readNumber_32 rfl ?_
      refine y_iconst (n := 36) C (1 : Int32) dX6_readNumber_35 (by decide) rfl ?_
      refine y_iadd (n := 37) C dX6_readNumber_36 rfl ?_
      refine y_putI (ci := 6) (f := 9) (n := 40) C in_X6 tyX6 tyX6_ok nmX6 hO.1 rfl (by decide) wd_740 rfl rfl (by decide +kernel) (Nat.le_of_ble_eq_true rfl) st_X6_9 dX6_readNumber_37 rfl (fun w5 hw5 => ?_)
      refine y_aload_n (n := 41) C dX6_readNumber_40 0 rfl rfl ?_
      refine y_aload_n (n := 42) C dX6_readNumber_41 0 rfl rfl ?_
      refine y_aload_n (n := 43) C dX6_readNumber_42 0 rfl rfl ?_
      refine y_get (ci := 6) (f := 9) (n := 46) C in_X6 hO.1 rfl (by decide) wd_740 rfl rfl dX6_readNumber_43 rfl ?_
      refine y_cp (n := 49) C (fun r hr H locs la hP hS hl => y_runV (ci := 6) (st := [.ref (E.2.2.2.2.1 + o)]) C ky_X6_letter wd_1064 ⟨Nat.le_of_ble_eq_true rfl, Nat.le_of_ble_eq_true rfl⟩ hO.1 rfl (mX6_letter hO w5 (w5.1 o 9) g.2.1 r hr) rfl (Nat.le_of_ble_eq_true rfl) rfl dX6_readNumber_46 hP hS hl) rfl (fun v6 hv6 => ?_)
      refine y_cp (n := 52) C (fun r hr H locs la hP hS hl => y_runS (st := [.ref (E.2.2.2.2.1 + o)]) C ky_X6_isDigit wd_1068 ⟨Nat.le_of_ble_eq_true rfl, Nat.le_of_ble_eq_true rfl⟩ (mX6_isDigit w5 v6 g.2.1 r hr) rfl (Nat.le_of_ble_eq_true rfl) rfl dX6_readNumber_49 hP hS hl) rfl (fun v7 hv7 => ?_)
      refine y_if_ne (tgt := 59) (n := 55) C dX6_readNumber_52 (by decide) rfl (fun h8 => ?_) (fun h8 => ?_)
      · refine y_iconst (n := 60) C (0 : Int32) dX6_readNumber_59 (by decide) rfl ?_
        refine y_putZ (ci := 6) (f := 10) (n := 63) C in_X6 tyX6 tyX6_ok nmX6 hO.1 rfl (by decide) wd_741 rfl rfl (by decide +kernel) (Nat.le_of_ble_eq_true rfl) st_X6_10 dX6_readNumber_60 rfl (fun w9 hw9 => ?_)
        refine y_aload_n (n := 64) C dX6_readNumber_63 0 rfl rfl ?_
        refine y_get (ci := 6) (f := 10) (n := 67) C in_X6 hO.1 rfl (by decide) wd_741 rfl rfl dX6_readNumber_64 rfl ?_
        refine y_if_eq (tgt := 71) (n := 70) C dX6_readNumber_67 (by decide) rfl (fun h10 => ?_) (fun h10 => ?_)
        · refine y_iconst (n := 72) C (0 : Int32) dX6_readNumber_71 (by decide) rfl ?_
          refine y_istore_n (n := 73) (ls' := [(2, .int 0), (0, .ref (E.2.2.2.2.1 + o)), (1, .int a1)]) C dX6_readNumber_72 (by decide) rfl rfl ?_
          refine y_iconst (n := 74) C (0 : Int32) dX6_readNumber_73 (by decide) rfl ?_
          refine y_istore_n (n := 75) (ls' := [(3, .int 0), (2, .int 0), (0, .ref (E.2.2.2.2.1 + o)), (1, .int a1)]) C dX6_readNumber_74 (by decide) rfl rfl ?_
          refine y_iconst (n := 76) C (1 : Int32) dX6_readNumber_75 (by decide) rfl ?_
          refine y_istore (n := 78) (ls' := [(4, .int 1), (3, .int 0), (2, .int 0), (0, .ref (E.2.2.2.2.1 + o)), (1, .int a1)]) C dX6_readNumber_76 (by decide) rfl rfl ?_
          refine y_ls [3, 4, 2, 1, 0] rfl ?_
          exact clX6_readNumber_78 C hR hO 4096 w9 a1 0 0 1
        · exact y_rv C hR dX6_readNumber_70
      · refine y_iconst (n := 56) C (1 : Int32) dX6_readNumber_55 (by decide) rfl ?_
        refine y_goto (tgt := 60) C dX6_readNumber_56 (by decide) ?_
        refine y_putZ (ci := 6) (f := 10) (n := 63) C in_X6 tyX6 tyX6_ok nmX6 hO.1 rfl (by decide) wd_741 rfl rfl (by decide +kernel) (Nat.le_of_ble_eq_true rfl) st_X6_10 dX6_readNumber_60 rfl (fun w21 hw21 => ?_)
        refine y_aload_n (n := 64) C dX6_readNumber_63 0 rfl rfl ?_
        refine y_get (ci := 6) (f := 10) (n := 67) C in_X6 hO.1 rfl (by decide) wd_741 rfl rfl dX6_readNumber_64 rfl ?_
        refine y_if_eq (tgt := 71) (n := 70) C dX6_readNumber_67 (by decide) rfl (fun h22 => ?_) (fun h22 => ?_)
        · refine y_iconst (n := 72) C (0 : Int32) dX6_readNumber_71 (by decide) rfl ?_
          refine y_istore_n (n := 73) (ls' := [(2, .int 0), (0, .ref (E.2.2.2.2.1 + o)), (1, .int a1)]) C dX6_readNumber_72 (by decide) rfl rfl ?_
          refine y_iconst (n := 74) C (0 : Int32) dX6_readNumber_73 (by decide) rfl ?_
          refine y_istore_n (n := 75) (ls' := [(3, .int 0), (2, .int 0), (0, .ref (E.2.2.2.2.1 + o)), (1, .int a1)]) C dX6_readNumber_74 (by decide) rfl rfl ?_
          refine y_iconst (n := 76) C (1 : Int32) dX6_readNumber_75 (by decide) rfl ?_
          refine y_istore (n := 78) (ls' := [(4, .int 1), (3, .int 0), (2, .int 0), (0, .ref (E.2.2.2.2.1 + o)), (1, .int a1)]) C dX6_readNumber_76 (by decide) rfl rfl ?_
          refine y_ls [3, 4, 2, 1, 0] rfl ?_
          exact clX6_readNumber_78 C hR hO 4096 w21 a1 0 0 1
        · exact y_rv C hR dX6_readNumber_70
    · exact y_rv C hR dX6_readNumber_29
  · refine y_iconst (n := 15) C (1 : Int32) dX6_readNumber_14 (by decide) rfl ?_
    refine y_goto (tgt := 19) C dX6_readNumber_15 (by decide) ?_
    refine y_putZ (ci := 6) (f := 10) (n := 22) C in_X6 tyX6 tyX6_ok nmX6 hO.1 rfl (by decide) wd_741 rfl rfl (by decide +kernel) (Nat.le_of_ble_eq_true rfl) st_X6_10 dX6_readNumber_19 rfl (fun w23 hw23 => ?_)
    refine y_aload_n (n := 23) C dX6_readNumber_22 0 rfl rfl ?_
    refine y_get (ci := 6) (f := 10) (n := 26) C in_X6 hO.1 rfl (by decide) wd_741 rfl rfl dX6_readNumber_23 rfl ?_
    refine y_if_eq (tgt := 30) (n := 29) C dX6_readNumber_26 (by decide) rfl (fun h24 => ?_) (fun h24 => ?_)
    · refine y_aload_n (n := 31) C dX6_readNumber_30 0 rfl rfl ?_
      refine y_dup (n := 32) C dX6_readNumber_31 rfl rfl ?_
      refine y_get (ci := 6) (f := 9) (n := 35) C in_X6 hO.1 rfl (by decide) wd_740 rfl rfl dX6_readNumber_32 rfl ?_
      refine y_iconst (n := 36) C (1 : Int32) dX6_readNumber_35 (by decide) rfl ?_
      refine y_iadd (n := 37) C dX6_readNumber_36 rfl ?_
      refine y_putI (ci := 6) (f := 9) (n := 40) C in_X6 tyX6 tyX6_ok nmX6 hO.1 rfl (by decide) wd_740 rfl rfl (by decide +kernel) (Nat.le_of_ble_eq_true rfl) st_X6_9 dX6_readNumber_37 rfl (fun w25 hw25 => ?_)
      refine y_aload_n (n := 41) C dX6_readNumber_40 0 rfl rfl ?_
      refine y_aload_n (n := 42) C dX6_readNumber_41 0 rfl rfl ?_
      refine y_aload_n (n := 43) C dX6_readNumber_42 0 rfl rfl ?_
      refine y_get (ci := 6) (f := 9) (n := 46) C in_X6 hO.1 rfl (by decide) wd_740 rfl rfl dX6_readNumber_43 rfl ?_
      refine y_cp (n := 49) C (fun r hr H locs la hP hS hl => y_runV (ci := 6) (st := [.ref (E.2.2.2.2.1 + o)]) C ky_X6_letter wd_1064 ⟨Nat.le_of_ble_eq_true rfl, Nat.le_of_ble_eq_true rfl⟩ hO.1 rfl (mX6_letter hO w25 (w25.1 o 9) g.2.1 r hr) rfl (Nat.le_of_ble_eq_true rfl) rfl dX6_readNumber_46 hP hS hl) rfl (fun v26 hv26 => ?_)
      refine y_cp (n := 52) C (fun r hr H locs la hP hS hl => y_runS (st := [.ref (E.2.2.2.2.1 + o)]) C ky_X6_isDigit wd_1068 ⟨Nat.le_of_ble_eq_true rfl, Nat.le_of_ble_eq_true rfl⟩ (mX6_isDigit w25 v26 g.2.1 r hr) rfl (Nat.le_of_ble_eq_true rfl) rfl dX6_readNumber_49 hP hS hl) rfl (fun v27 hv27 => ?_)
      refine y_if_ne (tgt := 59) (n := 55) C dX6_readNumber_52 (by decide) rfl (fun h28 => ?_) (fun h28 => ?_)
      · refine y_iconst (n := 60) C (0 : Int32) dX6_readNumber_59 (by decide) rfl ?_
        refine y_putZ (ci := 6) (f := 10) (n := 63) C in_X6 tyX6 tyX6_ok nmX6 hO.1 rfl (by decide) wd_741 rfl rfl (by decide +kernel) (Nat.le_of_ble_eq_true rfl) st_X6_10 dX6_readNumber_60 rfl (fun w29 hw29 => ?_)
        refine y_aload_n (n := 64) C dX6_readNumber_63 0 rfl rfl ?_
        refine y_get (ci := 6) (f := 10) (n := 67) C in_X6 hO.1 rfl (by decide) wd_741 rfl rfl dX6_readNumber_64 rfl ?_
        refine y_if_eq (tgt := 71) (n := 70) C dX6_readNumber_67 (by decide) rfl (fun h30 => ?_) (fun h30 => ?_)
        · refine y_iconst (n := 72) C (0 : Int32) dX6_readNumber_71 (by decide) rfl ?_
          refine y_istore_n (n := 73) (ls' := [(2, .int 0), (0, .ref (E.2.2.2.2.1 + o)), (1, .int a1)]) C dX6_readNumber_72 (by decide) rfl rfl ?_
          refine y_iconst (n := 74) C (0 : Int32) dX6_readNumber_73 (by decide) rfl ?_
          refine y_istore_n (n := 75) (ls' := [(3, .int 0), (2, .int 0), (0, .ref (E.2.2.2.2.1 + o)), (1, .int a1)]) C dX6_readNumber_74 (by decide) rfl rfl ?_
          refine y_iconst (n := 76) C (1 : Int32) dX6_readNumber_75 (by decide) rfl ?_
          refine y_istore (n := 78) (ls' := [(4, .int 1), (3, .int 0), (2, .int 0), (0, .ref (E.2.2.2.2.1 + o)), (1, .int a1)]) C dX6_readNumber_76 (by decide) rfl rfl ?_
          refine y_ls [3, 4, 2, 1, 0] rfl ?_
          exact clX6_readNumber_78 C hR hO 4096 w29 a1 0 0 1
        · exact y_rv C hR dX6_readNumber_70
      · refine y_iconst (n := 56) C (1 : Int32) dX6_readNumber_55 (by decide) rfl ?_
        refine y_goto (tgt := 60) C dX6_readNumber_56 (by decide) ?_
        refine y_putZ (ci := 6) (f := 10) (n := 63) C in_X6 tyX6 tyX6_ok nmX6 hO.1 rfl (by decide) wd_741 rfl rfl (by decide +kernel) (Nat.le_of_ble_eq_true rfl) st_X6_10 dX6_readNumber_60 rfl (fun w31 hw31 => ?_)
        refine y_aload_n (n := 64) C dX6_readNumber_63 0 rfl rfl ?_
        refine y_get (ci := 6) (f := 10) (n := 67) C in_X6 hO.1 rfl (by decide) wd_741 rfl rfl dX6_readNumber_64 rfl ?_
        refine y_if_eq (tgt := 71) (n := 70) C dX6_readNumber_67 (by decide) rfl (fun h32 => ?_) (fun h32 => ?_)
        · refine y_iconst (n := 72) C (0 : Int32) dX6_readNumber_71 (by decide) rfl ?_
          refine y_istore_n (n := 73) (ls' := [(2, .int 0), (0, .ref (E.2.2.2.2.1 + o)), (1, .int a1)]) C dX6_readNumber_72 (by decide) rfl rfl ?_
          refine y_iconst (n := 74) C (0 : Int32) dX6_readNumber_73 (by decide) rfl ?_
          refine y_istore_n (n := 75) (ls' := [(3, .int 0), (2, .int 0), (0, .ref (E.2.2.2.2.1 + o)), (1, .int a1)]) C dX6_readNumber_74 (by decide) rfl rfl ?_
          refine y_iconst (n := 76) C (1 : Int32) dX6_readNumber_75 (by decide) rfl ?_
          refine y_istore (n := 78) (ls' := [(4, .int 1), (3, .int 0), (2, .int 0), (0, .ref (E.2.2.2.2.1 + o)), (1, .int a1)]) C dX6_readNumber_76 (by decide) rfl rfl ?_
          refine y_ls [3, 4, 2, 1, 0] rfl ?_
          exact clX6_readNumber_78 C hR hO 4096 w31 a1 0 0 1
        · exact y_rv C hR dX6_readNumber_70
    · exact y_rv C hR dX6_readNumber_29
theorem mX6_readNumber {E : Ex} {o : Nat} (hO : shM E.2.2.2.2.2.1 o) (w : Wd) (a1 : Int32) (l : Launch) : MV l yX6_readNumber cX6_readNumber 5 none { frames := 1, cells := 0, slots := 0, locals := 21 } E [.ref (E.2.2.2.2.1 + o), .int a1] w (fX6_readNumber w o a1) :=
  y_met (Qc := yQv E) (by decide +kernel) (Nat.le_of_ble_eq_true rfl) (fun g C hR => eX6_readNumber C hR hO w a1) l
def lX6_perform_98 (o : Nat) : Nat → Wd → Int32 → Int32 → Int32 → Option (Int32 × Wd)
  | 0, _, _, _, _ => none
  | n + 1, w, x2, x3, x4 =>
    if x3 ≤ x4 then
      if (bz (w.1 o 10)) = 0 then
        if (w.1 o 8) ≤ (w.1 o 9) then
          ob2 (fX6_does w o x2) fun v11 w12 =>
          some (v11, w12)
        else
          some ((-100) - (w.1 o 9), w)
      else
        some ((-100) - (w.1 o 9), w)
    else
      if (bz (w.1 o 10)) = 0 then
        (fX6_readNumber w o x4).bind fun w18 =>
        lX6_perform_98 o n w18 x2 x3 (x4 + 1)
      else
        if (bz (w.1 o 10)) = 0 then
          if (w.1 o 8) ≤ (w.1 o 9) then
            ob2 (fX6_does w o x2) fun v16 w17 =>
            some (v16, w17)
          else
            some ((-100) - (w.1 o 9), w)
        else
          some ((-100) - (w.1 o 9), w)
set_option maxRecDepth 4000 in
theorem clX6_perform_98 {g : Gx} {E : Ex} (C : CC g E cX6_perform 5 RX6 5 111) (hR : RT g (some .int)) {o : Nat} (hO : shM E.2.2.2.2.2.1 o) : ∀ (n : Nat) (w : Wd) (x2 : Int32) (x3 : Int32) (x4 : Int32), YO g E 5 (QI g E) (lX6_perform_98 o n w x2 x3 x4) w 98 [(0, .ref (E.2.2.2.2.1 + o)), (2, .int x2), (3, .int x3), (4, .int x4)] [] := by
  intro n
  induction n with
  | zero => intro w x2 x3 x4; exact y_no
  | succ n ih =>
    intro w x2 x3 x4
    rw [lX6_perform_98]
    refine y_iload (n := 100) C dX6_perform_98 3 rfl rfl ?_
    refine y_iload_n (n := 101) C dX6_perform_100 2 rfl rfl ?_
    refine y_icmp_ge (tgt := 123) (n := 104) C dX6_perform_101 (by decide) rfl (fun h8 => ?_) (fun h8 => ?_)
    · refine y_aload_n (n := 124) C dX6_perform_123 0 rfl rfl ?_
      refine y_get (ci := 6) (f := 10) (n := 127) C in_X6 hO.1 rfl (by decide) wd_741 rfl rfl dX6_perform_124 rfl ?_
      refine y_if_ne (tgt := 141) (n := 130) C dX6_perform_127 (by decide) rfl (fun h9 => ?_) (fun h9 => ?_)
      · refine y_bipush (n := 143) C ((-100) : Int32) dX6_perform_141 (by decide) rfl ?_
        refine y_aload_n (n := 144) C dX6_perform_143 0 rfl rfl ?_
        refine y_get (ci := 6) (f := 9) (n := 147) C in_X6 hO.1 rfl (by decide) wd_740 rfl rfl dX6_perform_144 rfl ?_
        refine y_isub (n := 148) C dX6_perform_147 rfl ?_
        exact y_ri C hR dX6_perform_148
      · refine y_aload_n (n := 131) C dX6_perform_130 0 rfl rfl ?_
        refine y_get (ci := 6) (f := 9) (n := 134) C in_X6 hO.1 rfl (by decide) wd_740 rfl rfl dX6_perform_131 rfl ?_
        refine y_aload_n (n := 135) C dX6_perform_134 0 rfl rfl ?_
        refine y_get (ci := 6) (f := 8) (n := 138) C in_X6 hO.1 rfl (by decide) wd_739 rfl rfl dX6_perform_135 rfl ?_
        refine y_icmp_ge (tgt := 149) (n := 141) C dX6_perform_138 (by decide) rfl (fun h10 => ?_) (fun h10 => ?_)
        · refine y_aload_n (n := 150) C dX6_perform_149 0 rfl rfl ?_
          refine y_iload_n (n := 151) C dX6_perform_150 1 rfl rfl ?_
          refine y_ci2 (n := 154) C (fun r hr H locs la hP hS hl => y_runV (ci := 6) (st := []) C ky_X6_does wd_1071 ⟨Nat.le_of_ble_eq_true rfl, Nat.le_of_ble_eq_true rfl⟩ hO.1 rfl (mX6_does hO w x2 g.2.1 r hr) rfl (Nat.le_of_ble_eq_true rfl) rfl dX6_perform_151 hP hS hl) rfl (fun v11 w12 hv11 => ?_)
          exact y_ri C hR dX6_perform_154
        · refine y_bipush (n := 143) C ((-100) : Int32) dX6_perform_141 (by decide) rfl ?_
          refine y_aload_n (n := 144) C dX6_perform_143 0 rfl rfl ?_
          refine y_get (ci := 6) (f := 9) (n := 147) C in_X6 hO.1 rfl (by decide) wd_740 rfl rfl dX6_perform_144 rfl ?_
          refine y_isub (n := 148) C dX6_perform_147 rfl ?_
          exact y_ri C hR dX6_perform_148
    · refine y_aload_n (n := 105) C dX6_perform_104 0 rfl rfl ?_
      refine y_get (ci := 6) (f := 10) (n := 108) C in_X6 hO.1 rfl (by decide) wd_741 rfl rfl dX6_perform_105 rfl ?_
      refine y_if_ne (tgt := 123) (n := 111) C dX6_perform_108 (by decide) rfl (fun h13 => ?_) (fun h13 => ?_)
      · refine y_aload_n (n := 124) C dX6_perform_123 0 rfl rfl ?_
        refine y_get (ci := 6) (f := 10) (n := 127) C in_X6 hO.1 rfl (by decide) wd_741 rfl rfl dX6_perform_124 rfl ?_
        refine y_if_ne (tgt := 141) (n := 130) C dX6_perform_127 (by decide) rfl (fun h14 => ?_) (fun h14 => ?_)
        · refine y_bipush (n := 143) C ((-100) : Int32) dX6_perform_141 (by decide) rfl ?_
          refine y_aload_n (n := 144) C dX6_perform_143 0 rfl rfl ?_
          refine y_get (ci := 6) (f := 9) (n := 147) C in_X6 hO.1 rfl (by decide) wd_740 rfl rfl dX6_perform_144 rfl ?_
          refine y_isub (n := 148) C dX6_perform_147 rfl ?_
          exact y_ri C hR dX6_perform_148
        · refine y_aload_n (n := 131) C dX6_perform_130 0 rfl rfl ?_
          refine y_get (ci := 6) (f := 9) (n := 134) C in_X6 hO.1 rfl (by decide) wd_740 rfl rfl dX6_perform_131 rfl ?_
          refine y_aload_n (n := 135) C dX6_perform_134 0 rfl rfl ?_
          refine y_get (ci := 6) (f := 8) (n := 138) C in_X6 hO.1 rfl (by decide) wd_739 rfl rfl dX6_perform_135 rfl ?_
          refine y_icmp_ge (tgt := 149) (n := 141) C dX6_perform_138 (by decide) rfl (fun h15 => ?_) (fun h15 => ?_)
          · refine y_aload_n (n := 150) C dX6_perform_149 0 rfl rfl ?_
            refine y_iload_n (n := 151) C dX6_perform_150 1 rfl rfl ?_
            refine y_ci2 (n := 154) C (fun r hr H locs la hP hS hl => y_runV (ci := 6) (st := []) C ky_X6_does wd_1071 ⟨Nat.le_of_ble_eq_true rfl, Nat.le_of_ble_eq_true rfl⟩ hO.1 rfl (mX6_does hO w x2 g.2.1 r hr) rfl (Nat.le_of_ble_eq_true rfl) rfl dX6_perform_151 hP hS hl) rfl (fun v16 w17 hv16 => ?_)
            exact y_ri C hR dX6_perform_154
          · refine y_bipush (n := 143) C ((-100) : Int32) dX6_perform_141 (by decide) rfl ?_
            refine y_aload_n (n := 144) C dX6_perform_143 0 rfl rfl ?_
            refine y_get (ci := 6) (f := 9) (n := 147) C in_X6 hO.1 rfl (by decide) wd_740 rfl rfl dX6_perform_144 rfl ?_
            refine y_isub (n := 148) C dX6_perform_147 rfl ?_
            exact y_ri C hR dX6_perform_148
      · refine y_aload_n (n := 112) C dX6_perform_111 0 rfl rfl ?_
        refine y_iload (n := 114) C dX6_perform_112 3 rfl rfl ?_
        refine y_cv (n := 117) C (fun r hr H locs la hP hS hl => y_runV (ci := 6) (st := []) C ky_X6_readNumber wd_1060 ⟨Nat.le_of_ble_eq_true rfl, Nat.le_of_ble_eq_true rfl⟩ hO.1 rfl (mX6_readNumber hO w x4 g.2.1 r hr) rfl (Nat.le_of_ble_eq_true rfl) rfl dX6_perform_114 hP hS hl) rfl (fun w18 hw18 => ?_)
        refine y_iinc (n := 120) (v := x4 + 1) (ls' := [(4, .int (x4 + 1)), (0, .ref (E.2.2.2.2.1 + o)), (2, .int x2), (3, .int x3)]) C dX6_perform_117 3 rfl rfl (by decide) rfl rfl ?_
        refine y_goto (tgt := 98) C dX6_perform_120 (by decide) ?_
        refine y_ls [1, 2, 3, 0] rfl ?_
        exact ih w18 x2 x3 (x4 + 1)
def lX6_perform_32 (o : Nat) : Nat → Wd → Int32 → Int32 → Int32 → Option (Int32 × Wd)
  | 0, _, _, _, _ => none
  | n + 1, w, x1, x2, x3 =>
    if 7 ≤ x3 then
      if 0 ≤ x2 then
        (pI w o 9 x1).bind fun w4 =>
        (stZ w4 o 10 0).bind fun w5 =>
        if x2 = 0 then
          lX6_perform_98 o 4096 w5 x2 3 0
        else
          if 4 ≤ x2 then
            lX6_perform_98 o 4096 w5 x2 1 0
          else
            lX6_perform_98 o 4096 w5 x2 2 0
      else
        some ((-100), w)
    else
      (fX6_isWord w o x3 x1).bind fun v19 =>
      if v19 = 0 then
        lX6_perform_32 o n w x1 x2 (x3 + 1)
      else
        lX6_perform_32 o n w x1 x3 (x3 + 1)
set_option maxRecDepth 4000 in
theorem clX6_perform_32 {g : Gx} {E : Ex} (C : CC g E cX6_perform 5 RX6 5 111) (hR : RT g (some .int)) {o : Nat} (hO : shM E.2.2.2.2.2.1 o) : ∀ (n : Nat) (w : Wd) (x1 : Int32) (x2 : Int32) (x3 : Int32), YO g E 5 (QI g E) (lX6_perform_32 o n w x1 x2 x3) w 32 [(0, .ref (E.2.2.2.2.1 + o)), (1, .int x1), (2, .int x2), (3, .int x3)] [] := by
  intro n
  induction n with
  | zero => intro w x1 x2 x3; exact y_no
  | succ n ih =>
    intro w x1 x2 x3
    rw [lX6_perform_32]
    refine y_iload_n (n := 33) C dX6_perform_32 3 rfl rfl ?_
    refine y_bipush (n := 35) C (7 : Int32) dX6_perform_33 (by decide) rfl ?_
    refine y_icmp_ge (tgt := 59) (n := 38) C dX6_perform_35 (by decide) rfl (fun h2 => ?_) (fun h2 => ?_)
    · refine y_iload_n (n := 60) C dX6_perform_59 2 rfl rfl ?_
      refine y_if_ge (tgt := 66) (n := 63) C dX6_perform_60 (by decide) rfl (fun h3 => ?_) (fun h3 => ?_)
      · refine y_aload_n (n := 67) C dX6_perform_66 0 rfl rfl ?_
        refine y_iload_n (n := 68) C dX6_perform_67 1 rfl rfl ?_
        refine y_putI (ci := 6) (f := 9) (n := 71) C in_X6 tyX6 tyX6_ok nmX6 hO.1 rfl (by decide) wd_740 rfl rfl (by decide +kernel) (Nat.le_of_ble_eq_true rfl) st_X6_9 dX6_perform_68 rfl (fun w4 hw4 => ?_)
        refine y_aload_n (n := 72) C dX6_perform_71 0 rfl rfl ?_
        refine y_iconst (n := 73) C (0 : Int32) dX6_perform_72 (by decide) rfl ?_
        refine y_putZ (ci := 6) (f := 10) (n := 76) C in_X6 tyX6 tyX6_ok nmX6 hO.1 rfl (by decide) wd_741 rfl rfl (by decide +kernel) (Nat.le_of_ble_eq_true rfl) st_X6_10 dX6_perform_73 rfl (fun w5 hw5 => ?_)
        refine y_iload_n (n := 77) C dX6_perform_76 2 rfl rfl ?_
        refine y_if_ne (tgt := 84) (n := 80) C dX6_perform_77 (by decide) rfl (fun h6 => ?_) (fun h6 => ?_)
        · refine y_iload_n (n := 85) C dX6_perform_84 2 rfl rfl ?_
          refine y_iconst (n := 86) C (4 : Int32) dX6_perform_85 (by decide) rfl ?_
          refine y_icmp_ge (tgt := 93) (n := 89) C dX6_perform_86 (by decide) rfl (fun h7 => ?_) (fun h7 => ?_)
          · refine y_iconst (n := 94) C (1 : Int32) dX6_perform_93 (by decide) rfl ?_
            refine y_istore_n (n := 95) (ls' := [(3, .int 1), (0, .ref (E.2.2.2.2.1 + o)), (1, .int x1), (2, .int x2)]) C dX6_perform_94 (by decide) rfl rfl ?_
            refine y_iconst (n := 96) C (0 : Int32) dX6_perform_95 (by decide) rfl ?_
            refine y_istore (n := 98) (ls' := [(4, .int 0), (3, .int 1), (0, .ref (E.2.2.2.2.1 + o)), (1, .int x1), (2, .int x2)]) C dX6_perform_96 (by decide) rfl rfl ?_
            refine y_ls [2, 4, 1, 0] rfl ?_
            exact clX6_perform_98 C hR hO 4096 w5 x2 1 0
          · refine y_iconst (n := 90) C (2 : Int32) dX6_perform_89 (by decide) rfl ?_
            refine y_goto (tgt := 94) C dX6_perform_90 (by decide) ?_
            refine y_istore_n (n := 95) (ls' := [(3, .int 2), (0, .ref (E.2.2.2.2.1 + o)), (1, .int x1), (2, .int x2)]) C dX6_perform_94 (by decide) rfl rfl ?_
            refine y_iconst (n := 96) C (0 : Int32) dX6_perform_95 (by decide) rfl ?_
            refine y_istore (n := 98) (ls' := [(4, .int 0), (3, .int 2), (0, .ref (E.2.2.2.2.1 + o)), (1, .int x1), (2, .int x2)]) C dX6_perform_96 (by decide) rfl rfl ?_
            refine y_ls [2, 4, 1, 0] rfl ?_
            exact clX6_perform_98 C hR hO 4096 w5 x2 2 0
        · refine y_iconst (n := 81) C (3 : Int32) dX6_perform_80 (by decide) rfl ?_
          refine y_goto (tgt := 94) C dX6_perform_81 (by decide) ?_
          refine y_istore_n (n := 95) (ls' := [(3, .int 3), (0, .ref (E.2.2.2.2.1 + o)), (1, .int x1), (2, .int x2)]) C dX6_perform_94 (by decide) rfl rfl ?_
          refine y_iconst (n := 96) C (0 : Int32) dX6_perform_95 (by decide) rfl ?_
          refine y_istore (n := 98) (ls' := [(4, .int 0), (3, .int 3), (0, .ref (E.2.2.2.2.1 + o)), (1, .int x1), (2, .int x2)]) C dX6_perform_96 (by decide) rfl rfl ?_
          refine y_ls [2, 4, 1, 0] rfl ?_
          exact clX6_perform_98 C hR hO 4096 w5 x2 3 0
      · refine y_bipush (n := 65) C ((-100) : Int32) dX6_perform_63 (by decide) rfl ?_
        exact y_ri C hR dX6_perform_65
    · refine y_aload_n (n := 39) C dX6_perform_38 0 rfl rfl ?_
      refine y_iload_n (n := 40) C dX6_perform_39 3 rfl rfl ?_
      refine y_iload_n (n := 41) C dX6_perform_40 1 rfl rfl ?_
      refine y_cp (n := 44) C (fun r hr H locs la hP hS hl => y_runV (ci := 6) (st := []) C ky_X6_isWord wd_1052 ⟨Nat.le_of_ble_eq_true rfl, Nat.le_of_ble_eq_true rfl⟩ hO.1 rfl (mX6_isWord hO w x3 x1 g.2.1 r hr) rfl (Nat.le_of_ble_eq_true rfl) rfl dX6_perform_41 hP hS hl) rfl (fun v19 hv19 => ?_)
      refine y_if_eq (tgt := 51) (n := 47) C dX6_perform_44 (by decide) rfl (fun h20 => ?_) (fun h20 => ?_)
      · refine y_iload_n (n := 52) C dX6_perform_51 2 rfl rfl ?_
        refine y_istore_n (n := 53) (ls' := [(2, .int x2), (0, .ref (E.2.2.2.2.1 + o)), (1, .int x1), (3, .int x3)]) C dX6_perform_52 (by decide) rfl rfl ?_
        refine y_iinc (n := 56) (v := x3 + 1) (ls' := [(3, .int (x3 + 1)), (2, .int x2), (0, .ref (E.2.2.2.2.1 + o)), (1, .int x1)]) C dX6_perform_53 3 rfl rfl (by decide) rfl rfl ?_
        refine y_goto (tgt := 32) C dX6_perform_56 (by decide) ?_
        refine y_ls [2, 3, 1, 0] rfl ?_
        exact ih w x1 x2 (x3 + 1)
      · refine y_iload_n (n := 48) C dX6_perform_47 3 rfl rfl ?_
        refine y_goto (tgt := 52) C dX6_perform_48 (by decide) ?_
        refine y_istore_n (n := 53) (ls' := [(2, .int x3), (0, .ref (E.2.2.2.2.1 + o)), (1, .int x1), (3, .int x3)]) C dX6_perform_52 (by decide) rfl rfl ?_
        refine y_iinc (n := 56) (v := x3 + 1) (ls' := [(3, .int (x3 + 1)), (2, .int x3), (0, .ref (E.2.2.2.2.1 + o)), (1, .int x1)]) C dX6_perform_53 3 rfl rfl (by decide) rfl rfl ?_
        refine y_goto (tgt := 32) C dX6_perform_56 (by decide) ?_
        refine y_ls [2, 3, 1, 0] rfl ?_
        exact ih w x1 x3 (x3 + 1)
def lX6_perform_2 (o : Nat) : Nat → Wd → Int32 → Option (Int32 × Wd)
  | 0, _, _ => none
  | n + 1, w, x1 =>
    if (w.1 o 8) ≤ x1 then
      lX6_perform_32 o 4096 w x1 (-1) 0
    else
      (ldI 40 w (o + 6) x1).bind fun v21 =>
      (fX6_isSmall w v21).bind fun v22 =>
      if v22 = 0 then
        lX6_perform_32 o 4096 w x1 (-1) 0
      else
        lX6_perform_2 o n w (x1 + 1)
set_option maxRecDepth 4000 in
theorem clX6_perform_2 {g : Gx} {E : Ex} (C : CC g E cX6_perform 5 RX6 5 111) (hR : RT g (some .int)) {o : Nat} (hO : shM E.2.2.2.2.2.1 o) : ∀ (n : Nat) (w : Wd) (x1 : Int32), YO g E 5 (QI g E) (lX6_perform_2 o n w x1) w 2 [(0, .ref (E.2.2.2.2.1 + o)), (1, .int x1)] [] := by
  intro n
  induction n with
  | zero => intro w x1; exact y_no
  | succ n ih =>
    intro w x1
    rw [lX6_perform_2]
    refine y_iload_n (n := 3) C dX6_perform_2 1 rfl rfl ?_
    refine y_aload_n (n := 4) C dX6_perform_3 0 rfl rfl ?_
    refine y_get (ci := 6) (f := 8) (n := 7) C in_X6 hO.1 rfl (by decide) wd_739 rfl rfl dX6_perform_4 rfl ?_
    refine y_icmp_ge (tgt := 28) (n := 10) C dX6_perform_7 (by decide) rfl (fun h1 => ?_) (fun h1 => ?_)
    · refine y_iconst (n := 29) C ((-1) : Int32) dX6_perform_28 (by decide) rfl ?_
      refine y_istore_n (n := 30) (ls' := [(2, .int (-1)), (0, .ref (E.2.2.2.2.1 + o)), (1, .int x1)]) C dX6_perform_29 (by decide) rfl rfl ?_
      refine y_iconst (n := 31) C (0 : Int32) dX6_perform_30 (by decide) rfl ?_
      refine y_istore_n (n := 32) (ls' := [(3, .int 0), (2, .int (-1)), (0, .ref (E.2.2.2.2.1 + o)), (1, .int x1)]) C dX6_perform_31 (by decide) rfl rfl ?_
      refine y_ls [2, 3, 1, 0] rfl ?_
      exact clX6_perform_32 C hR hO 4096 w x1 (-1) 0
    · refine y_aload_n (n := 11) C dX6_perform_10 0 rfl rfl ?_
      refine y_get (ci := 6) (f := 7) (n := 14) C in_X6 hO.1 rfl (by decide) wd_738 rfl rfl dX6_perform_11 rfl ?_
      refine y_iload_n (n := 15) C dX6_perform_14 1 rfl rfl ?_
      refine y_cald (n := 16) C hO.2.2.2.2.2.2.1 dX6_perform_15 rfl (fun v21 hv21 => ?_)
      refine y_cp (n := 19) C (fun r hr H locs la hP hS hl => y_runS (st := []) C ky_X6_isSmall wd_1049 ⟨Nat.le_of_ble_eq_true rfl, Nat.le_of_ble_eq_true rfl⟩ (mX6_isSmall w v21 g.2.1 r hr) rfl (Nat.le_of_ble_eq_true rfl) rfl dX6_perform_16 hP hS hl) rfl (fun v22 hv22 => ?_)
      refine y_if_eq (tgt := 28) (n := 22) C dX6_perform_19 (by decide) rfl (fun h23 => ?_) (fun h23 => ?_)
      · refine y_iconst (n := 29) C ((-1) : Int32) dX6_perform_28 (by decide) rfl ?_
        refine y_istore_n (n := 30) (ls' := [(2, .int (-1)), (0, .ref (E.2.2.2.2.1 + o)), (1, .int x1)]) C dX6_perform_29 (by decide) rfl rfl ?_
        refine y_iconst (n := 31) C (0 : Int32) dX6_perform_30 (by decide) rfl ?_
        refine y_istore_n (n := 32) (ls' := [(3, .int 0), (2, .int (-1)), (0, .ref (E.2.2.2.2.1 + o)), (1, .int x1)]) C dX6_perform_31 (by decide) rfl rfl ?_
        refine y_ls [2, 3, 1, 0] rfl ?_
        exact clX6_perform_32 C hR hO 4096 w x1 (-1) 0
      · refine y_iinc (n := 25) (v := x1 + 1) (ls' := [(1, .int (x1 + 1)), (0, .ref (E.2.2.2.2.1 + o))]) C dX6_perform_22 1 rfl rfl (by decide) rfl rfl ?_
        refine y_goto (tgt := 2) C dX6_perform_25 (by decide) ?_
        refine y_ls [1, 0] rfl ?_
        exact ih w (x1 + 1)
def fX6_perform (w : Wd) (o : Nat)  : Option (Int32 × Wd) :=
  lX6_perform_2 o 4096 w 0
set_option maxRecDepth 4000 in
theorem eX6_perform {g : Gx} {E : Ex} (C : CC g E cX6_perform 5 RX6 5 111) (hR : RT g (some .int)) {o : Nat} (hO : shM E.2.2.2.2.2.1 o) (w : Wd)  : YO g E 5 (QI g E) (fX6_perform w o) w 0 [(0, .ref (E.2.2.2.2.1 + o))] [] := by
  unfold fX6_perform
  refine y_iconst (n := 1) C (0 : Int32) dX6_perform_0 (by decide) rfl ?_
  refine y_istore_n (n := 2) (ls' := [(1, .int 0), (0, .ref (E.2.2.2.2.1 + o))]) C dX6_perform_1 (by decide) rfl rfl ?_
  refine y_ls [1, 0] rfl ?_
  exact clX6_perform_2 C hR hO 4096 w 0
theorem mX6_perform {E : Ex} {o : Nat} (hO : shM E.2.2.2.2.2.1 o) (w : Wd)  (l : Launch) : MI l yX6_perform cX6_perform 5 (some .int) { frames := 5, cells := 0, slots := 0, locals := 111 } E [.ref (E.2.2.2.2.1 + o)] w (fX6_perform w o) :=
  y_met (Qc := yQi E) (by decide +kernel) (Nat.le_of_ble_eq_true rfl) (fun g C hR => eX6_perform C hR hO w ) l
def lX6_tellLess_4 (o : Nat) : Nat → Wd → Int32 → Int32 → Option (Int32)
  | 0, _, _, _ => none
  | n + 1, w, x1, x2 =>
    if 6 ≤ x2 then
      some x1
    else
      (fX6_isAsked w o x2).bind fun v2 =>
      if v2 = 0 then
        lX6_tellLess_4 o n w (x1 + 0) (x2 + 1)
      else
        (fX6_toldBound w o x2).bind fun v4 =>
        (fX6_bound w o x2).bind fun v5 =>
        if v5 ≤ v4 then
          lX6_tellLess_4 o n w (x1 + 0) (x2 + 1)
        else
          lX6_tellLess_4 o n w (x1 + 1) (x2 + 1)
set_option maxRecDepth 4000 in
theorem clX6_tellLess_4 {g : Gx} {E : Ex} (C : CC g E cX6_tellLess 3 RX6 3 65) (hR : RT g (some .int)) {o : Nat} (hO : shM E.2.2.2.2.2.1 o) (w : Wd) : ∀ (n : Nat) (x1 : Int32) (x2 : Int32), YO g E 3 (QP g E w) (lX6_tellLess_4 o n w x1 x2) w 4 [(0, .ref (E.2.2.2.2.1 + o)), (1, .int x1), (2, .int x2)] [] := by
  intro n
  induction n with
  | zero => intro x1 x2; exact y_no
  | succ n ih =>
    intro x1 x2
    rw [lX6_tellLess_4]
    refine y_iload_n (n := 5) C dX6_tellLess_4 2 rfl rfl ?_
    refine y_bipush (n := 7) C (6 : Int32) dX6_tellLess_5 (by decide) rfl ?_
    refine y_icmp_ge (tgt := 45) (n := 10) C dX6_tellLess_7 (by decide) rfl (fun h1 => ?_) (fun h1 => ?_)
    · refine y_iload_n (n := 46) C dX6_tellLess_45 1 rfl rfl ?_
      exact y_rp C hR dX6_tellLess_46
    · refine y_iload_n (n := 11) C dX6_tellLess_10 1 rfl rfl ?_
      refine y_aload_n (n := 12) C dX6_tellLess_11 0 rfl rfl ?_
      refine y_iload_n (n := 13) C dX6_tellLess_12 2 rfl rfl ?_
      refine y_cp (n := 16) C (fun r hr H locs la hP hS hl => y_runV (ci := 6) (st := [.int x1]) C ky_X6_isAsked wd_889 ⟨Nat.le_of_ble_eq_true rfl, Nat.le_of_ble_eq_true rfl⟩ hO.1 rfl (mX6_isAsked hO w x2 g.2.1 r hr) rfl (Nat.le_of_ble_eq_true rfl) rfl dX6_tellLess_13 hP hS hl) rfl (fun v2 hv2 => ?_)
      refine y_if_eq (tgt := 36) (n := 19) C dX6_tellLess_16 (by decide) rfl (fun h3 => ?_) (fun h3 => ?_)
      · refine y_iconst (n := 37) C (0 : Int32) dX6_tellLess_36 (by decide) rfl ?_
        refine y_iadd (n := 38) C dX6_tellLess_37 rfl ?_
        refine y_istore_n (n := 39) (ls' := [(1, .int (x1 + 0)), (0, .ref (E.2.2.2.2.1 + o)), (2, .int x2)]) C dX6_tellLess_38 (by decide) rfl rfl ?_
        refine y_iinc (n := 42) (v := x2 + 1) (ls' := [(2, .int (x2 + 1)), (1, .int (x1 + 0)), (0, .ref (E.2.2.2.2.1 + o))]) C dX6_tellLess_39 2 rfl rfl (by decide) rfl rfl ?_
        refine y_goto (tgt := 4) C dX6_tellLess_42 (by decide) ?_
        refine y_ls [2, 1, 0] rfl ?_
        exact ih (x1 + 0) (x2 + 1)
      · refine y_aload_n (n := 20) C dX6_tellLess_19 0 rfl rfl ?_
        refine y_iload_n (n := 21) C dX6_tellLess_20 2 rfl rfl ?_
        refine y_cp (n := 24) C (fun r hr H locs la hP hS hl => y_runV (ci := 6) (st := [.int x1]) C ky_X6_toldBound wd_941 ⟨Nat.le_of_ble_eq_true rfl, Nat.le_of_ble_eq_true rfl⟩ hO.1 rfl (mX6_toldBound hO w x2 g.2.1 r hr) rfl (Nat.le_of_ble_eq_true rfl) rfl dX6_tellLess_21 hP hS hl) rfl (fun v4 hv4 => ?_)
        refine y_aload_n (n := 25) C dX6_tellLess_24 0 rfl rfl ?_
        refine y_iload_n (n := 26) C dX6_tellLess_25 2 rfl rfl ?_
        refine y_cp (n := 29) C (fun r hr H locs la hP hS hl => y_runV (ci := 6) (st := [.int v4, .int x1]) C ky_X6_bound wd_945 ⟨Nat.le_of_ble_eq_true rfl, Nat.le_of_ble_eq_true rfl⟩ hO.1 rfl (mX6_bound hO w x2 g.2.1 r hr) rfl (Nat.le_of_ble_eq_true rfl) rfl dX6_tellLess_26 hP hS hl) rfl (fun v5 hv5 => ?_)
        refine y_icmp_ge (tgt := 36) (n := 32) C dX6_tellLess_29 (by decide) rfl (fun h6 => ?_) (fun h6 => ?_)
        · refine y_iconst (n := 37) C (0 : Int32) dX6_tellLess_36 (by decide) rfl ?_
          refine y_iadd (n := 38) C dX6_tellLess_37 rfl ?_
          refine y_istore_n (n := 39) (ls' := [(1, .int (x1 + 0)), (0, .ref (E.2.2.2.2.1 + o)), (2, .int x2)]) C dX6_tellLess_38 (by decide) rfl rfl ?_
          refine y_iinc (n := 42) (v := x2 + 1) (ls' := [(2, .int (x2 + 1)), (1, .int (x1 + 0)), (0, .ref (E.2.2.2.2.1 + o))]) C dX6_tellLess_39 2 rfl rfl (by decide) rfl rfl ?_
          refine y_goto (tgt := 4) C dX6_tellLess_42 (by decide) ?_
          refine y_ls [2, 1, 0] rfl ?_
          exact ih (x1 + 0) (x2 + 1)
        · refine y_iconst (n := 33) C (1 : Int32) dX6_tellLess_32 (by decide) rfl ?_
          refine y_goto (tgt := 37) C dX6_tellLess_33 (by decide) ?_
          refine y_iadd (n := 38) C dX6_tellLess_37 rfl ?_
          refine y_istore_n (n := 39) (ls' := [(1, .int (x1 + 1)), (0, .ref (E.2.2.2.2.1 + o)), (2, .int x2)]) C dX6_tellLess_38 (by decide) rfl rfl ?_
          refine y_iinc (n := 42) (v := x2 + 1) (ls' := [(2, .int (x2 + 1)), (1, .int (x1 + 1)), (0, .ref (E.2.2.2.2.1 + o))]) C dX6_tellLess_39 2 rfl rfl (by decide) rfl rfl ?_
          refine y_goto (tgt := 4) C dX6_tellLess_42 (by decide) ?_
          refine y_ls [2, 1, 0] rfl ?_
          exact ih (x1 + 1) (x2 + 1)
def fX6_tellLess (w : Wd) (o : Nat)  : Option (Int32) :=
  lX6_tellLess_4 o 4096 w 0 0
set_option maxRecDepth 4000 in
theorem eX6_tellLess {g : Gx} {E : Ex} (C : CC g E cX6_tellLess 3 RX6 3 65) (hR : RT g (some .int)) {o : Nat} (hO : shM E.2.2.2.2.2.1 o) (w : Wd)  : YO g E 3 (QP g E w) (fX6_tellLess w o) w 0 [(0, .ref (E.2.2.2.2.1 + o))] [] := by
  unfold fX6_tellLess
  refine y_iconst (n := 1) C (0 : Int32) dX6_tellLess_0 (by decide) rfl ?_
  refine y_istore_n (n := 2) (ls' := [(1, .int 0), (0, .ref (E.2.2.2.2.1 + o))]) C dX6_tellLess_1 (by decide) rfl rfl ?_
  refine y_iconst (n := 3) C (0 : Int32) dX6_tellLess_2 (by decide) rfl ?_
  refine y_istore_n (n := 4) (ls' := [(2, .int 0), (1, .int 0), (0, .ref (E.2.2.2.2.1 + o))]) C dX6_tellLess_3 (by decide) rfl rfl ?_
  refine y_ls [2, 1, 0] rfl ?_
  exact clX6_tellLess_4 C hR hO w 4096 0 0
theorem mX6_tellLess {E : Ex} {o : Nat} (hO : shM E.2.2.2.2.2.1 o) (w : Wd)  (l : Launch) : MP l yX6_tellLess cX6_tellLess 3 (some .int) { frames := 3, cells := 0, slots := 0, locals := 65 } E [.ref (E.2.2.2.2.1 + o)] w (fX6_tellLess w o) :=
  y_met (Qc := fun r => yQi E (r, w)) (by decide +kernel) (Nat.le_of_ble_eq_true rfl) (fun g C hR => eX6_tellLess C hR hO w ) l
def fX6_reading (w : Wd) (o : Nat) (a1 : Int32) : Option (Int32 × Wd) :=
  if a1 < 0 then
    some ((-2), w)
  else
    if a1 ≤ 12 then
      (ldI 706 w (o + 1) 559).bind fun v3 =>
      if v3 = 0 then
        some ((-4), w)
      else
        if a1 = 0 then
          (ldI 706 w (o + 1) 564).bind fun v6 =>
          some (v6, w)
        else
        if a1 = 1 then
          (ldI 706 w (o + 1) 565).bind fun v8 =>
          some (v8, w)
        else
        if a1 = 2 then
          (fX6_sumOf w o 580).bind fun v10 =>
          some (v10, w)
        else
        if a1 = 3 then
          (fX6_cost w o).bind fun v12 =>
          some (v12, w)
        else
        if a1 = 4 then
          (fX6_seenMany w o).bind fun v14 =>
          some (v14, w)
        else
        if a1 = 5 then
          (fX6_toldMany w o).bind fun v16 =>
          some (v16, w)
        else
        if a1 = 6 then
          (ldI 706 w (o + 1) 562).bind fun v18 =>
          some (v18, w)
        else
        if a1 = 7 then
          (ldI 706 w (o + 1) 562).bind fun v20 =>
          if v20 = 1 then
            some ((-5), w)
          else
            (fX6_nextList w o).bind fun v22 =>
            some (v22, w)
        else
        if a1 = 8 then
          (fX6_boundsTogether w o).bind fun v24 =>
          some (v24, w)
        else
        if a1 = 9 then
          (fX6_reckon w o).bind fun w26 =>
          (fX6_toldMany w26 o).bind fun v27 =>
          if v27 = 0 then
            some (0, w26)
          else
            (fX6_toldMany w26 o).bind fun v29 =>
            (fX6_frontAt w26 o (v29 - 1)).bind fun v30 =>
            (ldI 60 w26 (o + 5) v30).bind fun v31 =>
            some (v31, w26)
        else
        if a1 = 10 then
          (fX6_sumOf w o 574).bind fun v33 =>
          some (v33, w)
        else
        if a1 = 11 then
          ob2 (fX6_toldNotWanted w o) fun v35 w36 =>
          some (v35, w36)
        else
        (fX6_tellLess w o).bind fun v37 =>
        some (v37, w)
    else
      some ((-2), w)
set_option maxRecDepth 4000 in
theorem eX6_reading {g : Gx} {E : Ex} (C : CC g E cX6_reading 2 RX6 6 139) (hR : RT g (some .int)) {o : Nat} (hO : shM E.2.2.2.2.2.1 o) (w : Wd) (a1 : Int32) : YO g E 2 (QI g E) (fX6_reading w o a1) w 0 [(0, .ref (E.2.2.2.2.1 + o)), (1, .int a1)] [] := by
  unfold fX6_reading
  refine y_iload_n (n := 1) C dX6_reading_0 1 rfl rfl ?_
  refine y_if_lt (tgt := 10) (n := 4) C dX6_reading_1 (by decide) rfl (fun h1 => ?_) (fun h1 => ?_)
  · refine y_bipush (n := 12) C ((-2) : Int32) dX6_reading_10 (by decide) rfl ?_
    exact y_ri C hR dX6_reading_12
  · refine y_iload_n (n := 5) C dX6_reading_4 1 rfl rfl ?_
    refine y_bipush (n := 7) C (12 : Int32) dX6_reading_5 (by decide) rfl ?_
    refine y_icmp_le (tgt := 13) (n := 10) C dX6_reading_7 (by decide) rfl (fun h2 => ?_) (fun h2 => ?_)
    · refine y_aload_n (n := 14) C dX6_reading_13 0 rfl rfl ?_
      refine y_get (ci := 6) (f := 0) (n := 17) C in_X6 hO.1 rfl (by decide) wd_731 rfl rfl dX6_reading_14 rfl ?_
      refine y_sipush (n := 20) C (559 : Int32) dX6_reading_17 (by decide) rfl ?_
      refine y_iald (n := 21) C hO.2.1 dX6_reading_20 rfl (fun v3 hv3 => ?_)
      refine y_if_ne (tgt := 27) (n := 24) C dX6_reading_21 (by decide) rfl (fun h4 => ?_) (fun h4 => ?_)
      · refine y_iload_n (n := 28) C dX6_reading_27 1 rfl rfl ?_
        refine y_if (fun h5 => ?_) (fun h5 => ?_)
        · refine y_swIn (tgt := 92) C 64 dX6_reading_28 (by rw [h5]; decide) (by rw [h5]; decide) (by rw [h5]; rfl) (by decide) ?_
          refine y_aload_n (n := 93) C dX6_reading_92 0 rfl rfl ?_
          refine y_get (ci := 6) (f := 0) (n := 96) C in_X6 hO.1 rfl (by decide) wd_731 rfl rfl dX6_reading_93 rfl ?_
          refine y_sipush (n := 99) C (564 : Int32) dX6_reading_96 (by decide) rfl ?_
          refine y_iald (n := 100) C hO.2.1 dX6_reading_99 rfl (fun v6 hv6 => ?_)
          exact y_ri C hR dX6_reading_100
        refine y_if (fun h7 => ?_) (fun h7 => ?_)
        · refine y_swIn (tgt := 101) C 73 dX6_reading_28 (by rw [h7]; decide) (by rw [h7]; decide) (by rw [h7]; rfl) (by decide) ?_
          refine y_aload_n (n := 102) C dX6_reading_101 0 rfl rfl ?_
          refine y_get (ci := 6) (f := 0) (n := 105) C in_X6 hO.1 rfl (by decide) wd_731 rfl rfl dX6_reading_102 rfl ?_
          refine y_sipush (n := 108) C (565 : Int32) dX6_reading_105 (by decide) rfl ?_
          refine y_iald (n := 109) C hO.2.1 dX6_reading_108 rfl (fun v8 hv8 => ?_)
          exact y_ri C hR dX6_reading_109
        refine y_if (fun h9 => ?_) (fun h9 => ?_)
        · refine y_swIn (tgt := 110) C 82 dX6_reading_28 (by rw [h9]; decide) (by rw [h9]; decide) (by rw [h9]; rfl) (by decide) ?_
          refine y_aload_n (n := 111) C dX6_reading_110 0 rfl rfl ?_
          refine y_sipush (n := 114) C (580 : Int32) dX6_reading_111 (by decide) rfl ?_
          refine y_cp (n := 117) C (fun r hr H locs la hP hS hl => y_runV (ci := 6) (st := []) C ky_X6_sumOf wd_1001 ⟨Nat.le_of_ble_eq_true rfl, Nat.le_of_ble_eq_true rfl⟩ hO.1 rfl (mX6_sumOf hO w 580 g.2.1 r hr) rfl (Nat.le_of_ble_eq_true rfl) rfl dX6_reading_114 hP hS hl) rfl (fun v10 hv10 => ?_)
          exact y_ri C hR dX6_reading_117
        refine y_if (fun h11 => ?_) (fun h11 => ?_)
        · refine y_swIn (tgt := 118) C 90 dX6_reading_28 (by rw [h11]; decide) (by rw [h11]; decide) (by rw [h11]; rfl) (by decide) ?_
          refine y_aload_n (n := 119) C dX6_reading_118 0 rfl rfl ?_
          refine y_cp (n := 122) C (fun r hr H locs la hP hS hl => y_runV (ci := 6) (st := []) C ky_X6_cost wd_1005 ⟨Nat.le_of_ble_eq_true rfl, Nat.le_of_ble_eq_true rfl⟩ hO.1 rfl (mX6_cost hO w g.2.1 r hr) rfl (Nat.le_of_ble_eq_true rfl) rfl dX6_reading_119 hP hS hl) rfl (fun v12 hv12 => ?_)
          exact y_ri C hR dX6_reading_122
        refine y_if (fun h13 => ?_) (fun h13 => ?_)
        · refine y_swIn (tgt := 123) C 95 dX6_reading_28 (by rw [h13]; decide) (by rw [h13]; decide) (by rw [h13]; rfl) (by decide) ?_
          refine y_aload_n (n := 124) C dX6_reading_123 0 rfl rfl ?_
          refine y_cp (n := 127) C (fun r hr H locs la hP hS hl => y_runV (ci := 6) (st := []) C ky_X6_seenMany wd_909 ⟨Nat.le_of_ble_eq_true rfl, Nat.le_of_ble_eq_true rfl⟩ hO.1 rfl (mX6_seenMany hO w g.2.1 r hr) rfl (Nat.le_of_ble_eq_true rfl) rfl dX6_reading_124 hP hS hl) rfl (fun v14 hv14 => ?_)
          exact y_ri C hR dX6_reading_127
        refine y_if (fun h15 => ?_) (fun h15 => ?_)
        · refine y_swIn (tgt := 128) C 100 dX6_reading_28 (by rw [h15]; decide) (by rw [h15]; decide) (by rw [h15]; rfl) (by decide) ?_
          refine y_aload_n (n := 129) C dX6_reading_128 0 rfl rfl ?_
          refine y_cp (n := 132) C (fun r hr H locs la hP hS hl => y_runV (ci := 6) (st := []) C ky_X6_toldMany wd_977 ⟨Nat.le_of_ble_eq_true rfl, Nat.le_of_ble_eq_true rfl⟩ hO.1 rfl (mX6_toldMany hO w g.2.1 r hr) rfl (Nat.le_of_ble_eq_true rfl) rfl dX6_reading_129 hP hS hl) rfl (fun v16 hv16 => ?_)
          exact y_ri C hR dX6_reading_132
        refine y_if (fun h17 => ?_) (fun h17 => ?_)
        · refine y_swIn (tgt := 133) C 105 dX6_reading_28 (by rw [h17]; decide) (by rw [h17]; decide) (by rw [h17]; rfl) (by decide) ?_
          refine y_aload_n (n := 134) C dX6_reading_133 0 rfl rfl ?_
          refine y_get (ci := 6) (f := 0) (n := 137) C in_X6 hO.1 rfl (by decide) wd_731 rfl rfl dX6_reading_134 rfl ?_
          refine y_sipush (n := 140) C (562 : Int32) dX6_reading_137 (by decide) rfl ?_
          refine y_iald (n := 141) C hO.2.1 dX6_reading_140 rfl (fun v18 hv18 => ?_)
          exact y_ri C hR dX6_reading_141
        refine y_if (fun h19 => ?_) (fun h19 => ?_)
        · refine y_swIn (tgt := 142) C 114 dX6_reading_28 (by rw [h19]; decide) (by rw [h19]; decide) (by rw [h19]; rfl) (by decide) ?_
          refine y_aload_n (n := 143) C dX6_reading_142 0 rfl rfl ?_
          refine y_get (ci := 6) (f := 0) (n := 146) C in_X6 hO.1 rfl (by decide) wd_731 rfl rfl dX6_reading_143 rfl ?_
          refine y_sipush (n := 149) C (562 : Int32) dX6_reading_146 (by decide) rfl ?_
          refine y_iald (n := 150) C hO.2.1 dX6_reading_149 rfl (fun v20 hv20 => ?_)
          refine y_iconst (n := 151) C (1 : Int32) dX6_reading_150 (by decide) rfl ?_
          refine y_icmp_ne (tgt := 159) (n := 154) C dX6_reading_151 (by decide) rfl (fun h21 => ?_) (fun h21 => ?_)
          · refine y_aload_n (n := 160) C dX6_reading_159 0 rfl rfl ?_
            refine y_cp (n := 163) C (fun r hr H locs la hP hS hl => y_runV (ci := 6) (st := []) C ky_X6_nextList wd_961 ⟨Nat.le_of_ble_eq_true rfl, Nat.le_of_ble_eq_true rfl⟩ hO.1 rfl (mX6_nextList hO w g.2.1 r hr) rfl (Nat.le_of_ble_eq_true rfl) rfl dX6_reading_160 hP hS hl) rfl (fun v22 hv22 => ?_)
            exact y_ri C hR dX6_reading_163
          · refine y_bipush (n := 156) C ((-5) : Int32) dX6_reading_154 (by decide) rfl ?_
            refine y_goto (tgt := 163) C dX6_reading_156 (by decide) ?_
            exact y_ri C hR dX6_reading_163
        refine y_if (fun h23 => ?_) (fun h23 => ?_)
        · refine y_swIn (tgt := 164) C 136 dX6_reading_28 (by rw [h23]; decide) (by rw [h23]; decide) (by rw [h23]; rfl) (by decide) ?_
          refine y_aload_n (n := 165) C dX6_reading_164 0 rfl rfl ?_
          refine y_cp (n := 168) C (fun r hr H locs la hP hS hl => y_runV (ci := 6) (st := []) C ky_X6_boundsTogether wd_937 ⟨Nat.le_of_ble_eq_true rfl, Nat.le_of_ble_eq_true rfl⟩ hO.1 rfl (mX6_boundsTogether hO w g.2.1 r hr) rfl (Nat.le_of_ble_eq_true rfl) rfl dX6_reading_165 hP hS hl) rfl (fun v24 hv24 => ?_)
          exact y_ri C hR dX6_reading_168
        refine y_if (fun h25 => ?_) (fun h25 => ?_)
        · refine y_swIn (tgt := 169) C 141 dX6_reading_28 (by rw [h25]; decide) (by rw [h25]; decide) (by rw [h25]; rfl) (by decide) ?_
          refine y_aload_n (n := 170) C dX6_reading_169 0 rfl rfl ?_
          refine y_cv (n := 173) C (fun r hr H locs la hP hS hl => y_runV (ci := 6) (st := []) C ky_X6_reckon wd_917 ⟨Nat.le_of_ble_eq_true rfl, Nat.le_of_ble_eq_true rfl⟩ hO.1 rfl (mX6_reckon hO w g.2.1 r hr) rfl (Nat.le_of_ble_eq_true rfl) rfl dX6_reading_170 hP hS hl) rfl (fun w26 hw26 => ?_)
          refine y_aload_n (n := 174) C dX6_reading_173 0 rfl rfl ?_
          refine y_cp (n := 177) C (fun r hr H locs la hP hS hl => y_runV (ci := 6) (st := []) C ky_X6_toldMany wd_977 ⟨Nat.le_of_ble_eq_true rfl, Nat.le_of_ble_eq_true rfl⟩ hO.1 rfl (mX6_toldMany hO w26 g.2.1 r hr) rfl (Nat.le_of_ble_eq_true rfl) rfl dX6_reading_174 hP hS hl) rfl (fun v27 hv27 => ?_)
          refine y_if_ne (tgt := 184) (n := 180) C dX6_reading_177 (by decide) rfl (fun h28 => ?_) (fun h28 => ?_)
          · refine y_aload_n (n := 185) C dX6_reading_184 0 rfl rfl ?_
            refine y_get (ci := 6) (f := 4) (n := 188) C in_X6 hO.1 rfl (by decide) wd_735 rfl rfl dX6_reading_185 rfl ?_
            refine y_aload_n (n := 189) C dX6_reading_188 0 rfl rfl ?_
            refine y_aload_n (n := 190) C dX6_reading_189 0 rfl rfl ?_
            refine y_cp (n := 193) C (fun r hr H locs la hP hS hl => y_runV (ci := 6) (st := [.ref (E.2.2.2.2.1 + o), .ref (E.2.2.2.2.1 + (o + 5))]) C ky_X6_toldMany wd_977 ⟨Nat.le_of_ble_eq_true rfl, Nat.le_of_ble_eq_true rfl⟩ hO.1 rfl (mX6_toldMany hO w26 g.2.1 r hr) rfl (Nat.le_of_ble_eq_true rfl) rfl dX6_reading_190 hP hS hl) rfl (fun v29 hv29 => ?_)
            refine y_iconst (n := 194) C (1 : Int32) dX6_reading_193 (by decide) rfl ?_
            refine y_isub (n := 195) C dX6_reading_194 rfl ?_
            refine y_cp (n := 198) C (fun r hr H locs la hP hS hl => y_runV (ci := 6) (st := [.ref (E.2.2.2.2.1 + (o + 5))]) C ky_X6_frontAt wd_929 ⟨Nat.le_of_ble_eq_true rfl, Nat.le_of_ble_eq_true rfl⟩ hO.1 rfl (mX6_frontAt hO w26 (v29 - 1) g.2.1 r hr) rfl (Nat.le_of_ble_eq_true rfl) rfl dX6_reading_195 hP hS hl) rfl (fun v30 hv30 => ?_)
            refine y_iald (n := 199) C hO.2.2.2.2.2.1 dX6_reading_198 rfl (fun v31 hv31 => ?_)
            exact y_ri C hR dX6_reading_199
          · refine y_iconst (n := 181) C (0 : Int32) dX6_reading_180 (by decide) rfl ?_
            refine y_goto (tgt := 199) C dX6_reading_181 (by decide) ?_
            exact y_ri C hR dX6_reading_199
        refine y_if (fun h32 => ?_) (fun h32 => ?_)
        · refine y_swIn (tgt := 200) C 172 dX6_reading_28 (by rw [h32]; decide) (by rw [h32]; decide) (by rw [h32]; rfl) (by decide) ?_
          refine y_aload_n (n := 201) C dX6_reading_200 0 rfl rfl ?_
          refine y_sipush (n := 204) C (574 : Int32) dX6_reading_201 (by decide) rfl ?_
          refine y_cp (n := 207) C (fun r hr H locs la hP hS hl => y_runV (ci := 6) (st := []) C ky_X6_sumOf wd_1001 ⟨Nat.le_of_ble_eq_true rfl, Nat.le_of_ble_eq_true rfl⟩ hO.1 rfl (mX6_sumOf hO w 574 g.2.1 r hr) rfl (Nat.le_of_ble_eq_true rfl) rfl dX6_reading_204 hP hS hl) rfl (fun v33 hv33 => ?_)
          exact y_ri C hR dX6_reading_207
        refine y_if (fun h34 => ?_) (fun h34 => ?_)
        · refine y_swIn (tgt := 208) C 180 dX6_reading_28 (by rw [h34]; decide) (by rw [h34]; decide) (by rw [h34]; rfl) (by decide) ?_
          refine y_aload_n (n := 209) C dX6_reading_208 0 rfl rfl ?_
          refine y_ci2 (n := 212) C (fun r hr H locs la hP hS hl => y_runV (ci := 6) (st := []) C ky_X6_toldNotWanted wd_1009 ⟨Nat.le_of_ble_eq_true rfl, Nat.le_of_ble_eq_true rfl⟩ hO.1 rfl (mX6_toldNotWanted hO w g.2.1 r hr) rfl (Nat.le_of_ble_eq_true rfl) rfl dX6_reading_209 hP hS hl) rfl (fun v35 w36 hv35 => ?_)
          exact y_ri C hR dX6_reading_212
        refine y_swOut (tgt := 213) C dX6_reading_28 (by have gh5 := sw_ne (k := 0) (by decide) h5; have gh7 := sw_ne (k := 1) (by decide) h7; have gh9 := sw_ne (k := 2) (by decide) h9; have gh11 := sw_ne (k := 3) (by decide) h11; have gh13 := sw_ne (k := 4) (by decide) h13; have gh15 := sw_ne (k := 5) (by decide) h15; have gh17 := sw_ne (k := 6) (by decide) h17; have gh19 := sw_ne (k := 7) (by decide) h19; have gh23 := sw_ne (k := 8) (by decide) h23; have gh25 := sw_ne (k := 9) (by decide) h25; have gh32 := sw_ne (k := 10) (by decide) h32; have gh34 := sw_ne (k := 11) (by decide) h34; omega) (by decide) ?_
        refine y_aload_n (n := 214) C dX6_reading_213 0 rfl rfl ?_
        refine y_cp (n := 217) C (fun r hr H locs la hP hS hl => y_runV (ci := 6) (st := []) C ky_X6_tellLess wd_1013 ⟨Nat.le_of_ble_eq_true rfl, Nat.le_of_ble_eq_true rfl⟩ hO.1 rfl (mX6_tellLess hO w g.2.1 r hr) rfl (Nat.le_of_ble_eq_true rfl) rfl dX6_reading_214 hP hS hl) rfl (fun v37 hv37 => ?_)
        exact y_ri C hR dX6_reading_217
      · refine y_bipush (n := 26) C ((-4) : Int32) dX6_reading_24 (by decide) rfl ?_
        exact y_ri C hR dX6_reading_26
    · refine y_bipush (n := 12) C ((-2) : Int32) dX6_reading_10 (by decide) rfl ?_
      exact y_ri C hR dX6_reading_12
theorem mX6_reading {E : Ex} {o : Nat} (hO : shM E.2.2.2.2.2.1 o) (w : Wd) (a1 : Int32) (l : Launch) : MI l yX6_reading cX6_reading 2 (some .int) { frames := 6, cells := 0, slots := 0, locals := 139 } E [.ref (E.2.2.2.2.1 + o), .int a1] w (fX6_reading w o a1) :=
  y_met (Qc := yQi E) (by decide +kernel) (Nat.le_of_ble_eq_true rfl) (fun g C hR => eX6_reading C hR hO w a1) l
def lX6_restore_16 (o : Nat) : Nat → Wd → Int32 → Option (Int32 × Wd)
  | 0, _, _ => none
  | n + 1, w, x1 =>
    if 706 ≤ x1 then
      (fX6_entries w o).bind fun v4 =>
      some (v4, w)
    else
      (ldI 706 w (o + 3) x1).bind fun v5 =>
      (stI 706 w (o + 1) x1 v5).bind fun w6 =>
      lX6_restore_16 o n w6 (x1 + 1)
set_option maxRecDepth 4000 in
theorem clX6_restore_16 {g : Gx} {E : Ex} (C : CC g E cX6_restore 2 RX6 1 22) (hR : RT g (some .int)) {o : Nat} (hO : shM E.2.2.2.2.2.1 o) : ∀ (n : Nat) (w : Wd) (x1 : Int32), YO g E 2 (QI g E) (lX6_restore_16 o n w x1) w 16 [(0, .ref (E.2.2.2.2.1 + o)), (1, .int x1)] [] := by
  intro n
  induction n with
  | zero => intro w x1; exact y_no
  | succ n ih =>
    intro w x1
    rw [lX6_restore_16]
    refine y_iload_n (n := 17) C dX6_restore_16 1 rfl rfl ?_
    refine y_sipush (n := 20) C (706 : Int32) dX6_restore_17 (by decide) rfl ?_
    refine y_icmp_ge (tgt := 41) (n := 23) C dX6_restore_20 (by decide) rfl (fun h3 => ?_) (fun h3 => ?_)
    · refine y_aload_n (n := 42) C dX6_restore_41 0 rfl rfl ?_
      refine y_cp (n := 45) C (fun r hr H locs la hP hS hl => y_runV (ci := 6) (st := []) C ky_X6_entries wd_776 ⟨Nat.le_of_ble_eq_true rfl, Nat.le_of_ble_eq_true rfl⟩ hO.1 rfl (mX6_entries hO w g.2.1 r hr) rfl (Nat.le_of_ble_eq_true rfl) rfl dX6_restore_42 hP hS hl) rfl (fun v4 hv4 => ?_)
      exact y_ri C hR dX6_restore_45
    · refine y_aload_n (n := 24) C dX6_restore_23 0 rfl rfl ?_
      refine y_get (ci := 6) (f := 0) (n := 27) C in_X6 hO.1 rfl (by decide) wd_731 rfl rfl dX6_restore_24 rfl ?_
      refine y_iload_n (n := 28) C dX6_restore_27 1 rfl rfl ?_
      refine y_aload_n (n := 29) C dX6_restore_28 0 rfl rfl ?_
      refine y_get (ci := 6) (f := 2) (n := 32) C in_X6 hO.1 rfl (by decide) wd_733 rfl rfl dX6_restore_29 rfl ?_
      refine y_iload_n (n := 33) C dX6_restore_32 1 rfl rfl ?_
      refine y_iald (n := 34) C hO.2.2.2.1 dX6_restore_33 rfl (fun v5 hv5 => ?_)
      refine y_iast (n := 35) C hO.2.1 dX6_restore_34 rfl (fun w6 hw6 => ?_)
      refine y_iinc (n := 38) (v := x1 + 1) (ls' := [(1, .int (x1 + 1)), (0, .ref (E.2.2.2.2.1 + o))]) C dX6_restore_35 1 rfl rfl (by decide) rfl rfl ?_
      refine y_goto (tgt := 16) C dX6_restore_38 (by decide) ?_
      refine y_ls [1, 0] rfl ?_
      exact ih w6 (x1 + 1)
def fX6_restore (w : Wd) (o : Nat)  : Option (Int32 × Wd) :=
  if (bz (w.1 o 6)) = 0 then
    some ((-5), w)
  else
    (fX6_record w o).bind fun w2 =>
    lX6_restore_16 o 4096 w2 0
set_option maxRecDepth 4000 in
theorem eX6_restore {g : Gx} {E : Ex} (C : CC g E cX6_restore 2 RX6 1 22) (hR : RT g (some .int)) {o : Nat} (hO : shM E.2.2.2.2.2.1 o) (w : Wd)  : YO g E 2 (QI g E) (fX6_restore w o) w 0 [(0, .ref (E.2.2.2.2.1 + o))] [] := by
  unfold fX6_restore
  refine y_aload_n (n := 1) C dX6_restore_0 0 rfl rfl ?_
  refine y_get (ci := 6) (f := 6) (n := 4) C in_X6 hO.1 rfl (by decide) wd_737 rfl rfl dX6_restore_1 rfl ?_
  refine y_if_ne (tgt := 10) (n := 7) C dX6_restore_4 (by decide) rfl (fun h1 => ?_) (fun h1 => ?_)
  · refine y_aload_n (n := 11) C dX6_restore_10 0 rfl rfl ?_
    refine y_cv (n := 14) C (fun r hr H locs la hP hS hl => y_runV (ci := 6) (st := []) C ky_X6_record wd_784 ⟨Nat.le_of_ble_eq_true rfl, Nat.le_of_ble_eq_true rfl⟩ hO.1 rfl (mX6_record hO w g.2.1 r hr) rfl (Nat.le_of_ble_eq_true rfl) rfl dX6_restore_11 hP hS hl) rfl (fun w2 hw2 => ?_)
    refine y_iconst (n := 15) C (0 : Int32) dX6_restore_14 (by decide) rfl ?_
    refine y_istore_n (n := 16) (ls' := [(1, .int 0), (0, .ref (E.2.2.2.2.1 + o))]) C dX6_restore_15 (by decide) rfl rfl ?_
    refine y_ls [1, 0] rfl ?_
    exact clX6_restore_16 C hR hO 4096 w2 0
  · refine y_bipush (n := 9) C ((-5) : Int32) dX6_restore_7 (by decide) rfl ?_
    exact y_ri C hR dX6_restore_9
theorem mX6_restore {E : Ex} {o : Nat} (hO : shM E.2.2.2.2.2.1 o) (w : Wd)  (l : Launch) : MI l yX6_restore cX6_restore 2 (some .int) { frames := 1, cells := 0, slots := 0, locals := 22 } E [.ref (E.2.2.2.2.1 + o)] w (fX6_restore w o) :=
  y_met (Qc := yQi E) (by decide +kernel) (Nat.le_of_ble_eq_true rfl) (fun g C hR => eX6_restore C hR hO w ) l
