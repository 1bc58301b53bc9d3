/-! X6_entries X6_wantedMany X6_count X6_delete X6_document X6_drop X6_want X6_weight X6_does X6_toldMany X6_end X6_entry X6_isDigit X6_isSmall X6_spells X6_isWord -/
def lX6_entries_4 (o : Nat) : Nat → Wd → Int32 → Int32 → Option (Int32)
  | 0, _, _, _ => none
  | n + 1, w, x1, x2 =>
    if 6 ≤ x2 then
      some x1
    else
      (ldI 706 w (o + 1) (480 + x2)).bind fun v2 =>
      lX6_entries_4 o n w (x1 + v2) (x2 + 1)
set_option maxRecDepth 4000 in
theorem clX6_entries_4 {g : Gx} {E : Ex} (C : CC g E cX6_entries 3 RX6 0 0) (hR : RT g (some .int)) {o : Nat} (hO : shM E.2.2.2.2.2.1 o) (w : Wd) : ∀ (n : Nat) (x1 : Int32) (x2 : Int32), YO g E 3 (QP g E w) (lX6_entries_4 o n w x1 x2) w 4 [(0, .ref (E.2.2.2.2.1 + o)), (1, .int x1), (2, .int x2)] [] := by
  intro n
  induction n with
  | zero => intro x1 x2; exact y_no
  | succ n ih =>
    intro x1 x2
    rw [lX6_entries_4]
    refine y_iload_n (n := 5) C dX6_entries_4 2 rfl rfl ?_
    refine y_bipush (n := 7) C (6 : Int32) dX6_entries_5 (by decide) rfl ?_
    refine y_icmp_ge (tgt := 29) (n := 10) C dX6_entries_7 (by decide) rfl (fun h1 => ?_) (fun h1 => ?_)
    · refine y_iload_n (n := 30) C dX6_entries_29 1 rfl rfl ?_
      exact y_rp C hR dX6_entries_30
    · refine y_iload_n (n := 11) C dX6_entries_10 1 rfl rfl ?_
      refine y_aload_n (n := 12) C dX6_entries_11 0 rfl rfl ?_
      refine y_get (ci := 6) (f := 0) (n := 15) C in_X6 hO.1 rfl (by decide) wd_731 rfl rfl dX6_entries_12 rfl ?_
      refine y_sipush (n := 18) C (480 : Int32) dX6_entries_15 (by decide) rfl ?_
      refine y_iload_n (n := 19) C dX6_entries_18 2 rfl rfl ?_
      refine y_iadd (n := 20) C dX6_entries_19 rfl ?_
      refine y_iald (n := 21) C hO.2.1 dX6_entries_20 rfl (fun v2 hv2 => ?_)
      refine y_iadd (n := 22) C dX6_entries_21 rfl ?_
      refine y_istore_n (n := 23) (ls' := [(1, .int (x1 + v2)), (0, .ref (E.2.2.2.2.1 + o)), (2, .int x2)]) C dX6_entries_22 (by decide) rfl rfl ?_
      refine y_iinc (n := 26) (v := x2 + 1) (ls' := [(2, .int (x2 + 1)), (1, .int (x1 + v2)), (0, .ref (E.2.2.2.2.1 + o))]) C dX6_entries_23 2 rfl rfl (by decide) rfl rfl ?_
      refine y_goto (tgt := 4) C dX6_entries_26 (by decide) ?_
      refine y_ls [2, 1, 0] rfl ?_
      exact ih (x1 + v2) (x2 + 1)
def fX6_entries (w : Wd) (o : Nat)  : Option (Int32) :=
  lX6_entries_4 o 4096 w 0 0
set_option maxRecDepth 4000 in
theorem eX6_entries {g : Gx} {E : Ex} (C : CC g E cX6_entries 3 RX6 0 0) (hR : RT g (some .int)) {o : Nat} (hO : shM E.2.2.2.2.2.1 o) (w : Wd)  : YO g E 3 (QP g E w) (fX6_entries w o) w 0 [(0, .ref (E.2.2.2.2.1 + o))] [] := by
  unfold fX6_entries
  refine y_iconst (n := 1) C (0 : Int32) dX6_entries_0 (by decide) rfl ?_
  refine y_istore_n (n := 2) (ls' := [(1, .int 0), (0, .ref (E.2.2.2.2.1 + o))]) C dX6_entries_1 (by decide) rfl rfl ?_
  refine y_iconst (n := 3) C (0 : Int32) dX6_entries_2 (by decide) rfl ?_
  refine y_istore_n (n := 4) (ls' := [(2, .int 0), (1, .int 0), (0, .ref (E.2.2.2.2.1 + o))]) C dX6_entries_3 (by decide) rfl rfl ?_
  refine y_ls [2, 1, 0] rfl ?_
  exact clX6_entries_4 C hR hO w 4096 0 0
theorem mX6_entries {E : Ex} {o : Nat} (hO : shM E.2.2.2.2.2.1 o) (w : Wd)  (l : Launch) : MP l yX6_entries cX6_entries 3 (some .int) { frames := 0, cells := 0, slots := 0, locals := 0 } E [.ref (E.2.2.2.2.1 + o)] w (fX6_entries w o) :=
  y_met (Qc := fun r => yQi E (r, w)) (by decide +kernel) (Nat.le_of_ble_eq_true rfl) (fun g C hR => eX6_entries C hR hO w ) l
def lX6_wantedMany_4 (o : Nat) : Nat → Wd → Int32 → Int32 → Option (Int32)
  | 0, _, _, _ => none
  | n + 1, w, x1, x2 =>
    if 60 ≤ x2 then
      (ldI 706 w (o + 1) 558).bind fun v2 =>
      if v2 ≤ x1 then
        (ldI 706 w (o + 1) 558).bind fun v4 =>
        some v4
      else
        some x1
    else
      (fX6_mayBeWanted w o x2).bind fun v5 =>
      if v5 = 0 then
        lX6_wantedMany_4 o n w (x1 + 0) (x2 + 1)
      else
        lX6_wantedMany_4 o n w (x1 + 1) (x2 + 1)
set_option maxRecDepth 4000 in
theorem clX6_wantedMany_4 {g : Gx} {E : Ex} (C : CC g E cX6_wantedMany 3 RX6 4 91) (hR : RT g (some .int)) {o : Nat} (hO : shM E.2.2.2.2.2.1 o) (w : Wd) : ∀ (n : Nat) (x1 : Int32) (x2 : Int32), YO g E 3 (QP g E w) (lX6_wantedMany_4 o n w x1 x2) w 4 [(0, .ref (E.2.2.2.2.1 + o)), (1, .int x1), (2, .int x2)] [] := by
  intro n
  induction n with
  | zero => intro x1 x2; exact y_no
  | succ n ih =>
    intro x1 x2
    rw [lX6_wantedMany_4]
    refine y_iload_n (n := 5) C dX6_wantedMany_4 2 rfl rfl ?_
    refine y_bipush (n := 7) C (60 : Int32) dX6_wantedMany_5 (by decide) rfl ?_
    refine y_icmp_ge (tgt := 32) (n := 10) C dX6_wantedMany_7 (by decide) rfl (fun h1 => ?_) (fun h1 => ?_)
    · refine y_iload_n (n := 33) C dX6_wantedMany_32 1 rfl rfl ?_
      refine y_aload_n (n := 34) C dX6_wantedMany_33 0 rfl rfl ?_
      refine y_get (ci := 6) (f := 0) (n := 37) C in_X6 hO.1 rfl (by decide) wd_731 rfl rfl dX6_wantedMany_34 rfl ?_
      refine y_sipush (n := 40) C (558 : Int32) dX6_wantedMany_37 (by decide) rfl ?_
      refine y_iald (n := 41) C hO.2.1 dX6_wantedMany_40 rfl (fun v2 hv2 => ?_)
      refine y_icmp_ge (tgt := 48) (n := 44) C dX6_wantedMany_41 (by decide) rfl (fun h3 => ?_) (fun h3 => ?_)
      · refine y_aload_n (n := 49) C dX6_wantedMany_48 0 rfl rfl ?_
        refine y_get (ci := 6) (f := 0) (n := 52) C in_X6 hO.1 rfl (by decide) wd_731 rfl rfl dX6_wantedMany_49 rfl ?_
        refine y_sipush (n := 55) C (558 : Int32) dX6_wantedMany_52 (by decide) rfl ?_
        refine y_iald (n := 56) C hO.2.1 dX6_wantedMany_55 rfl (fun v4 hv4 => ?_)
        exact y_rp C hR dX6_wantedMany_56
      · refine y_iload_n (n := 45) C dX6_wantedMany_44 1 rfl rfl ?_
        refine y_goto (tgt := 56) C dX6_wantedMany_45 (by decide) ?_
        exact y_rp C hR dX6_wantedMany_56
    · refine y_iload_n (n := 11) C dX6_wantedMany_10 1 rfl rfl ?_
      refine y_aload_n (n := 12) C dX6_wantedMany_11 0 rfl rfl ?_
      refine y_iload_n (n := 13) C dX6_wantedMany_12 2 rfl rfl ?_
      refine y_cp (n := 16) C (fun r hr H locs la hP hS hl => y_runV (ci := 6) (st := [.int x1]) C ky_X6_mayBeWanted wd_857 ⟨Nat.le_of_ble_eq_true rfl, Nat.le_of_ble_eq_true rfl⟩ hO.1 rfl (mX6_mayBeWanted hO w x2 g.2.1 r hr) rfl (Nat.le_of_ble_eq_true rfl) rfl dX6_wantedMany_13 hP hS hl) rfl (fun v5 hv5 => ?_)
      refine y_if_eq (tgt := 23) (n := 19) C dX6_wantedMany_16 (by decide) rfl (fun h6 => ?_) (fun h6 => ?_)
      · refine y_iconst (n := 24) C (0 : Int32) dX6_wantedMany_23 (by decide) rfl ?_
        refine y_iadd (n := 25) C dX6_wantedMany_24 rfl ?_
        refine y_istore_n (n := 26) (ls' := [(1, .int (x1 + 0)), (0, .ref (E.2.2.2.2.1 + o)), (2, .int x2)]) C dX6_wantedMany_25 (by decide) rfl rfl ?_
        refine y_iinc (n := 29) (v := x2 + 1) (ls' := [(2, .int (x2 + 1)), (1, .int (x1 + 0)), (0, .ref (E.2.2.2.2.1 + o))]) C dX6_wantedMany_26 2 rfl rfl (by decide) rfl rfl ?_
        refine y_goto (tgt := 4) C dX6_wantedMany_29 (by decide) ?_
        refine y_ls [2, 1, 0] rfl ?_
        exact ih (x1 + 0) (x2 + 1)
      · refine y_iconst (n := 20) C (1 : Int32) dX6_wantedMany_19 (by decide) rfl ?_
        refine y_goto (tgt := 24) C dX6_wantedMany_20 (by decide) ?_
        refine y_iadd (n := 25) C dX6_wantedMany_24 rfl ?_
        refine y_istore_n (n := 26) (ls' := [(1, .int (x1 + 1)), (0, .ref (E.2.2.2.2.1 + o)), (2, .int x2)]) C dX6_wantedMany_25 (by decide) rfl rfl ?_
        refine y_iinc (n := 29) (v := x2 + 1) (ls' := [(2, .int (x2 + 1)), (1, .int (x1 + 1)), (0, .ref (E.2.2.2.2.1 + o))]) C dX6_wantedMany_26 2 rfl rfl (by decide) rfl rfl ?_
        refine y_goto (tgt := 4) C dX6_wantedMany_29 (by decide) ?_
        refine y_ls [2, 1, 0] rfl ?_
        exact ih (x1 + 1) (x2 + 1)
def fX6_wantedMany (w : Wd) (o : Nat)  : Option (Int32) :=
  lX6_wantedMany_4 o 4096 w 0 0
set_option maxRecDepth 4000 in
theorem eX6_wantedMany {g : Gx} {E : Ex} (C : CC g E cX6_wantedMany 3 RX6 4 91) (hR : RT g (some .int)) {o : Nat} (hO : shM E.2.2.2.2.2.1 o) (w : Wd)  : YO g E 3 (QP g E w) (fX6_wantedMany w o) w 0 [(0, .ref (E.2.2.2.2.1 + o))] [] := by
  unfold fX6_wantedMany
  refine y_iconst (n := 1) C (0 : Int32) dX6_wantedMany_0 (by decide) rfl ?_
  refine y_istore_n (n := 2) (ls' := [(1, .int 0), (0, .ref (E.2.2.2.2.1 + o))]) C dX6_wantedMany_1 (by decide) rfl rfl ?_
  refine y_iconst (n := 3) C (0 : Int32) dX6_wantedMany_2 (by decide) rfl ?_
  refine y_istore_n (n := 4) (ls' := [(2, .int 0), (1, .int 0), (0, .ref (E.2.2.2.2.1 + o))]) C dX6_wantedMany_3 (by decide) rfl rfl ?_
  refine y_ls [2, 1, 0] rfl ?_
  exact clX6_wantedMany_4 C hR hO w 4096 0 0
theorem mX6_wantedMany {E : Ex} {o : Nat} (hO : shM E.2.2.2.2.2.1 o) (w : Wd)  (l : Launch) : MP l yX6_wantedMany cX6_wantedMany 3 (some .int) { frames := 4, cells := 0, slots := 0, locals := 91 } E [.ref (E.2.2.2.2.1 + o)] w (fX6_wantedMany w o) :=
  y_met (Qc := fun r => yQi E (r, w)) (by decide +kernel) (Nat.le_of_ble_eq_true rfl) (fun g C hR => eX6_wantedMany C hR hO w ) l
def lX6_count_87 (o : Nat) : Nat → Wd → Int32 → Int32 → Option (Int32)
  | 0, _, _, _ => none
  | n + 1, w, x2, x3 =>
    if 60 ≤ x3 then
      some x2
    else
      (ldI 706 w (o + 1) (498 + x3)).bind fun v11 =>
      lX6_count_87 o n w (x2 + v11) (x3 + 1)
set_option maxRecDepth 4000 in
theorem clX6_count_87 {g : Gx} {E : Ex} (C : CC g E cX6_count 4 RX6 5 113) (hR : RT g (some .int)) {o : Nat} (hO : shM E.2.2.2.2.2.1 o) (w : Wd) : ∀ (n : Nat) (x2 : Int32) (x3 : Int32), YO g E 4 (QP g E w) (lX6_count_87 o n w x2 x3) w 87 [(0, .ref (E.2.2.2.2.1 + o)), (2, .int x2), (3, .int x3)] [] := by
  intro n
  induction n with
  | zero => intro x2 x3; exact y_no
  | succ n ih =>
    intro x2 x3
    rw [lX6_count_87]
    refine y_iload_n (n := 88) C dX6_count_87 2 rfl rfl ?_
    refine y_bipush (n := 90) C (60 : Int32) dX6_count_88 (by decide) rfl ?_
    refine y_icmp_ge (tgt := 112) (n := 93) C dX6_count_90 (by decide) rfl (fun h10 => ?_) (fun h10 => ?_)
    · refine y_iload_n (n := 113) C dX6_count_112 1 rfl rfl ?_
      exact y_rp C hR dX6_count_113
    · refine y_iload_n (n := 94) C dX6_count_93 1 rfl rfl ?_
      refine y_aload_n (n := 95) C dX6_count_94 0 rfl rfl ?_
      refine y_get (ci := 6) (f := 0) (n := 98) C in_X6 hO.1 rfl (by decide) wd_731 rfl rfl dX6_count_95 rfl ?_
      refine y_sipush (n := 101) C (498 : Int32) dX6_count_98 (by decide) rfl ?_
      refine y_iload_n (n := 102) C dX6_count_101 2 rfl rfl ?_
      refine y_iadd (n := 103) C dX6_count_102 rfl ?_
      refine y_iald (n := 104) C hO.2.1 dX6_count_103 rfl (fun v11 hv11 => ?_)
      refine y_iadd (n := 105) C dX6_count_104 rfl ?_
      refine y_istore_n (n := 106) (ls' := [(2, .int (x2 + v11)), (0, .ref (E.2.2.2.2.1 + o)), (3, .int x3)]) C dX6_count_105 (by decide) rfl rfl ?_
      refine y_iinc (n := 109) (v := x3 + 1) (ls' := [(3, .int (x3 + 1)), (2, .int (x2 + v11)), (0, .ref (E.2.2.2.2.1 + o))]) C dX6_count_106 2 rfl rfl (by decide) rfl rfl ?_
      refine y_goto (tgt := 87) C dX6_count_109 (by decide) ?_
      refine y_ls [2, 1, 0] rfl ?_
      exact ih (x2 + v11) (x3 + 1)
def fX6_count (w : Wd) (o : Nat) (a1 : Int32) : Option (Int32) :=
  if a1 < 0 then
    some (-2)
  else
    if a1 ≤ 9 then
      if a1 = 0 then
        (fX6_entries w o).bind fun v4 =>
        some v4
      else
      if a1 = 1 then
        (fX6_asked w o).bind fun v6 =>
        some v6
      else
      if a1 = 2 then
        (ldI 706 w (o + 1) 558).bind fun v8 =>
        some v8
      else
      if a1 = 3 then
        lX6_count_87 o 4096 w 0 0
      else
      if a1 = 4 then
        (fX6_wantedMany w o).bind fun v13 =>
        some v13
      else
      if a1 = 5 then
        (ldI 706 w (o + 1) 559).bind fun v15 =>
        some v15
      else
      if a1 = 6 then
        (ldI 706 w (o + 1) 566).bind fun v17 =>
        some v17
      else
      if a1 = 7 then
        (ldI 706 w (o + 1) 567).bind fun v19 =>
        some v19
      else
      if a1 = 8 then
        some (w.1 o 5)
      else
      some (w.1 o 8)
    else
      some (-2)
set_option maxRecDepth 4000 in
theorem eX6_count {g : Gx} {E : Ex} (C : CC g E cX6_count 4 RX6 5 113) (hR : RT g (some .int)) {o : Nat} (hO : shM E.2.2.2.2.2.1 o) (w : Wd) (a1 : Int32) : YO g E 4 (QP g E w) (fX6_count w o a1) w 0 [(0, .ref (E.2.2.2.2.1 + o)), (1, .int a1)] [] := by
  unfold fX6_count
  refine y_iload_n (n := 1) C dX6_count_0 1 rfl rfl ?_
  refine y_if_lt (tgt := 10) (n := 4) C dX6_count_1 (by decide) rfl (fun h1 => ?_) (fun h1 => ?_)
  · refine y_bipush (n := 12) C ((-2) : Int32) dX6_count_10 (by decide) rfl ?_
    exact y_rp C hR dX6_count_12
  · refine y_iload_n (n := 5) C dX6_count_4 1 rfl rfl ?_
    refine y_bipush (n := 7) C (9 : Int32) dX6_count_5 (by decide) rfl ?_
    refine y_icmp_le (tgt := 13) (n := 10) C dX6_count_7 (by decide) rfl (fun h2 => ?_) (fun h2 => ?_)
    · refine y_iload_n (n := 14) C dX6_count_13 1 rfl rfl ?_
      refine y_if (fun h3 => ?_) (fun h3 => ?_)
      · refine y_swIn (tgt := 64) C 50 dX6_count_14 (by rw [h3]; decide) (by rw [h3]; decide) (by rw [h3]; rfl) (by decide) ?_
        refine y_aload_n (n := 65) C dX6_count_64 0 rfl rfl ?_
        refine y_cp (n := 68) C (fun r hr H locs la hP hS hl => y_runV (ci := 6) (st := []) C ky_X6_entries wd_776 ⟨Nat.le_of_ble_eq_true rfl, Nat.le_of_ble_eq_true rfl⟩ hO.1 rfl (mX6_entries hO w g.2.1 r hr) rfl (Nat.le_of_ble_eq_true rfl) rfl dX6_count_65 hP hS hl) rfl (fun v4 hv4 => ?_)
        exact y_rp C hR dX6_count_68
      refine y_if (fun h5 => ?_) (fun h5 => ?_)
      · refine y_swIn (tgt := 69) C 55 dX6_count_14 (by rw [h5]; decide) (by rw [h5]; decide) (by rw [h5]; rfl) (by decide) ?_
        refine y_aload_n (n := 70) C dX6_count_69 0 rfl rfl ?_
        refine y_cp (n := 73) C (fun r hr H locs la hP hS hl => y_runV (ci := 6) (st := []) C ky_X6_asked wd_885 ⟨Nat.le_of_ble_eq_true rfl, Nat.le_of_ble_eq_true rfl⟩ hO.1 rfl (mX6_asked hO w g.2.1 r hr) rfl (Nat.le_of_ble_eq_true rfl) rfl dX6_count_70 hP hS hl) rfl (fun v6 hv6 => ?_)
        exact y_rp C hR dX6_count_73
      refine y_if (fun h7 => ?_) (fun h7 => ?_)
      · refine y_swIn (tgt := 74) C 60 dX6_count_14 (by rw [h7]; decide) (by rw [h7]; decide) (by rw [h7]; rfl) (by decide) ?_
        refine y_aload_n (n := 75) C dX6_count_74 0 rfl rfl ?_
        refine y_get (ci := 6) (f := 0) (n := 78) C in_X6 hO.1 rfl (by decide) wd_731 rfl rfl dX6_count_75 rfl ?_
        refine y_sipush (n := 81) C (558 : Int32) dX6_count_78 (by decide) rfl ?_
        refine y_iald (n := 82) C hO.2.1 dX6_count_81 rfl (fun v8 hv8 => ?_)
        exact y_rp C hR dX6_count_82
      refine y_if (fun h9 => ?_) (fun h9 => ?_)
      · refine y_swIn (tgt := 83) C 69 dX6_count_14 (by rw [h9]; decide) (by rw [h9]; decide) (by rw [h9]; rfl) (by decide) ?_
        refine y_iconst (n := 84) C (0 : Int32) dX6_count_83 (by decide) rfl ?_
        refine y_istore_n (n := 85) (ls' := [(2, .int 0), (0, .ref (E.2.2.2.2.1 + o)), (1, .int a1)]) C dX6_count_84 (by decide) rfl rfl ?_
        refine y_iconst (n := 86) C (0 : Int32) dX6_count_85 (by decide) rfl ?_
        refine y_istore_n (n := 87) (ls' := [(3, .int 0), (2, .int 0), (0, .ref (E.2.2.2.2.1 + o)), (1, .int a1)]) C dX6_count_86 (by decide) rfl rfl ?_
        refine y_ls [2, 1, 0] rfl ?_
        exact clX6_count_87 C hR hO w 4096 0 0
      refine y_if (fun h12 => ?_) (fun h12 => ?_)
      · refine y_swIn (tgt := 114) C 100 dX6_count_14 (by rw [h12]; decide) (by rw [h12]; decide) (by rw [h12]; rfl) (by decide) ?_
        refine y_aload_n (n := 115) C dX6_count_114 0 rfl rfl ?_
        refine y_cp (n := 118) C (fun r hr H locs la hP hS hl => y_runV (ci := 6) (st := []) C ky_X6_wantedMany wd_1033 ⟨Nat.le_of_ble_eq_true rfl, Nat.le_of_ble_eq_true rfl⟩ hO.1 rfl (mX6_wantedMany hO w g.2.1 r hr) rfl (Nat.le_of_ble_eq_true rfl) rfl dX6_count_115 hP hS hl) rfl (fun v13 hv13 => ?_)
        exact y_rp C hR dX6_count_118
      refine y_if (fun h14 => ?_) (fun h14 => ?_)
      · refine y_swIn (tgt := 119) C 105 dX6_count_14 (by rw [h14]; decide) (by rw [h14]; decide) (by rw [h14]; rfl) (by decide) ?_
        refine y_aload_n (n := 120) C dX6_count_119 0 rfl rfl ?_
        refine y_get (ci := 6) (f := 0) (n := 123) C in_X6 hO.1 rfl (by decide) wd_731 rfl rfl dX6_count_120 rfl ?_
        refine y_sipush (n := 126) C (559 : Int32) dX6_count_123 (by decide) rfl ?_
        refine y_iald (n := 127) C hO.2.1 dX6_count_126 rfl (fun v15 hv15 => ?_)
        exact y_rp C hR dX6_count_127
      refine y_if (fun h16 => ?_) (fun h16 => ?_)
      · refine y_swIn (tgt := 128) C 114 dX6_count_14 (by rw [h16]; decide) (by rw [h16]; decide) (by rw [h16]; rfl) (by decide) ?_
        refine y_aload_n (n := 129) C dX6_count_128 0 rfl rfl ?_
        refine y_get (ci := 6) (f := 0) (n := 132) C in_X6 hO.1 rfl (by decide) wd_731 rfl rfl dX6_count_129 rfl ?_
        refine y_sipush (n := 135) C (566 : Int32) dX6_count_132 (by decide) rfl ?_
        refine y_iald (n := 136) C hO.2.1 dX6_count_135 rfl (fun v17 hv17 => ?_)
        exact y_rp C hR dX6_count_136
      refine y_if (fun h18 => ?_) (fun h18 => ?_)
      · refine y_swIn (tgt := 137) C 123 dX6_count_14 (by rw [h18]; decide) (by rw [h18]; decide) (by rw [h18]; rfl) (by decide) ?_
        refine y_aload_n (n := 138) C dX6_count_137 0 rfl rfl ?_
        refine y_get (ci := 6) (f := 0) (n := 141) C in_X6 hO.1 rfl (by decide) wd_731 rfl rfl dX6_count_138 rfl ?_
        refine y_sipush (n := 144) C (567 : Int32) dX6_count_141 (by decide) rfl ?_
        refine y_iald (n := 145) C hO.2.1 dX6_count_144 rfl (fun v19 hv19 => ?_)
        exact y_rp C hR dX6_count_145
      refine y_if (fun h20 => ?_) (fun h20 => ?_)
      · refine y_swIn (tgt := 146) C 132 dX6_count_14 (by rw [h20]; decide) (by rw [h20]; decide) (by rw [h20]; rfl) (by decide) ?_
        refine y_aload_n (n := 147) C dX6_count_146 0 rfl rfl ?_
        refine y_get (ci := 6) (f := 5) (n := 150) C in_X6 hO.1 rfl (by decide) wd_736 rfl rfl dX6_count_147 rfl ?_
        exact y_rp C hR dX6_count_150
      refine y_swOut (tgt := 151) C dX6_count_14 (by have gh3 := sw_ne (k := 0) (by decide) h3; have gh5 := sw_ne (k := 1) (by decide) h5; have gh7 := sw_ne (k := 2) (by decide) h7; have gh9 := sw_ne (k := 3) (by decide) h9; have gh12 := sw_ne (k := 4) (by decide) h12; have gh14 := sw_ne (k := 5) (by decide) h14; have gh16 := sw_ne (k := 6) (by decide) h16; have gh18 := sw_ne (k := 7) (by decide) h18; have gh20 := sw_ne (k := 8) (by decide) h20; omega) (by decide) ?_
      refine y_aload_n (n := 152) C dX6_count_151 0 rfl rfl ?_
      refine y_get (ci := 6) (f := 8) (n := 155) C in_X6 hO.1 rfl (by decide) wd_739 rfl rfl dX6_count_152 rfl ?_
      exact y_rp C hR dX6_count_155
    · refine y_bipush (n := 12) C ((-2) : Int32) dX6_count_10 (by decide) rfl ?_
      exact y_rp C hR dX6_count_12
theorem mX6_count {E : Ex} {o : Nat} (hO : shM E.2.2.2.2.2.1 o) (w : Wd) (a1 : Int32) (l : Launch) : MP l yX6_count cX6_count 4 (some .int) { frames := 5, cells := 0, slots := 0, locals := 113 } E [.ref (E.2.2.2.2.1 + o), .int a1] w (fX6_count w o a1) :=
  y_met (Qc := fun r => yQi E (r, w)) (by decide +kernel) (Nat.le_of_ble_eq_true rfl) (fun g C hR => eX6_count C hR hO w a1) l
def fX6_delete (w : Wd) (o : Nat) (a1 : Int32) : Option (Int32 × Wd) :=
  ob2 (fX6_gone w o a1 1) fun v1 w2 =>
  some (v1, w2)
set_option maxRecDepth 4000 in
theorem eX6_delete {g : Gx} {E : Ex} (C : CC g E cX6_delete 2 RX6 3 69) (hR : RT g (some .int)) {o : Nat} (hO : shM E.2.2.2.2.2.1 o) (w : Wd) (a1 : Int32) : YO g E 2 (QI g E) (fX6_delete w o a1) w 0 [(0, .ref (E.2.2.2.2.1 + o)), (1, .int a1)] [] := by
  unfold fX6_delete
  refine y_aload_n (n := 1) C dX6_delete_0 0 rfl rfl ?_
  refine y_iload_n (n := 2) C dX6_delete_1 1 rfl rfl ?_
  refine y_iconst (n := 3) C (1 : Int32) dX6_delete_2 (by decide) rfl ?_
  refine y_ci2 (n := 6) C (fun r hr H locs la hP hS hl => y_runV (ci := 6) (st := []) C ky_X6_gone wd_818 ⟨Nat.le_of_ble_eq_true rfl, Nat.le_of_ble_eq_true rfl⟩ hO.1 rfl (mX6_gone hO w a1 1 g.2.1 r hr) rfl (Nat.le_of_ble_eq_true rfl) rfl dX6_delete_3 hP hS hl) rfl (fun v1 w2 hv1 => ?_)
  exact y_ri C hR dX6_delete_6
theorem mX6_delete {E : Ex} {o : Nat} (hO : shM E.2.2.2.2.2.1 o) (w : Wd) (a1 : Int32) (l : Launch) : MI l yX6_delete cX6_delete 2 (some .int) { frames := 3, cells := 0, slots := 0, locals := 69 } E [.ref (E.2.2.2.2.1 + o), .int a1] w (fX6_delete w o a1) :=
  y_met (Qc := yQi E) (by decide +kernel) (Nat.le_of_ble_eq_true rfl) (fun g C hR => eX6_delete C hR hO w a1) l
def fX6_document (w : Wd) (o : Nat) (a1 : Int32) (a2 : Int32) : Option (Int32) :=
  (fX6_isDocument w a1).bind fun v1 =>
  if v1 = 0 then
    some (-1)
  else
    if a2 < 0 then
      some (-2)
    else
      if a2 ≤ 3 then
        if a2 = 0 then
          (ldI 706 w (o + 1) (498 + a1)).bind fun v12 =>
          some v12
        else
          if a2 = 1 then
            (fX6_value w o a1).bind fun v11 =>
            some v11
          else
            if a2 = 2 then
              (fX6_listsOf w o a1).bind fun v10 =>
              some v10
            else
              (fX6_wantedPlace w o a1).bind fun v8 =>
              if 0 ≤ v8 then
                some v8
              else
                some (-5)
      else
        some (-2)
set_option maxRecDepth 4000 in
theorem eX6_document {g : Gx} {E : Ex} (C : CC g E cX6_document 4 RX6 5 116) (hR : RT g (some .int)) {o : Nat} (hO : shM E.2.2.2.2.2.1 o) (w : Wd) (a1 : Int32) (a2 : Int32) : YO g E 4 (QP g E w) (fX6_document w o a1 a2) w 0 [(0, .ref (E.2.2.2.2.1 + o)), (1, .int a1), (2, .int a2)] [] := by
  unfold fX6_document
  refine y_iload_n (n := 1) C dX6_document_0 1 rfl rfl ?_
  refine y_cp (n := 4) C (fun r hr H locs la hP hS hl => y_runS (st := []) C ky_X6_isDocument wd_795 ⟨Nat.le_of_ble_eq_true rfl, Nat.le_of_ble_eq_true rfl⟩ (mX6_isDocument w a1 g.2.1 r hr) rfl (Nat.le_of_ble_eq_true rfl) rfl dX6_document_1 hP hS hl) rfl (fun v1 hv1 => ?_)
  refine y_if_ne (tgt := 9) (n := 7) C dX6_document_4 (by decide) rfl (fun h2 => ?_) (fun h2 => ?_)
  · refine y_iload_n (n := 10) C dX6_document_9 2 rfl rfl ?_
    refine y_if_lt (tgt := 18) (n := 13) C dX6_document_10 (by decide) rfl (fun h3 => ?_) (fun h3 => ?_)
    · refine y_bipush (n := 20) C ((-2) : Int32) dX6_document_18 (by decide) rfl ?_
      exact y_rp C hR dX6_document_20
    · refine y_iload_n (n := 14) C dX6_document_13 2 rfl rfl ?_
      refine y_iconst (n := 15) C (3 : Int32) dX6_document_14 (by decide) rfl ?_
      refine y_icmp_le (tgt := 21) (n := 18) C dX6_document_15 (by decide) rfl (fun h4 => ?_) (fun h4 => ?_)
      · refine y_iload_n (n := 22) C dX6_document_21 2 rfl rfl ?_
        refine y_if_ne (tgt := 36) (n := 25) C dX6_document_22 (by decide) rfl (fun h5 => ?_) (fun h5 => ?_)
        · refine y_iload_n (n := 37) C dX6_document_36 2 rfl rfl ?_
          refine y_iconst (n := 38) C (1 : Int32) dX6_document_37 (by decide) rfl ?_
          refine y_icmp_ne (tgt := 47) (n := 41) C dX6_document_38 (by decide) rfl (fun h6 => ?_) (fun h6 => ?_)
          · refine y_iload_n (n := 48) C dX6_document_47 2 rfl rfl ?_
            refine y_iconst (n := 49) C (2 : Int32) dX6_document_48 (by decide) rfl ?_
            refine y_icmp_ne (tgt := 58) (n := 52) C dX6_document_49 (by decide) rfl (fun h7 => ?_) (fun h7 => ?_)
            · refine y_aload_n (n := 59) C dX6_document_58 0 rfl rfl ?_
              refine y_iload_n (n := 60) C dX6_document_59 1 rfl rfl ?_
              refine y_cp (n := 63) C (fun r hr H locs la hP hS hl => y_runV (ci := 6) (st := []) C ky_X6_wantedPlace wd_853 ⟨Nat.le_of_ble_eq_true rfl, Nat.le_of_ble_eq_true rfl⟩ hO.1 rfl (mX6_wantedPlace hO w a1 g.2.1 r hr) rfl (Nat.le_of_ble_eq_true rfl) rfl dX6_document_60 hP hS hl) rfl (fun v8 hv8 => ?_)
              refine y_istore_n (n := 64) (ls' := [(3, .int v8), (0, .ref (E.2.2.2.2.1 + o)), (1, .int a1), (2, .int a2)]) C dX6_document_63 (by decide) rfl rfl ?_
              refine y_iload_n (n := 65) C dX6_document_64 0 rfl rfl ?_
              refine y_if_ge (tgt := 73) (n := 68) C dX6_document_65 (by decide) rfl (fun h9 => ?_) (fun h9 => ?_)
              · refine y_iload_n (n := 74) C dX6_document_73 0 rfl rfl ?_
                exact y_rp C hR dX6_document_74
              · refine y_bipush (n := 70) C ((-5) : Int32) dX6_document_68 (by decide) rfl ?_
                refine y_goto (tgt := 74) C dX6_document_70 (by decide) ?_
                exact y_rp C hR dX6_document_74
            · refine y_aload_n (n := 53) C dX6_document_52 0 rfl rfl ?_
              refine y_iload_n (n := 54) C dX6_document_53 1 rfl rfl ?_
              refine y_cp (n := 57) C (fun r hr H locs la hP hS hl => y_runV (ci := 6) (st := []) C ky_X6_listsOf wd_822 ⟨Nat.le_of_ble_eq_true rfl, Nat.le_of_ble_eq_true rfl⟩ hO.1 rfl (mX6_listsOf hO w a1 g.2.1 r hr) rfl (Nat.le_of_ble_eq_true rfl) rfl dX6_document_54 hP hS hl) rfl (fun v10 hv10 => ?_)
              exact y_rp C hR dX6_document_57
          · refine y_aload_n (n := 42) C dX6_document_41 0 rfl rfl ?_
            refine y_iload_n (n := 43) C dX6_document_42 1 rfl rfl ?_
            refine y_cp (n := 46) C (fun r hr H locs la hP hS hl => y_runV (ci := 6) (st := []) C ky_X6_value wd_861 ⟨Nat.le_of_ble_eq_true rfl, Nat.le_of_ble_eq_true rfl⟩ hO.1 rfl (mX6_value hO w a1 g.2.1 r hr) rfl (Nat.le_of_ble_eq_true rfl) rfl dX6_document_43 hP hS hl) rfl (fun v11 hv11 => ?_)
            exact y_rp C hR dX6_document_46
        · refine y_aload_n (n := 26) C dX6_document_25 0 rfl rfl ?_
          refine y_get (ci := 6) (f := 0) (n := 29) C in_X6 hO.1 rfl (by decide) wd_731 rfl rfl dX6_document_26 rfl ?_
          refine y_sipush (n := 32) C (498 : Int32) dX6_document_29 (by decide) rfl ?_
          refine y_iload_n (n := 33) C dX6_document_32 1 rfl rfl ?_
          refine y_iadd (n := 34) C dX6_document_33 rfl ?_
          refine y_iald (n := 35) C hO.2.1 dX6_document_34 rfl (fun v12 hv12 => ?_)
          exact y_rp C hR dX6_document_35
      · refine y_bipush (n := 20) C ((-2) : Int32) dX6_document_18 (by decide) rfl ?_
        exact y_rp C hR dX6_document_20
  · refine y_iconst (n := 8) C ((-1) : Int32) dX6_document_7 (by decide) rfl ?_
    exact y_rp C hR dX6_document_8
theorem mX6_document {E : Ex} {o : Nat} (hO : shM E.2.2.2.2.2.1 o) (w : Wd) (a1 : Int32) (a2 : Int32) (l : Launch) : MP l yX6_document cX6_document 4 (some .int) { frames := 5, cells := 0, slots := 0, locals := 116 } E [.ref (E.2.2.2.2.1 + o), .int a1, .int a2] w (fX6_document w o a1 a2) :=
  y_met (Qc := fun r => yQi E (r, w)) (by decide +kernel) (Nat.le_of_ble_eq_true rfl) (fun g C hR => eX6_document C hR hO w a1 a2) l
def fX6_drop (w : Wd) (o : Nat) (a1 : Int32) (a2 : Int32) : Option (Int32 × Wd) :=
  (fX6_isList w a1).bind fun v1 =>
  if v1 = 0 then
    some ((-1), w)
  else
    (fX6_isDocument w a2).bind fun v3 =>
    if v3 = 0 then
      some ((-1), w)
    else
      (fX6_placeOf w o a1 a2).bind fun v5 =>
      if 0 ≤ v5 then
        (ldI 706 w (o + 1) 559).bind fun v7 =>
        if v7 = 1 then
          some ((-4), w)
        else
          (fX6_record w o).bind fun w9 =>
          (fX6_takeOut w9 o a1 v5).bind fun w10 =>
          (ldI 706 w10 (o + 1) (480 + a1)).bind fun v11 =>
          some (v11, w10)
      else
        some ((-1), w)
set_option maxRecDepth 4000 in
theorem eX6_drop {g : Gx} {E : Ex} (C : CC g E cX6_drop 4 RX6 1 24) (hR : RT g (some .int)) {o : Nat} (hO : shM E.2.2.2.2.2.1 o) (w : Wd) (a1 : Int32) (a2 : Int32) : YO g E 4 (QI g E) (fX6_drop w o a1 a2) w 0 [(0, .ref (E.2.2.2.2.1 + o)), (1, .int a1), (2, .int a2)] [] := by
  unfold fX6_drop
  refine y_iload_n (n := 1) C dX6_drop_0 1 rfl rfl ?_
  refine y_cp (n := 4) C (fun r hr H locs la hP hS hl => y_runS (st := []) C ky_X6_isList wd_792 ⟨Nat.le_of_ble_eq_true rfl, Nat.le_of_ble_eq_true rfl⟩ (mX6_isList w a1 g.2.1 r hr) rfl (Nat.le_of_ble_eq_true rfl) rfl dX6_drop_1 hP hS hl) rfl (fun v1 hv1 => ?_)
  refine y_if_eq (tgt := 14) (n := 7) C dX6_drop_4 (by decide) rfl (fun h2 => ?_) (fun h2 => ?_)
  · refine y_iconst (n := 15) C ((-1) : Int32) dX6_drop_14 (by decide) rfl ?_
    exact y_ri C hR dX6_drop_15
  · refine y_iload_n (n := 8) C dX6_drop_7 2 rfl rfl ?_
    refine y_cp (n := 11) C (fun r hr H locs la hP hS hl => y_runS (st := []) C ky_X6_isDocument wd_795 ⟨Nat.le_of_ble_eq_true rfl, Nat.le_of_ble_eq_true rfl⟩ (mX6_isDocument w a2 g.2.1 r hr) rfl (Nat.le_of_ble_eq_true rfl) rfl dX6_drop_8 hP hS hl) rfl (fun v3 hv3 => ?_)
    refine y_if_ne (tgt := 16) (n := 14) C dX6_drop_11 (by decide) rfl (fun h4 => ?_) (fun h4 => ?_)
    · refine y_aload_n (n := 17) C dX6_drop_16 0 rfl rfl ?_
      refine y_iload_n (n := 18) C dX6_drop_17 1 rfl rfl ?_
      refine y_iload_n (n := 19) C dX6_drop_18 2 rfl rfl ?_
      refine y_cp (n := 22) C (fun r hr H locs la hP hS hl => y_runV (ci := 6) (st := []) C ky_X6_placeOf wd_798 ⟨Nat.le_of_ble_eq_true rfl, Nat.le_of_ble_eq_true rfl⟩ hO.1 rfl (mX6_placeOf hO w a1 a2 g.2.1 r hr) rfl (Nat.le_of_ble_eq_true rfl) rfl dX6_drop_19 hP hS hl) rfl (fun v5 hv5 => ?_)
      refine y_istore_n (n := 23) (ls' := [(3, .int v5), (0, .ref (E.2.2.2.2.1 + o)), (1, .int a1), (2, .int a2)]) C dX6_drop_22 (by decide) rfl rfl ?_
      refine y_iload_n (n := 24) C dX6_drop_23 0 rfl rfl ?_
      refine y_if_ge (tgt := 29) (n := 27) C dX6_drop_24 (by decide) rfl (fun h6 => ?_) (fun h6 => ?_)
      · refine y_aload_n (n := 30) C dX6_drop_29 1 rfl rfl ?_
        refine y_get (ci := 6) (f := 0) (n := 33) C in_X6 hO.1 rfl (by decide) wd_731 rfl rfl dX6_drop_30 rfl ?_
        refine y_sipush (n := 36) C (559 : Int32) dX6_drop_33 (by decide) rfl ?_
        refine y_iald (n := 37) C hO.2.1 dX6_drop_36 rfl (fun v7 hv7 => ?_)
        refine y_iconst (n := 38) C (1 : Int32) dX6_drop_37 (by decide) rfl ?_
        refine y_icmp_ne (tgt := 44) (n := 41) C dX6_drop_38 (by decide) rfl (fun h8 => ?_) (fun h8 => ?_)
        · refine y_aload_n (n := 45) C dX6_drop_44 1 rfl rfl ?_
          refine y_cv (n := 48) C (fun r hr H locs la hP hS hl => y_runV (ci := 6) (st := []) C ky_X6_record wd_784 ⟨Nat.le_of_ble_eq_true rfl, Nat.le_of_ble_eq_true rfl⟩ hO.1 rfl (mX6_record hO w g.2.1 r hr) rfl (Nat.le_of_ble_eq_true rfl) rfl dX6_drop_45 hP hS hl) rfl (fun w9 hw9 => ?_)
          refine y_aload_n (n := 49) C dX6_drop_48 1 rfl rfl ?_
          refine y_iload_n (n := 50) C dX6_drop_49 2 rfl rfl ?_
          refine y_iload_n (n := 51) C dX6_drop_50 0 rfl rfl ?_
          refine y_cv (n := 54) C (fun r hr H locs la hP hS hl => y_runV (ci := 6) (st := []) C ky_X6_takeOut wd_802 ⟨Nat.le_of_ble_eq_true rfl, Nat.le_of_ble_eq_true rfl⟩ hO.1 rfl (mX6_takeOut hO w9 a1 v5 g.2.1 r hr) rfl (Nat.le_of_ble_eq_true rfl) rfl dX6_drop_51 hP hS hl) rfl (fun w10 hw10 => ?_)
          refine y_aload_n (n := 55) C dX6_drop_54 1 rfl rfl ?_
          refine y_get (ci := 6) (f := 0) (n := 58) C in_X6 hO.1 rfl (by decide) wd_731 rfl rfl dX6_drop_55 rfl ?_
          refine y_sipush (n := 61) C (480 : Int32) dX6_drop_58 (by decide) rfl ?_
          refine y_iload_n (n := 62) C dX6_drop_61 2 rfl rfl ?_
          refine y_iadd (n := 63) C dX6_drop_62 rfl ?_
          refine y_iald (n := 64) C hO.2.1 dX6_drop_63 rfl (fun v11 hv11 => ?_)
          exact y_ri C hR dX6_drop_64
        · refine y_bipush (n := 43) C ((-4) : Int32) dX6_drop_41 (by decide) rfl ?_
          exact y_ri C hR dX6_drop_43
      · refine y_iconst (n := 28) C ((-1) : Int32) dX6_drop_27 (by decide) rfl ?_
        exact y_ri C hR dX6_drop_28
    · refine y_iconst (n := 15) C ((-1) : Int32) dX6_drop_14 (by decide) rfl ?_
      exact y_ri C hR dX6_drop_15
theorem mX6_drop {E : Ex} {o : Nat} (hO : shM E.2.2.2.2.2.1 o) (w : Wd) (a1 : Int32) (a2 : Int32) (l : Launch) : MI l yX6_drop cX6_drop 4 (some .int) { frames := 1, cells := 0, slots := 0, locals := 24 } E [.ref (E.2.2.2.2.1 + o), .int a1, .int a2] w (fX6_drop w o a1 a2) :=
  y_met (Qc := yQi E) (by decide +kernel) (Nat.le_of_ble_eq_true rfl) (fun g C hR => eX6_drop C hR hO w a1 a2) l
def fX6_want (w : Wd) (o : Nat) (a1 : Int32) : Option (Int32 × Wd) :=
  if a1 < 1 then
    some ((-2), w)
  else
    if a1 ≤ 10 then
      (ldI 706 w (o + 1) 559).bind fun v3 =>
      if v3 = 1 then
        some ((-4), w)
      else
        (ldI 706 w (o + 1) 558).bind fun v5 =>
        if v5 = a1 then
          some ((-5), w)
        else
          (fX6_record w o).bind fun w7 =>
          (stI 706 w7 (o + 1) 558 a1).bind fun w8 =>
          some (v5, w8)
    else
      some ((-2), w)
set_option maxRecDepth 4000 in
theorem eX6_want {g : Gx} {E : Ex} (C : CC g E cX6_want 3 RX6 1 21) (hR : RT g (some .int)) {o : Nat} (hO : shM E.2.2.2.2.2.1 o) (w : Wd) (a1 : Int32) : YO g E 3 (QI g E) (fX6_want w o a1) w 0 [(0, .ref (E.2.2.2.2.1 + o)), (1, .int a1)] [] := by
  unfold fX6_want
  refine y_iload_n (n := 1) C dX6_want_0 1 rfl rfl ?_
  refine y_iconst (n := 2) C (1 : Int32) dX6_want_1 (by decide) rfl ?_
  refine y_icmp_lt (tgt := 11) (n := 5) C dX6_want_2 (by decide) rfl (fun h1 => ?_) (fun h1 => ?_)
  · refine y_bipush (n := 13) C ((-2) : Int32) dX6_want_11 (by decide) rfl ?_
    exact y_ri C hR dX6_want_13
  · refine y_iload_n (n := 6) C dX6_want_5 1 rfl rfl ?_
    refine y_bipush (n := 8) C (10 : Int32) dX6_want_6 (by decide) rfl ?_
    refine y_icmp_le (tgt := 14) (n := 11) C dX6_want_8 (by decide) rfl (fun h2 => ?_) (fun h2 => ?_)
    · refine y_aload_n (n := 15) C dX6_want_14 0 rfl rfl ?_
      refine y_get (ci := 6) (f := 0) (n := 18) C in_X6 hO.1 rfl (by decide) wd_731 rfl rfl dX6_want_15 rfl ?_
      refine y_sipush (n := 21) C (559 : Int32) dX6_want_18 (by decide) rfl ?_
      refine y_iald (n := 22) C hO.2.1 dX6_want_21 rfl (fun v3 hv3 => ?_)
      refine y_iconst (n := 23) C (1 : Int32) dX6_want_22 (by decide) rfl ?_
      refine y_icmp_ne (tgt := 29) (n := 26) C dX6_want_23 (by decide) rfl (fun h4 => ?_) (fun h4 => ?_)
      · refine y_aload_n (n := 30) C dX6_want_29 0 rfl rfl ?_
        refine y_get (ci := 6) (f := 0) (n := 33) C in_X6 hO.1 rfl (by decide) wd_731 rfl rfl dX6_want_30 rfl ?_
        refine y_sipush (n := 36) C (558 : Int32) dX6_want_33 (by decide) rfl ?_
        refine y_iald (n := 37) C hO.2.1 dX6_want_36 rfl (fun v5 hv5 => ?_)
        refine y_istore_n (n := 38) (ls' := [(2, .int v5), (0, .ref (E.2.2.2.2.1 + o)), (1, .int a1)]) C dX6_want_37 (by decide) rfl rfl ?_
        refine y_iload_n (n := 39) C dX6_want_38 0 rfl rfl ?_
        refine y_iload_n (n := 40) C dX6_want_39 2 rfl rfl ?_
        refine y_icmp_ne (tgt := 46) (n := 43) C dX6_want_40 (by decide) rfl (fun h6 => ?_) (fun h6 => ?_)
        · refine y_aload_n (n := 47) C dX6_want_46 1 rfl rfl ?_
          refine y_cv (n := 50) C (fun r hr H locs la hP hS hl => y_runV (ci := 6) (st := []) C ky_X6_record wd_784 ⟨Nat.le_of_ble_eq_true rfl, Nat.le_of_ble_eq_true rfl⟩ hO.1 rfl (mX6_record hO w g.2.1 r hr) rfl (Nat.le_of_ble_eq_true rfl) rfl dX6_want_47 hP hS hl) rfl (fun w7 hw7 => ?_)
          refine y_aload_n (n := 51) C dX6_want_50 1 rfl rfl ?_
          refine y_get (ci := 6) (f := 0) (n := 54) C in_X6 hO.1 rfl (by decide) wd_731 rfl rfl dX6_want_51 rfl ?_
          refine y_sipush (n := 57) C (558 : Int32) dX6_want_54 (by decide) rfl ?_
          refine y_iload_n (n := 58) C dX6_want_57 2 rfl rfl ?_
          refine y_iast (n := 59) C hO.2.1 dX6_want_58 rfl (fun w8 hw8 => ?_)
          refine y_iload_n (n := 60) C dX6_want_59 0 rfl rfl ?_
          exact y_ri C hR dX6_want_60
        · refine y_bipush (n := 45) C ((-5) : Int32) dX6_want_43 (by decide) rfl ?_
          exact y_ri C hR dX6_want_45
      · refine y_bipush (n := 28) C ((-4) : Int32) dX6_want_26 (by decide) rfl ?_
        exact y_ri C hR dX6_want_28
    · refine y_bipush (n := 13) C ((-2) : Int32) dX6_want_11 (by decide) rfl ?_
      exact y_ri C hR dX6_want_13
theorem mX6_want {E : Ex} {o : Nat} (hO : shM E.2.2.2.2.2.1 o) (w : Wd) (a1 : Int32) (l : Launch) : MI l yX6_want cX6_want 3 (some .int) { frames := 1, cells := 0, slots := 0, locals := 21 } E [.ref (E.2.2.2.2.1 + o), .int a1] w (fX6_want w o a1) :=
  y_met (Qc := yQi E) (by decide +kernel) (Nat.le_of_ble_eq_true rfl) (fun g C hR => eX6_want C hR hO w a1) l
def fX6_weight (w : Wd) (o : Nat) (a1 : Int32) (a2 : Int32) : Option (Int32 × Wd) :=
  ob2 (fX6_setOf w o 486 a1 a2 9) fun v1 w2 =>
  some (v1, w2)
set_option maxRecDepth 4000 in
theorem eX6_weight {g : Gx} {E : Ex} (C : CC g E cX6_weight 3 RX6 2 46) (hR : RT g (some .int)) {o : Nat} (hO : shM E.2.2.2.2.2.1 o) (w : Wd) (a1 : Int32) (a2 : Int32) : YO g E 3 (QI g E) (fX6_weight w o a1 a2) w 0 [(0, .ref (E.2.2.2.2.1 + o)), (1, .int a1), (2, .int a2)] [] := by
  unfold fX6_weight
  refine y_aload_n (n := 1) C dX6_weight_0 0 rfl rfl ?_
  refine y_sipush (n := 4) C (486 : Int32) dX6_weight_1 (by decide) rfl ?_
  refine y_iload_n (n := 5) C dX6_weight_4 1 rfl rfl ?_
  refine y_iload_n (n := 6) C dX6_weight_5 2 rfl rfl ?_
  refine y_bipush (n := 8) C (9 : Int32) dX6_weight_6 (by decide) rfl ?_
  refine y_ci2 (n := 11) C (fun r hr H locs la hP hS hl => y_runV (ci := 6) (st := []) C ky_X6_setOf wd_837 ⟨Nat.le_of_ble_eq_true rfl, Nat.le_of_ble_eq_true rfl⟩ hO.1 rfl (mX6_setOf hO w 486 a1 a2 9 g.2.1 r hr) rfl (Nat.le_of_ble_eq_true rfl) rfl dX6_weight_8 hP hS hl) rfl (fun v1 w2 hv1 => ?_)
  exact y_ri C hR dX6_weight_11
theorem mX6_weight {E : Ex} {o : Nat} (hO : shM E.2.2.2.2.2.1 o) (w : Wd) (a1 : Int32) (a2 : Int32) (l : Launch) : MI l yX6_weight cX6_weight 3 (some .int) { frames := 2, cells := 0, slots := 0, locals := 46 } E [.ref (E.2.2.2.2.1 + o), .int a1, .int a2] w (fX6_weight w o a1 a2) :=
  y_met (Qc := yQi E) (by decide +kernel) (Nat.le_of_ble_eq_true rfl) (fun g C hR => eX6_weight C hR hO w a1 a2) l
def fX6_does (w : Wd) (o : Nat) (a1 : Int32) : Option (Int32 × Wd) :=
  if a1 = 0 then
    (ldI 3 w (o + 7) 0).bind fun v2 =>
    (ldI 3 w (o + 7) 1).bind fun v3 =>
    (ldI 3 w (o + 7) 2).bind fun v4 =>
    ob2 (fX6_add w o v2 v3 v4) fun v5 w6 =>
    some (v5, w6)
  else
  if a1 = 1 then
    (ldI 3 w (o + 7) 0).bind fun v8 =>
    (ldI 3 w (o + 7) 1).bind fun v9 =>
    ob2 (fX6_drop w o v8 v9) fun v10 w11 =>
    some (v10, w11)
  else
  if a1 = 2 then
    (ldI 3 w (o + 7) 0).bind fun v13 =>
    (ldI 3 w (o + 7) 1).bind fun v14 =>
    ob2 (fX6_weight w o v13 v14) fun v15 w16 =>
    some (v15, w16)
  else
  if a1 = 3 then
    (ldI 3 w (o + 7) 0).bind fun v18 =>
    (ldI 3 w (o + 7) 1).bind fun v19 =>
    ob2 (fX6_bribe w o v18 v19) fun v20 w21 =>
    some (v20, w21)
  else
  if a1 = 4 then
    (ldI 3 w (o + 7) 0).bind fun v23 =>
    ob2 (fX6_delete w o v23) fun v24 w25 =>
    some (v24, w25)
  else
  if a1 = 5 then
    (ldI 3 w (o + 7) 0).bind fun v27 =>
    ob2 (fX6_bring w o v27) fun v28 w29 =>
    some (v28, w29)
  else
  (ldI 3 w (o + 7) 0).bind fun v30 =>
  ob2 (fX6_want w o v30) fun v31 w32 =>
  some (v31, w32)
set_option maxRecDepth 4000 in
theorem eX6_does {g : Gx} {E : Ex} (C : CC g E cX6_does 2 RX6 4 90) (hR : RT g (some .int)) {o : Nat} (hO : shM E.2.2.2.2.2.1 o) (w : Wd) (a1 : Int32) : YO g E 2 (QI g E) (fX6_does w o a1) w 0 [(0, .ref (E.2.2.2.2.1 + o)), (1, .int a1)] [] := by
  unfold fX6_does
  refine y_iload_n (n := 1) C dX6_does_0 1 rfl rfl ?_
  refine y_if (fun h1 => ?_) (fun h1 => ?_)
  · refine y_swIn (tgt := 40) C 39 dX6_does_1 (by rw [h1]; decide) (by rw [h1]; decide) (by rw [h1]; rfl) (by decide) ?_
    refine y_aload_n (n := 41) C dX6_does_40 0 rfl rfl ?_
    refine y_aload_n (n := 42) C dX6_does_41 0 rfl rfl ?_
    refine y_get (ci := 6) (f := 11) (n := 45) C in_X6 hO.1 rfl (by decide) wd_742 rfl rfl dX6_does_42 rfl ?_
    refine y_iconst (n := 46) C (0 : Int32) dX6_does_45 (by decide) rfl ?_
    refine y_iald (n := 47) C hO.2.2.2.2.2.2.2 dX6_does_46 rfl (fun v2 hv2 => ?_)
    refine y_aload_n (n := 48) C dX6_does_47 0 rfl rfl ?_
    refine y_get (ci := 6) (f := 11) (n := 51) C in_X6 hO.1 rfl (by decide) wd_742 rfl rfl dX6_does_48 rfl ?_
    refine y_iconst (n := 52) C (1 : Int32) dX6_does_51 (by decide) rfl ?_
    refine y_iald (n := 53) C hO.2.2.2.2.2.2.2 dX6_does_52 rfl (fun v3 hv3 => ?_)
    refine y_aload_n (n := 54) C dX6_does_53 0 rfl rfl ?_
    refine y_get (ci := 6) (f := 11) (n := 57) C in_X6 hO.1 rfl (by decide) wd_742 rfl rfl dX6_does_54 rfl ?_
    refine y_iconst (n := 58) C (2 : Int32) dX6_does_57 (by decide) rfl ?_
    refine y_iald (n := 59) C hO.2.2.2.2.2.2.2 dX6_does_58 rfl (fun v4 hv4 => ?_)
    refine y_ci2 (n := 62) C (fun r hr H locs la hP hS hl => y_runV (ci := 6) (st := []) C ky_X6_add wd_1075 ⟨Nat.le_of_ble_eq_true rfl, Nat.le_of_ble_eq_true rfl⟩ hO.1 rfl (mX6_add hO w v2 v3 v4 g.2.1 r hr) rfl (Nat.le_of_ble_eq_true rfl) rfl dX6_does_59 hP hS hl) rfl (fun v5 w6 hv5 => ?_)
    exact y_ri C hR dX6_does_62
  refine y_if (fun h7 => ?_) (fun h7 => ?_)
  · refine y_swIn (tgt := 63) C 62 dX6_does_1 (by rw [h7]; decide) (by rw [h7]; decide) (by rw [h7]; rfl) (by decide) ?_
    refine y_aload_n (n := 64) C dX6_does_63 0 rfl rfl ?_
    refine y_aload_n (n := 65) C dX6_does_64 0 rfl rfl ?_
    refine y_get (ci := 6) (f := 11) (n := 68) C in_X6 hO.1 rfl (by decide) wd_742 rfl rfl dX6_does_65 rfl ?_
    refine y_iconst (n := 69) C (0 : Int32) dX6_does_68 (by decide) rfl ?_
    refine y_iald (n := 70) C hO.2.2.2.2.2.2.2 dX6_does_69 rfl (fun v8 hv8 => ?_)
    refine y_aload_n (n := 71) C dX6_does_70 0 rfl rfl ?_
    refine y_get (ci := 6) (f := 11) (n := 74) C in_X6 hO.1 rfl (by decide) wd_742 rfl rfl dX6_does_71 rfl ?_
    refine y_iconst (n := 75) C (1 : Int32) dX6_does_74 (by decide) rfl ?_
    refine y_iald (n := 76) C hO.2.2.2.2.2.2.2 dX6_does_75 rfl (fun v9 hv9 => ?_)
    refine y_ci2 (n := 79) C (fun r hr H locs la hP hS hl => y_runV (ci := 6) (st := []) C ky_X6_drop wd_1076 ⟨Nat.le_of_ble_eq_true rfl, Nat.le_of_ble_eq_true rfl⟩ hO.1 rfl (mX6_drop hO w v8 v9 g.2.1 r hr) rfl (Nat.le_of_ble_eq_true rfl) rfl dX6_does_76 hP hS hl) rfl (fun v10 w11 hv10 => ?_)
    exact y_ri C hR dX6_does_79
  refine y_if (fun h12 => ?_) (fun h12 => ?_)
  · refine y_swIn (tgt := 80) C 79 dX6_does_1 (by rw [h12]; decide) (by rw [h12]; decide) (by rw [h12]; rfl) (by decide) ?_
    refine y_aload_n (n := 81) C dX6_does_80 0 rfl rfl ?_
    refine y_aload_n (n := 82) C dX6_does_81 0 rfl rfl ?_
    refine y_get (ci := 6) (f := 11) (n := 85) C in_X6 hO.1 rfl (by decide) wd_742 rfl rfl dX6_does_82 rfl ?_
    refine y_iconst (n := 86) C (0 : Int32) dX6_does_85 (by decide) rfl ?_
    refine y_iald (n := 87) C hO.2.2.2.2.2.2.2 dX6_does_86 rfl (fun v13 hv13 => ?_)
    refine y_aload_n (n := 88) C dX6_does_87 0 rfl rfl ?_
    refine y_get (ci := 6) (f := 11) (n := 91) C in_X6 hO.1 rfl (by decide) wd_742 rfl rfl dX6_does_88 rfl ?_
    refine y_iconst (n := 92) C (1 : Int32) dX6_does_91 (by decide) rfl ?_
    refine y_iald (n := 93) C hO.2.2.2.2.2.2.2 dX6_does_92 rfl (fun v14 hv14 => ?_)
    refine y_ci2 (n := 96) C (fun r hr H locs la hP hS hl => y_runV (ci := 6) (st := []) C ky_X6_weight wd_1077 ⟨Nat.le_of_ble_eq_true rfl, Nat.le_of_ble_eq_true rfl⟩ hO.1 rfl (mX6_weight hO w v13 v14 g.2.1 r hr) rfl (Nat.le_of_ble_eq_true rfl) rfl dX6_does_93 hP hS hl) rfl (fun v15 w16 hv15 => ?_)
    exact y_ri C hR dX6_does_96
  refine y_if (fun h17 => ?_) (fun h17 => ?_)
  · refine y_swIn (tgt := 97) C 96 dX6_does_1 (by rw [h17]; decide) (by rw [h17]; decide) (by rw [h17]; rfl) (by decide) ?_
    refine y_aload_n (n := 98) C dX6_does_97 0 rfl rfl ?_
    refine y_aload_n (n := 99) C dX6_does_98 0 rfl rfl ?_
    refine y_get (ci := 6) (f := 11) (n := 102) C in_X6 hO.1 rfl (by decide) wd_742 rfl rfl dX6_does_99 rfl ?_
    refine y_iconst (n := 103) C (0 : Int32) dX6_does_102 (by decide) rfl ?_
    refine y_iald (n := 104) C hO.2.2.2.2.2.2.2 dX6_does_103 rfl (fun v18 hv18 => ?_)
    refine y_aload_n (n := 105) C dX6_does_104 0 rfl rfl ?_
    refine y_get (ci := 6) (f := 11) (n := 108) C in_X6 hO.1 rfl (by decide) wd_742 rfl rfl dX6_does_105 rfl ?_
    refine y_iconst (n := 109) C (1 : Int32) dX6_does_108 (by decide) rfl ?_
    refine y_iald (n := 110) C hO.2.2.2.2.2.2.2 dX6_does_109 rfl (fun v19 hv19 => ?_)
    refine y_ci2 (n := 113) C (fun r hr H locs la hP hS hl => y_runV (ci := 6) (st := []) C ky_X6_bribe wd_1078 ⟨Nat.le_of_ble_eq_true rfl, Nat.le_of_ble_eq_true rfl⟩ hO.1 rfl (mX6_bribe hO w v18 v19 g.2.1 r hr) rfl (Nat.le_of_ble_eq_true rfl) rfl dX6_does_110 hP hS hl) rfl (fun v20 w21 hv20 => ?_)
    exact y_ri C hR dX6_does_113
  refine y_if (fun h22 => ?_) (fun h22 => ?_)
  · refine y_swIn (tgt := 114) C 113 dX6_does_1 (by rw [h22]; decide) (by rw [h22]; decide) (by rw [h22]; rfl) (by decide) ?_
    refine y_aload_n (n := 115) C dX6_does_114 0 rfl rfl ?_
    refine y_aload_n (n := 116) C dX6_does_115 0 rfl rfl ?_
    refine y_get (ci := 6) (f := 11) (n := 119) C in_X6 hO.1 rfl (by decide) wd_742 rfl rfl dX6_does_116 rfl ?_
    refine y_iconst (n := 120) C (0 : Int32) dX6_does_119 (by decide) rfl ?_
    refine y_iald (n := 121) C hO.2.2.2.2.2.2.2 dX6_does_120 rfl (fun v23 hv23 => ?_)
    refine y_ci2 (n := 124) C (fun r hr H locs la hP hS hl => y_runV (ci := 6) (st := []) C ky_X6_delete wd_1079 ⟨Nat.le_of_ble_eq_true rfl, Nat.le_of_ble_eq_true rfl⟩ hO.1 rfl (mX6_delete hO w v23 g.2.1 r hr) rfl (Nat.le_of_ble_eq_true rfl) rfl dX6_does_121 hP hS hl) rfl (fun v24 w25 hv24 => ?_)
    exact y_ri C hR dX6_does_124
  refine y_if (fun h26 => ?_) (fun h26 => ?_)
  · refine y_swIn (tgt := 125) C 124 dX6_does_1 (by rw [h26]; decide) (by rw [h26]; decide) (by rw [h26]; rfl) (by decide) ?_
    refine y_aload_n (n := 126) C dX6_does_125 0 rfl rfl ?_
    refine y_aload_n (n := 127) C dX6_does_126 0 rfl rfl ?_
    refine y_get (ci := 6) (f := 11) (n := 130) C in_X6 hO.1 rfl (by decide) wd_742 rfl rfl dX6_does_127 rfl ?_
    refine y_iconst (n := 131) C (0 : Int32) dX6_does_130 (by decide) rfl ?_
    refine y_iald (n := 132) C hO.2.2.2.2.2.2.2 dX6_does_131 rfl (fun v27 hv27 => ?_)
    refine y_ci2 (n := 135) C (fun r hr H locs la hP hS hl => y_runV (ci := 6) (st := []) C ky_X6_bring wd_1080 ⟨Nat.le_of_ble_eq_true rfl, Nat.le_of_ble_eq_true rfl⟩ hO.1 rfl (mX6_bring hO w v27 g.2.1 r hr) rfl (Nat.le_of_ble_eq_true rfl) rfl dX6_does_132 hP hS hl) rfl (fun v28 w29 hv28 => ?_)
    exact y_ri C hR dX6_does_135
  refine y_swOut (tgt := 136) C dX6_does_1 (by have gh1 := sw_ne (k := 0) (by decide) h1; have gh7 := sw_ne (k := 1) (by decide) h7; have gh12 := sw_ne (k := 2) (by decide) h12; have gh17 := sw_ne (k := 3) (by decide) h17; have gh22 := sw_ne (k := 4) (by decide) h22; have gh26 := sw_ne (k := 5) (by decide) h26; omega) (by decide) ?_
  refine y_aload_n (n := 137) C dX6_does_136 0 rfl rfl ?_
  refine y_aload_n (n := 138) C dX6_does_137 0 rfl rfl ?_
  refine y_get (ci := 6) (f := 11) (n := 141) C in_X6 hO.1 rfl (by decide) wd_742 rfl rfl dX6_does_138 rfl ?_
  refine y_iconst (n := 142) C (0 : Int32) dX6_does_141 (by decide) rfl ?_
  refine y_iald (n := 143) C hO.2.2.2.2.2.2.2 dX6_does_142 rfl (fun v30 hv30 => ?_)
  refine y_ci2 (n := 146) C (fun r hr H locs la hP hS hl => y_runV (ci := 6) (st := []) C ky_X6_want wd_1081 ⟨Nat.le_of_ble_eq_true rfl, Nat.le_of_ble_eq_true rfl⟩ hO.1 rfl (mX6_want hO w v30 g.2.1 r hr) rfl (Nat.le_of_ble_eq_true rfl) rfl dX6_does_143 hP hS hl) rfl (fun v31 w32 hv31 => ?_)
  exact y_ri C hR dX6_does_146
theorem mX6_does {E : Ex} {o : Nat} (hO : shM E.2.2.2.2.2.1 o) (w : Wd) (a1 : Int32) (l : Launch) : MI l yX6_does cX6_does 2 (some .int) { frames := 4, cells := 0, slots := 0, locals := 90 } E [.ref (E.2.2.2.2.1 + o), .int a1] w (fX6_does w o a1) :=
  y_met (Qc := yQi E) (by decide +kernel) (Nat.le_of_ble_eq_true rfl) (fun g C hR => eX6_does C hR hO w a1) l
def fX6_toldMany (w : Wd) (o : Nat)  : Option (Int32) :=
  (fX6_seenMany w o).bind fun v1 =>
  (ldI 706 w (o + 1) 558).bind fun v2 =>
  if v2 ≤ v1 then
    (ldI 706 w (o + 1) 558).bind fun v4 =>
    some v4
  else
    some v1
set_option maxRecDepth 4000 in
theorem eX6_toldMany {g : Gx} {E : Ex} (C : CC g E cX6_toldMany 2 RX6 2 43) (hR : RT g (some .int)) {o : Nat} (hO : shM E.2.2.2.2.2.1 o) (w : Wd)  : YO g E 2 (QP g E w) (fX6_toldMany w o) w 0 [(0, .ref (E.2.2.2.2.1 + o))] [] := by
  unfold fX6_toldMany
  refine y_aload_n (n := 1) C dX6_toldMany_0 0 rfl rfl ?_
  refine y_cp (n := 4) C (fun r hr H locs la hP hS hl => y_runV (ci := 6) (st := []) C ky_X6_seenMany wd_909 ⟨Nat.le_of_ble_eq_true rfl, Nat.le_of_ble_eq_true rfl⟩ hO.1 rfl (mX6_seenMany hO w g.2.1 r hr) rfl (Nat.le_of_ble_eq_true rfl) rfl dX6_toldMany_1 hP hS hl) rfl (fun v1 hv1 => ?_)
  refine y_istore_n (n := 5) (ls' := [(1, .int v1), (0, .ref (E.2.2.2.2.1 + o))]) C dX6_toldMany_4 (by decide) rfl rfl ?_
  refine y_iload_n (n := 6) C dX6_toldMany_5 0 rfl rfl ?_
  refine y_aload_n (n := 7) C dX6_toldMany_6 1 rfl rfl ?_
  refine y_get (ci := 6) (f := 0) (n := 10) C in_X6 hO.1 rfl (by decide) wd_731 rfl rfl dX6_toldMany_7 rfl ?_
  refine y_sipush (n := 13) C (558 : Int32) dX6_toldMany_10 (by decide) rfl ?_
  refine y_iald (n := 14) C hO.2.1 dX6_toldMany_13 rfl (fun v2 hv2 => ?_)
  refine y_icmp_ge (tgt := 21) (n := 17) C dX6_toldMany_14 (by decide) rfl (fun h3 => ?_) (fun h3 => ?_)
  · refine y_aload_n (n := 22) C dX6_toldMany_21 1 rfl rfl ?_
    refine y_get (ci := 6) (f := 0) (n := 25) C in_X6 hO.1 rfl (by decide) wd_731 rfl rfl dX6_toldMany_22 rfl ?_
    refine y_sipush (n := 28) C (558 : Int32) dX6_toldMany_25 (by decide) rfl ?_
    refine y_iald (n := 29) C hO.2.1 dX6_toldMany_28 rfl (fun v4 hv4 => ?_)
    exact y_rp C hR dX6_toldMany_29
  · refine y_iload_n (n := 18) C dX6_toldMany_17 0 rfl rfl ?_
    refine y_goto (tgt := 29) C dX6_toldMany_18 (by decide) ?_
    exact y_rp C hR dX6_toldMany_29
theorem mX6_toldMany {E : Ex} {o : Nat} (hO : shM E.2.2.2.2.2.1 o) (w : Wd)  (l : Launch) : MP l yX6_toldMany cX6_toldMany 2 (some .int) { frames := 2, cells := 0, slots := 0, locals := 43 } E [.ref (E.2.2.2.2.1 + o)] w (fX6_toldMany w o) :=
  y_met (Qc := fun r => yQi E (r, w)) (by decide +kernel) (Nat.le_of_ble_eq_true rfl) (fun g C hR => eX6_toldMany C hR hO w ) l
def fX6_end (w : Wd) (o : Nat)  : Option (Int32 × Wd) :=
  (ldI 706 w (o + 1) 559).bind fun v1 =>
  if v1 = 0 then
    some ((-4), w)
  else
    (fX6_record w o).bind fun w3 =>
    (fX6_toldMany w3 o).bind fun v4 =>
    (stI 706 w3 (o + 1) 559 0).bind fun w5 =>
    some (v4, w5)
set_option maxRecDepth 4000 in
theorem eX6_end {g : Gx} {E : Ex} (C : CC g E cX6_end 2 RX6 3 64) (hR : RT g (some .int)) {o : Nat} (hO : shM E.2.2.2.2.2.1 o) (w : Wd)  : YO g E 2 (QI g E) (fX6_end w o) w 0 [(0, .ref (E.2.2.2.2.1 + o))] [] := by
  unfold fX6_end
  refine y_aload_n (n := 1) C dX6_end_0 0 rfl rfl ?_
  refine y_get (ci := 6) (f := 0) (n := 4) C in_X6 hO.1 rfl (by decide) wd_731 rfl rfl dX6_end_1 rfl ?_
  refine y_sipush (n := 7) C (559 : Int32) dX6_end_4 (by decide) rfl ?_
  refine y_iald (n := 8) C hO.2.1 dX6_end_7 rfl (fun v1 hv1 => ?_)
  refine y_if_ne (tgt := 14) (n := 11) C dX6_end_8 (by decide) rfl (fun h2 => ?_) (fun h2 => ?_)
  · refine y_aload_n (n := 15) C dX6_end_14 0 rfl rfl ?_
    refine y_cv (n := 18) C (fun r hr H locs la hP hS hl => y_runV (ci := 6) (st := []) C ky_X6_record wd_784 ⟨Nat.le_of_ble_eq_true rfl, Nat.le_of_ble_eq_true rfl⟩ hO.1 rfl (mX6_record hO w g.2.1 r hr) rfl (Nat.le_of_ble_eq_true rfl) rfl dX6_end_15 hP hS hl) rfl (fun w3 hw3 => ?_)
    refine y_aload_n (n := 19) C dX6_end_18 0 rfl rfl ?_
    refine y_cp (n := 22) C (fun r hr H locs la hP hS hl => y_runV (ci := 6) (st := []) C ky_X6_toldMany wd_977 ⟨Nat.le_of_ble_eq_true rfl, Nat.le_of_ble_eq_true rfl⟩ hO.1 rfl (mX6_toldMany hO w3 g.2.1 r hr) rfl (Nat.le_of_ble_eq_true rfl) rfl dX6_end_19 hP hS hl) rfl (fun v4 hv4 => ?_)
    refine y_istore_n (n := 23) (ls' := [(1, .int v4), (0, .ref (E.2.2.2.2.1 + o))]) C dX6_end_22 (by decide) rfl rfl ?_
    refine y_aload_n (n := 24) C dX6_end_23 1 rfl rfl ?_
    refine y_get (ci := 6) (f := 0) (n := 27) C in_X6 hO.1 rfl (by decide) wd_731 rfl rfl dX6_end_24 rfl ?_
    refine y_sipush (n := 30) C (559 : Int32) dX6_end_27 (by decide) rfl ?_
    refine y_iconst (n := 31) C (0 : Int32) dX6_end_30 (by decide) rfl ?_
    refine y_iast (n := 32) C hO.2.1 dX6_end_31 rfl (fun w5 hw5 => ?_)
    refine y_iload_n (n := 33) C dX6_end_32 0 rfl rfl ?_
    exact y_ri C hR dX6_end_33
  · refine y_bipush (n := 13) C ((-4) : Int32) dX6_end_11 (by decide) rfl ?_
    exact y_ri C hR dX6_end_13
theorem mX6_end {E : Ex} {o : Nat} (hO : shM E.2.2.2.2.2.1 o) (w : Wd)  (l : Launch) : MI l yX6_end cX6_end 2 (some .int) { frames := 3, cells := 0, slots := 0, locals := 64 } E [.ref (E.2.2.2.2.1 + o)] w (fX6_end w o) :=
  y_met (Qc := yQi E) (by decide +kernel) (Nat.le_of_ble_eq_true rfl) (fun g C hR => eX6_end C hR hO w ) l
def fX6_entry (w : Wd) (o : Nat) (a1 : Int32) (a2 : Int32) (a3 : Int32) : Option (Int32) :=
  (fX6_isList w a1).bind fun v1 =>
  if v1 = 0 then
    some (-1)
  else
    if a2 < 0 then
      some (-2)
    else
      if a3 < 0 then
        some (-2)
      else
        if a3 ≤ 1 then
          (ldI 706 w (o + 1) (480 + a1)).bind fun v6 =>
          if a2 < v6 then
            if a3 = 0 then
              (ldI 706 w (o + 1) ((0 + (40 * a1)) + a2)).bind fun v10 =>
              some v10
            else
              (ldI 706 w (o + 1) ((240 + (40 * a1)) + a2)).bind fun v9 =>
              some v9
          else
            some (-5)
        else
          some (-2)
set_option maxRecDepth 4000 in
theorem eX6_entry {g : Gx} {E : Ex} (C : CC g E cX6_entry 4 RX6 1 20) (hR : RT g (some .int)) {o : Nat} (hO : shM E.2.2.2.2.2.1 o) (w : Wd) (a1 : Int32) (a2 : Int32) (a3 : Int32) : YO g E 4 (QP g E w) (fX6_entry w o a1 a2 a3) w 0 [(0, .ref (E.2.2.2.2.1 + o)), (1, .int a1), (2, .int a2), (3, .int a3)] [] := by
  unfold fX6_entry
  refine y_iload_n (n := 1) C dX6_entry_0 1 rfl rfl ?_
  refine y_cp (n := 4) C (fun r hr H locs la hP hS hl => y_runS (st := []) C ky_X6_isList wd_792 ⟨Nat.le_of_ble_eq_true rfl, Nat.le_of_ble_eq_true rfl⟩ (mX6_isList w a1 g.2.1 r hr) rfl (Nat.le_of_ble_eq_true rfl) rfl dX6_entry_1 hP hS hl) rfl (fun v1 hv1 => ?_)
  refine y_if_ne (tgt := 9) (n := 7) C dX6_entry_4 (by decide) rfl (fun h2 => ?_) (fun h2 => ?_)
  · refine y_iload_n (n := 10) C dX6_entry_9 2 rfl rfl ?_
    refine y_if_lt (tgt := 22) (n := 13) C dX6_entry_10 (by decide) rfl (fun h3 => ?_) (fun h3 => ?_)
    · refine y_bipush (n := 24) C ((-2) : Int32) dX6_entry_22 (by decide) rfl ?_
      exact y_rp C hR dX6_entry_24
    · refine y_iload_n (n := 14) C dX6_entry_13 3 rfl rfl ?_
      refine y_if_lt (tgt := 22) (n := 17) C dX6_entry_14 (by decide) rfl (fun h4 => ?_) (fun h4 => ?_)
      · refine y_bipush (n := 24) C ((-2) : Int32) dX6_entry_22 (by decide) rfl ?_
        exact y_rp C hR dX6_entry_24
      · refine y_iload_n (n := 18) C dX6_entry_17 3 rfl rfl ?_
        refine y_iconst (n := 19) C (1 : Int32) dX6_entry_18 (by decide) rfl ?_
        refine y_icmp_le (tgt := 25) (n := 22) C dX6_entry_19 (by decide) rfl (fun h5 => ?_) (fun h5 => ?_)
        · refine y_iload_n (n := 26) C dX6_entry_25 2 rfl rfl ?_
          refine y_aload_n (n := 27) C dX6_entry_26 0 rfl rfl ?_
          refine y_get (ci := 6) (f := 0) (n := 30) C in_X6 hO.1 rfl (by decide) wd_731 rfl rfl dX6_entry_27 rfl ?_
          refine y_sipush (n := 33) C (480 : Int32) dX6_entry_30 (by decide) rfl ?_
          refine y_iload_n (n := 34) C dX6_entry_33 1 rfl rfl ?_
          refine y_iadd (n := 35) C dX6_entry_34 rfl ?_
          refine y_iald (n := 36) C hO.2.1 dX6_entry_35 rfl (fun v6 hv6 => ?_)
          refine y_icmp_lt (tgt := 42) (n := 39) C dX6_entry_36 (by decide) rfl (fun h7 => ?_) (fun h7 => ?_)
          · refine y_aload_n (n := 43) C dX6_entry_42 0 rfl rfl ?_
            refine y_get (ci := 6) (f := 0) (n := 46) C in_X6 hO.1 rfl (by decide) wd_731 rfl rfl dX6_entry_43 rfl ?_
            refine y_iload_n (n := 47) C dX6_entry_46 3 rfl rfl ?_
            refine y_if_ne (tgt := 54) (n := 50) C dX6_entry_47 (by decide) rfl (fun h8 => ?_) (fun h8 => ?_)
            · refine y_sipush (n := 57) C (240 : Int32) dX6_entry_54 (by decide) rfl ?_
              refine y_bipush (n := 59) C (40 : Int32) dX6_entry_57 (by decide) rfl ?_
              refine y_iload_n (n := 60) C dX6_entry_59 1 rfl rfl ?_
              refine y_imul (n := 61) C dX6_entry_60 rfl ?_
              refine y_iadd (n := 62) C dX6_entry_61 rfl ?_
              refine y_iload_n (n := 63) C dX6_entry_62 2 rfl rfl ?_
              refine y_iadd (n := 64) C dX6_entry_63 rfl ?_
              refine y_iald (n := 65) C hO.2.1 dX6_entry_64 rfl (fun v9 hv9 => ?_)
              exact y_rp C hR dX6_entry_65
            · refine y_iconst (n := 51) C (0 : Int32) dX6_entry_50 (by decide) rfl ?_
              refine y_goto (tgt := 57) C dX6_entry_51 (by decide) ?_
              refine y_bipush (n := 59) C (40 : Int32) dX6_entry_57 (by decide) rfl ?_
              refine y_iload_n (n := 60) C dX6_entry_59 1 rfl rfl ?_
              refine y_imul (n := 61) C dX6_entry_60 rfl ?_
              refine y_iadd (n := 62) C dX6_entry_61 rfl ?_
              refine y_iload_n (n := 63) C dX6_entry_62 2 rfl rfl ?_
              refine y_iadd (n := 64) C dX6_entry_63 rfl ?_
              refine y_iald (n := 65) C hO.2.1 dX6_entry_64 rfl (fun v10 hv10 => ?_)
              exact y_rp C hR dX6_entry_65
          · refine y_bipush (n := 41) C ((-5) : Int32) dX6_entry_39 (by decide) rfl ?_
            exact y_rp C hR dX6_entry_41
        · refine y_bipush (n := 24) C ((-2) : Int32) dX6_entry_22 (by decide) rfl ?_
          exact y_rp C hR dX6_entry_24
  · refine y_iconst (n := 8) C ((-1) : Int32) dX6_entry_7 (by decide) rfl ?_
    exact y_rp C hR dX6_entry_8
theorem mX6_entry {E : Ex} {o : Nat} (hO : shM E.2.2.2.2.2.1 o) (w : Wd) (a1 : Int32) (a2 : Int32) (a3 : Int32) (l : Launch) : MP l yX6_entry cX6_entry 4 (some .int) { frames := 1, cells := 0, slots := 0, locals := 20 } E [.ref (E.2.2.2.2.1 + o), .int a1, .int a2, .int a3] w (fX6_entry w o a1 a2 a3) :=
  y_met (Qc := fun r => yQi E (r, w)) (by decide +kernel) (Nat.le_of_ble_eq_true rfl) (fun g C hR => eX6_entry C hR hO w a1 a2 a3) l
def fX6_isDigit (w : Wd) (a1 : Int32) : Option (Int32) :=
  if a1 < 48 then
    rtZ 0
  else
    if 57 < a1 then
      rtZ 0
    else
      rtZ 1
set_option maxRecDepth 4000 in
theorem eX6_isDigit {g : Gx} {E : Ex} (C : CC g E cX6_isDigit 1 RX6 0 0) (hR : RT g (some .boolean))  (w : Wd) (a1 : Int32) : YO g E 1 (QP g E w) (fX6_isDigit w a1) w 0 [(0, .int a1)] [] := by
  unfold fX6_isDigit
  refine y_iload_n (n := 1) C dX6_isDigit_0 0 rfl rfl ?_
  refine y_bipush (n := 3) C (48 : Int32) dX6_isDigit_1 (by decide) rfl ?_
  refine y_icmp_lt (tgt := 16) (n := 6) C dX6_isDigit_3 (by decide) rfl (fun h1 => ?_) (fun h1 => ?_)
  · refine y_iconst (n := 17) C (0 : Int32) dX6_isDigit_16 (by decide) rfl ?_
    exact y_rz C hR dX6_isDigit_17
  · refine y_iload_n (n := 7) C dX6_isDigit_6 0 rfl rfl ?_
    refine y_bipush (n := 9) C (57 : Int32) dX6_isDigit_7 (by decide) rfl ?_
    refine y_icmp_gt (tgt := 16) (n := 12) C dX6_isDigit_9 (by decide) rfl (fun h2 => ?_) (fun h2 => ?_)
    · refine y_iconst (n := 17) C (0 : Int32) dX6_isDigit_16 (by decide) rfl ?_
      exact y_rz C hR dX6_isDigit_17
    · refine y_iconst (n := 13) C (1 : Int32) dX6_isDigit_12 (by decide) rfl ?_
      refine y_goto (tgt := 17) C dX6_isDigit_13 (by decide) ?_
      exact y_rz C hR dX6_isDigit_17
theorem mX6_isDigit {E : Ex}  (w : Wd) (a1 : Int32) (l : Launch) : MP l yX6_isDigit cX6_isDigit 1 (some .boolean) { frames := 0, cells := 0, slots := 0, locals := 0 } E [.int a1] w (fX6_isDigit w a1) :=
  y_met (Qc := fun r => yQi E (r, w)) (by decide +kernel) (Nat.le_of_ble_eq_true rfl) (fun g C hR => eX6_isDigit C hR  w a1) l
def fX6_isSmall (w : Wd) (a1 : Int32) : Option (Int32) :=
  if a1 < 97 then
    rtZ 0
  else
    if 122 < a1 then
      rtZ 0
    else
      rtZ 1
set_option maxRecDepth 4000 in
theorem eX6_isSmall {g : Gx} {E : Ex} (C : CC g E cX6_isSmall 1 RX6 0 0) (hR : RT g (some .boolean))  (w : Wd) (a1 : Int32) : YO g E 1 (QP g E w) (fX6_isSmall w a1) w 0 [(0, .int a1)] [] := by
  unfold fX6_isSmall
  refine y_iload_n (n := 1) C dX6_isSmall_0 0 rfl rfl ?_
  refine y_bipush (n := 3) C (97 : Int32) dX6_isSmall_1 (by decide) rfl ?_
  refine y_icmp_lt (tgt := 16) (n := 6) C dX6_isSmall_3 (by decide) rfl (fun h1 => ?_) (fun h1 => ?_)
  · refine y_iconst (n := 17) C (0 : Int32) dX6_isSmall_16 (by decide) rfl ?_
    exact y_rz C hR dX6_isSmall_17
  · refine y_iload_n (n := 7) C dX6_isSmall_6 0 rfl rfl ?_
    refine y_bipush (n := 9) C (122 : Int32) dX6_isSmall_7 (by decide) rfl ?_
    refine y_icmp_gt (tgt := 16) (n := 12) C dX6_isSmall_9 (by decide) rfl (fun h2 => ?_) (fun h2 => ?_)
    · refine y_iconst (n := 17) C (0 : Int32) dX6_isSmall_16 (by decide) rfl ?_
      exact y_rz C hR dX6_isSmall_17
    · refine y_iconst (n := 13) C (1 : Int32) dX6_isSmall_12 (by decide) rfl ?_
      refine y_goto (tgt := 17) C dX6_isSmall_13 (by decide) ?_
      exact y_rz C hR dX6_isSmall_17
theorem mX6_isSmall {E : Ex}  (w : Wd) (a1 : Int32) (l : Launch) : MP l yX6_isSmall cX6_isSmall 1 (some .boolean) { frames := 0, cells := 0, slots := 0, locals := 0 } E [.int a1] w (fX6_isSmall w a1) :=
  y_met (Qc := fun r => yQi E (r, w)) (by decide +kernel) (Nat.le_of_ble_eq_true rfl) (fun g C hR => eX6_isSmall C hR  w a1) l
def fX6_spells (w : Wd) (o : Nat) (a1 : Int32) (a2 : Int32) (a3 : Int32) (a4 : Int32) : Option (Int32) :=
  (ldI 40 w (o + 6) a4).bind fun v1 =>
  if v1 = a1 then
    (ldI 40 w (o + 6) (a4 + 1)).bind fun v3 =>
    if v3 = a2 then
      (ldI 40 w (o + 6) (a4 + 2)).bind fun v5 =>
      if v5 = a3 then
        rtZ 1
      else
        rtZ 0
    else
      rtZ 0
  else
    rtZ 0
set_option maxRecDepth 4000 in
theorem eX6_spells {g : Gx} {E : Ex} (C : CC g E cX6_spells 5 RX6 0 0) (hR : RT g (some .boolean)) {o : Nat} (hO : shM E.2.2.2.2.2.1 o) (w : Wd) (a1 : Int32) (a2 : Int32) (a3 : Int32) (a4 : Int32) : YO g E 5 (QP g E w) (fX6_spells w o a1 a2 a3 a4) w 0 [(0, .ref (E.2.2.2.2.1 + o)), (1, .int a1), (2, .int a2), (3, .int a3), (4, .int a4)] [] := by
  unfold fX6_spells
  refine y_aload_n (n := 1) C dX6_spells_0 0 rfl rfl ?_
  refine y_get (ci := 6) (f := 7) (n := 4) C in_X6 hO.1 rfl (by decide) wd_738 rfl rfl dX6_spells_1 rfl ?_
  refine y_iload (n := 6) C dX6_spells_4 4 rfl rfl ?_
  refine y_cald (n := 7) C hO.2.2.2.2.2.2.1 dX6_spells_6 rfl (fun v1 hv1 => ?_)
  refine y_iload_n (n := 8) C dX6_spells_7 1 rfl rfl ?_
  refine y_icmp_ne (tgt := 41) (n := 11) C dX6_spells_8 (by decide) rfl (fun h2 => ?_) (fun h2 => ?_)
  · refine y_iconst (n := 42) C (0 : Int32) dX6_spells_41 (by decide) rfl ?_
    exact y_rz C hR dX6_spells_42
  · refine y_aload_n (n := 12) C dX6_spells_11 0 rfl rfl ?_
    refine y_get (ci := 6) (f := 7) (n := 15) C in_X6 hO.1 rfl (by decide) wd_738 rfl rfl dX6_spells_12 rfl ?_
    refine y_iload (n := 17) C dX6_spells_15 4 rfl rfl ?_
    refine y_iconst (n := 18) C (1 : Int32) dX6_spells_17 (by decide) rfl ?_
    refine y_iadd (n := 19) C dX6_spells_18 rfl ?_
    refine y_cald (n := 20) C hO.2.2.2.2.2.2.1 dX6_spells_19 rfl (fun v3 hv3 => ?_)
    refine y_iload_n (n := 21) C dX6_spells_20 2 rfl rfl ?_
    refine y_icmp_ne (tgt := 41) (n := 24) C dX6_spells_21 (by decide) rfl (fun h4 => ?_) (fun h4 => ?_)
    · refine y_iconst (n := 42) C (0 : Int32) dX6_spells_41 (by decide) rfl ?_
      exact y_rz C hR dX6_spells_42
    · refine y_aload_n (n := 25) C dX6_spells_24 0 rfl rfl ?_
      refine y_get (ci := 6) (f := 7) (n := 28) C in_X6 hO.1 rfl (by decide) wd_738 rfl rfl dX6_spells_25 rfl ?_
      refine y_iload (n := 30) C dX6_spells_28 4 rfl rfl ?_
      refine y_iconst (n := 31) C (2 : Int32) dX6_spells_30 (by decide) rfl ?_
      refine y_iadd (n := 32) C dX6_spells_31 rfl ?_
      refine y_cald (n := 33) C hO.2.2.2.2.2.2.1 dX6_spells_32 rfl (fun v5 hv5 => ?_)
      refine y_iload_n (n := 34) C dX6_spells_33 3 rfl rfl ?_
      refine y_icmp_ne (tgt := 41) (n := 37) C dX6_spells_34 (by decide) rfl (fun h6 => ?_) (fun h6 => ?_)
      · refine y_iconst (n := 42) C (0 : Int32) dX6_spells_41 (by decide) rfl ?_
        exact y_rz C hR dX6_spells_42
      · refine y_iconst (n := 38) C (1 : Int32) dX6_spells_37 (by decide) rfl ?_
        refine y_goto (tgt := 42) C dX6_spells_38 (by decide) ?_
        exact y_rz C hR dX6_spells_42
theorem mX6_spells {E : Ex} {o : Nat} (hO : shM E.2.2.2.2.2.1 o) (w : Wd) (a1 : Int32) (a2 : Int32) (a3 : Int32) (a4 : Int32) (l : Launch) : MP l yX6_spells cX6_spells 5 (some .boolean) { frames := 0, cells := 0, slots := 0, locals := 0 } E [.ref (E.2.2.2.2.1 + o), .int a1, .int a2, .int a3, .int a4] w (fX6_spells w o a1 a2 a3 a4) :=
  y_met (Qc := fun r => yQi E (r, w)) (by decide +kernel) (Nat.le_of_ble_eq_true rfl) (fun g C hR => eX6_spells C hR hO w a1 a2 a3 a4) l
def fX6_isWord (w : Wd) (o : Nat) (a1 : Int32) (a2 : Int32) : Option (Int32) :=
  if a1 = 0 then
    if a2 = 3 then
      (fX6_spells w o 97 100 100 0).bind fun v3 =>
      if v3 = 0 then
        rtZ 0
      else
        rtZ 1
    else
      rtZ 0
  else
  if a1 = 1 then
    if a2 = 4 then
      (fX6_spells w o 100 114 111 0).bind fun v7 =>
      if v7 = 0 then
        rtZ 0
      else
        (ldI 40 w (o + 6) 3).bind fun v9 =>
        if v9 = 112 then
          rtZ 1
        else
          rtZ 0
    else
      rtZ 0
  else
  if a1 = 2 then
    if a2 = 6 then
      (fX6_spells w o 119 101 105 0).bind fun v13 =>
      if v13 = 0 then
        rtZ 0
      else
        (fX6_spells w o 103 104 116 3).bind fun v15 =>
        if v15 = 0 then
          rtZ 0
        else
          rtZ 1
    else
      rtZ 0
  else
  if a1 = 3 then
    if a2 = 5 then
      (fX6_spells w o 98 114 105 0).bind fun v19 =>
      if v19 = 0 then
        rtZ 0
      else
        (ldI 40 w (o + 6) 3).bind fun v21 =>
        if v21 = 98 then
          (ldI 40 w (o + 6) 4).bind fun v23 =>
          if v23 = 101 then
            rtZ 1
          else
            rtZ 0
        else
          rtZ 0
    else
      rtZ 0
  else
  if a1 = 4 then
    if a2 = 6 then
      (fX6_spells w o 100 101 108 0).bind fun v27 =>
      if v27 = 0 then
        rtZ 0
      else
        (fX6_spells w o 101 116 101 3).bind fun v29 =>
        if v29 = 0 then
          rtZ 0
        else
          rtZ 1
    else
      rtZ 0
  else
  if a1 = 5 then
    if a2 = 5 then
      (fX6_spells w o 98 114 105 0).bind fun v33 =>
      if v33 = 0 then
        rtZ 0
      else
        (ldI 40 w (o + 6) 3).bind fun v35 =>
        if v35 = 110 then
          (ldI 40 w (o + 6) 4).bind fun v37 =>
          if v37 = 103 then
            rtZ 1
          else
            rtZ 0
        else
          rtZ 0
    else
      rtZ 0
  else
  if a2 = 4 then
    (fX6_spells w o 119 97 110 0).bind fun v40 =>
    if v40 = 0 then
      rtZ 0
    else
      (ldI 40 w (o + 6) 3).bind fun v42 =>
      if v42 = 116 then
        rtZ 1
      else
        rtZ 0
  else
    rtZ 0
set_option maxRecDepth 4000 in
theorem eX6_isWord {g : Gx} {E : Ex} (C : CC g E cX6_isWord 3 RX6 1 24) (hR : RT g (some .boolean)) {o : Nat} (hO : shM E.2.2.2.2.2.1 o) (w : Wd) (a1 : Int32) (a2 : Int32) : YO g E 3 (QP g E w) (fX6_isWord w o a1 a2) w 0 [(0, .ref (E.2.2.2.2.1 + o)), (1, .int a1), (2, .int a2)] [] := by
  unfold fX6_isWord
  refine y_iload_n (n := 1) C dX6_isWord_0 1 rfl rfl ?_
  refine y_if (fun h1 => ?_) (fun h1 => ?_)
  · refine y_swIn (tgt := 40) C 39 dX6_isWord_1 (by rw [h1]; decide) (by rw [h1]; decide) (by rw [h1]; rfl) (by decide) ?_
    refine y_iload_n (n := 41) C dX6_isWord_40 2 rfl rfl ?_
    refine y_iconst (n := 42) C (3 : Int32) dX6_isWord_41 (by decide) rfl ?_
    refine y_icmp_ne (tgt := 63) (n := 45) C dX6_isWord_42 (by decide) rfl (fun h2 => ?_) (fun h2 => ?_)
    · refine y_iconst (n := 64) C (0 : Int32) dX6_isWord_63 (by decide) rfl ?_
      exact y_rz C hR dX6_isWord_64
    · refine y_aload_n (n := 46) C dX6_isWord_45 0 rfl rfl ?_
      refine y_bipush (n := 48) C (97 : Int32) dX6_isWord_46 (by decide) rfl ?_
      refine y_bipush (n := 50) C (100 : Int32) dX6_isWord_48 (by decide) rfl ?_
      refine y_bipush (n := 52) C (100 : Int32) dX6_isWord_50 (by decide) rfl ?_
      refine y_iconst (n := 53) C (0 : Int32) dX6_isWord_52 (by decide) rfl ?_
      refine y_cp (n := 56) C (fun r hr H locs la hP hS hl => y_runV (ci := 6) (st := []) C ky_X6_spells wd_1056 ⟨Nat.le_of_ble_eq_true rfl, Nat.le_of_ble_eq_true rfl⟩ hO.1 rfl (mX6_spells hO w 97 100 100 0 g.2.1 r hr) rfl (Nat.le_of_ble_eq_true rfl) rfl dX6_isWord_53 hP hS hl) rfl (fun v3 hv3 => ?_)
      refine y_if_eq (tgt := 63) (n := 59) C dX6_isWord_56 (by decide) rfl (fun h4 => ?_) (fun h4 => ?_)
      · refine y_iconst (n := 64) C (0 : Int32) dX6_isWord_63 (by decide) rfl ?_
        exact y_rz C hR dX6_isWord_64
      · refine y_iconst (n := 60) C (1 : Int32) dX6_isWord_59 (by decide) rfl ?_
        refine y_goto (tgt := 64) C dX6_isWord_60 (by decide) ?_
        exact y_rz C hR dX6_isWord_64
  refine y_if (fun h5 => ?_) (fun h5 => ?_)
  · refine y_swIn (tgt := 65) C 64 dX6_isWord_1 (by rw [h5]; decide) (by rw [h5]; decide) (by rw [h5]; rfl) (by decide) ?_
    refine y_iload_n (n := 66) C dX6_isWord_65 2 rfl rfl ?_
    refine y_iconst (n := 67) C (4 : Int32) dX6_isWord_66 (by decide) rfl ?_
    refine y_icmp_ne (tgt := 99) (n := 70) C dX6_isWord_67 (by decide) rfl (fun h6 => ?_) (fun h6 => ?_)
    · refine y_iconst (n := 100) C (0 : Int32) dX6_isWord_99 (by decide) rfl ?_
      exact y_rz C hR dX6_isWord_100
    · refine y_aload_n (n := 71) C dX6_isWord_70 0 rfl rfl ?_
      refine y_bipush (n := 73) C (100 : Int32) dX6_isWord_71 (by decide) rfl ?_
      refine y_bipush (n := 75) C (114 : Int32) dX6_isWord_73 (by decide) rfl ?_
      refine y_bipush (n := 77) C (111 : Int32) dX6_isWord_75 (by decide) rfl ?_
      refine y_iconst (n := 78) C (0 : Int32) dX6_isWord_77 (by decide) rfl ?_
      refine y_cp (n := 81) C (fun r hr H locs la hP hS hl => y_runV (ci := 6) (st := []) C ky_X6_spells wd_1056 ⟨Nat.le_of_ble_eq_true rfl, Nat.le_of_ble_eq_true rfl⟩ hO.1 rfl (mX6_spells hO w 100 114 111 0 g.2.1 r hr) rfl (Nat.le_of_ble_eq_true rfl) rfl dX6_isWord_78 hP hS hl) rfl (fun v7 hv7 => ?_)
      refine y_if_eq (tgt := 99) (n := 84) C dX6_isWord_81 (by decide) rfl (fun h8 => ?_) (fun h8 => ?_)
      · refine y_iconst (n := 100) C (0 : Int32) dX6_isWord_99 (by decide) rfl ?_
        exact y_rz C hR dX6_isWord_100
      · refine y_aload_n (n := 85) C dX6_isWord_84 0 rfl rfl ?_
        refine y_get (ci := 6) (f := 7) (n := 88) C in_X6 hO.1 rfl (by decide) wd_738 rfl rfl dX6_isWord_85 rfl ?_
        refine y_iconst (n := 89) C (3 : Int32) dX6_isWord_88 (by decide) rfl ?_
        refine y_cald (n := 90) C hO.2.2.2.2.2.2.1 dX6_isWord_89 rfl (fun v9 hv9 => ?_)
        refine y_bipush (n := 92) C (112 : Int32) dX6_isWord_90 (by decide) rfl ?_
        refine y_icmp_ne (tgt := 99) (n := 95) C dX6_isWord_92 (by decide) rfl (fun h10 => ?_) (fun h10 => ?_)
        · refine y_iconst (n := 100) C (0 : Int32) dX6_isWord_99 (by decide) rfl ?_
          exact y_rz C hR dX6_isWord_100
        · refine y_iconst (n := 96) C (1 : Int32) dX6_isWord_95 (by decide) rfl ?_
          refine y_goto (tgt := 100) C dX6_isWord_96 (by decide) ?_
          exact y_rz C hR dX6_isWord_100
  refine y_if (fun h11 => ?_) (fun h11 => ?_)
  · refine y_swIn (tgt := 101) C 100 dX6_isWord_1 (by rw [h11]; decide) (by rw [h11]; decide) (by rw [h11]; rfl) (by decide) ?_
    refine y_iload_n (n := 102) C dX6_isWord_101 2 rfl rfl ?_
    refine y_bipush (n := 104) C (6 : Int32) dX6_isWord_102 (by decide) rfl ?_
    refine y_icmp_ne (tgt := 139) (n := 107) C dX6_isWord_104 (by decide) rfl (fun h12 => ?_) (fun h12 => ?_)
    · refine y_iconst (n := 140) C (0 : Int32) dX6_isWord_139 (by decide) rfl ?_
      exact y_rz C hR dX6_isWord_140
    · refine y_aload_n (n := 108) C dX6_isWord_107 0 rfl rfl ?_
      refine y_bipush (n := 110) C (119 : Int32) dX6_isWord_108 (by decide) rfl ?_
      refine y_bipush (n := 112) C (101 : Int32) dX6_isWord_110 (by decide) rfl ?_
      refine y_bipush (n := 114) C (105 : Int32) dX6_isWord_112 (by decide) rfl ?_
      refine y_iconst (n := 115) C (0 : Int32) dX6_isWord_114 (by decide) rfl ?_
      refine y_cp (n := 118) C (fun r hr H locs la hP hS hl => y_runV (ci := 6) (st := []) C ky_X6_spells wd_1056 ⟨Nat.le_of_ble_eq_true rfl, Nat.le_of_ble_eq_true rfl⟩ hO.1 rfl (mX6_spells hO w 119 101 105 0 g.2.1 r hr) rfl (Nat.le_of_ble_eq_true rfl) rfl dX6_isWord_115 hP hS hl) rfl (fun v13 hv13 => ?_)
      refine y_if_eq (tgt := 139) (n := 121) C dX6_isWord_118 (by decide) rfl (fun h14 => ?_) (fun h14 => ?_)
      · refine y_iconst (n := 140) C (0 : Int32) dX6_isWord_139 (by decide) rfl ?_
        exact y_rz C hR dX6_isWord_140
      · refine y_aload_n (n := 122) C dX6_isWord_121 0 rfl rfl ?_
        refine y_bipush (n := 124) C (103 : Int32) dX6_isWord_122 (by decide) rfl ?_
        refine y_bipush (n := 126) C (104 : Int32) dX6_isWord_124 (by decide) rfl ?_
        refine y_bipush (n := 128) C (116 : Int32) dX6_isWord_126 (by decide) rfl ?_
        refine y_iconst (n := 129) C (3 : Int32) dX6_isWord_128 (by decide) rfl ?_
        refine y_cp (n := 132) C (fun r hr H locs la hP hS hl => y_runV (ci := 6) (st := []) C ky_X6_spells wd_1056 ⟨Nat.le_of_ble_eq_true rfl, Nat.le_of_ble_eq_true rfl⟩ hO.1 rfl (mX6_spells hO w 103 104 116 3 g.2.1 r hr) rfl (Nat.le_of_ble_eq_true rfl) rfl dX6_isWord_129 hP hS hl) rfl (fun v15 hv15 => ?_)
        refine y_if_eq (tgt := 139) (n := 135) C dX6_isWord_132 (by decide) rfl (fun h16 => ?_) (fun h16 => ?_)
        · refine y_iconst (n := 140) C (0 : Int32) dX6_isWord_139 (by decide) rfl ?_
          exact y_rz C hR dX6_isWord_140
        · refine y_iconst (n := 136) C (1 : Int32) dX6_isWord_135 (by decide) rfl ?_
          refine y_goto (tgt := 140) C dX6_isWord_136 (by decide) ?_
          exact y_rz C hR dX6_isWord_140
  refine y_if (fun h17 => ?_) (fun h17 => ?_)
  · refine y_swIn (tgt := 141) C 140 dX6_isWord_1 (by rw [h17]; decide) (by rw [h17]; decide) (by rw [h17]; rfl) (by decide) ?_
    refine y_iload_n (n := 142) C dX6_isWord_141 2 rfl rfl ?_
    refine y_iconst (n := 143) C (5 : Int32) dX6_isWord_142 (by decide) rfl ?_
    refine y_icmp_ne (tgt := 186) (n := 146) C dX6_isWord_143 (by decide) rfl (fun h18 => ?_) (fun h18 => ?_)
    · refine y_iconst (n := 187) C (0 : Int32) dX6_isWord_186 (by decide) rfl ?_
      exact y_rz C hR dX6_isWord_187
    · refine y_aload_n (n := 147) C dX6_isWord_146 0 rfl rfl ?_
      refine y_bipush (n := 149) C (98 : Int32) dX6_isWord_147 (by decide) rfl ?_
      refine y_bipush (n := 151) C (114 : Int32) dX6_isWord_149 (by decide) rfl ?_
      refine y_bipush (n := 153) C (105 : Int32) dX6_isWord_151 (by decide) rfl ?_
      refine y_iconst (n := 154) C (0 : Int32) dX6_isWord_153 (by decide) rfl ?_
      refine y_cp (n := 157) C (fun r hr H locs la hP hS hl => y_runV (ci := 6) (st := []) C ky_X6_spells wd_1056 ⟨Nat.le_of_ble_eq_true rfl, Nat.le_of_ble_eq_true rfl⟩ hO.1 rfl (mX6_spells hO w 98 114 105 0 g.2.1 r hr) rfl (Nat.le_of_ble_eq_true rfl) rfl dX6_isWord_154 hP hS hl) rfl (fun v19 hv19 => ?_)
      refine y_if_eq (tgt := 186) (n := 160) C dX6_isWord_157 (by decide) rfl (fun h20 => ?_) (fun h20 => ?_)
      · refine y_iconst (n := 187) C (0 : Int32) dX6_isWord_186 (by decide) rfl ?_
        exact y_rz C hR dX6_isWord_187
      · refine y_aload_n (n := 161) C dX6_isWord_160 0 rfl rfl ?_
        refine y_get (ci := 6) (f := 7) (n := 164) C in_X6 hO.1 rfl (by decide) wd_738 rfl rfl dX6_isWord_161 rfl ?_
        refine y_iconst (n := 165) C (3 : Int32) dX6_isWord_164 (by decide) rfl ?_
        refine y_cald (n := 166) C hO.2.2.2.2.2.2.1 dX6_isWord_165 rfl (fun v21 hv21 => ?_)
        refine y_bipush (n := 168) C (98 : Int32) dX6_isWord_166 (by decide) rfl ?_
        refine y_icmp_ne (tgt := 186) (n := 171) C dX6_isWord_168 (by decide) rfl (fun h22 => ?_) (fun h22 => ?_)
        · refine y_iconst (n := 187) C (0 : Int32) dX6_isWord_186 (by decide) rfl ?_
          exact y_rz C hR dX6_isWord_187
        · refine y_aload_n (n := 172) C dX6_isWord_171 0 rfl rfl ?_
          refine y_get (ci := 6) (f := 7) (n := 175) C in_X6 hO.1 rfl (by decide) wd_738 rfl rfl dX6_isWord_172 rfl ?_
          refine y_iconst (n := 176) C (4 : Int32) dX6_isWord_175 (by decide) rfl ?_
          refine y_cald (n := 177) C hO.2.2.2.2.2.2.1 dX6_isWord_176 rfl (fun v23 hv23 => ?_)
          refine y_bipush (n := 179) C (101 : Int32) dX6_isWord_177 (by decide) rfl ?_
          refine y_icmp_ne (tgt := 186) (n := 182) C dX6_isWord_179 (by decide) rfl (fun h24 => ?_) (fun h24 => ?_)
          · refine y_iconst (n := 187) C (0 : Int32) dX6_isWord_186 (by decide) rfl ?_
            exact y_rz C hR dX6_isWord_187
          · refine y_iconst (n := 183) C (1 : Int32) dX6_isWord_182 (by decide) rfl ?_
            refine y_goto (tgt := 187) C dX6_isWord_183 (by decide) ?_
            exact y_rz C hR dX6_isWord_187
  refine y_if (fun h25 => ?_) (fun h25 => ?_)
  · refine y_swIn (tgt := 188) C 187 dX6_isWord_1 (by rw [h25]; decide) (by rw [h25]; decide) (by rw [h25]; rfl) (by decide) ?_
    refine y_iload_n (n := 189) C dX6_isWord_188 2 rfl rfl ?_
    refine y_bipush (n := 191) C (6 : Int32) dX6_isWord_189 (by decide) rfl ?_
    refine y_icmp_ne (tgt := 226) (n := 194) C dX6_isWord_191 (by decide) rfl (fun h26 => ?_) (fun h26 => ?_)
    · refine y_iconst (n := 227) C (0 : Int32) dX6_isWord_226 (by decide) rfl ?_
      exact y_rz C hR dX6_isWord_227
    · refine y_aload_n (n := 195) C dX6_isWord_194 0 rfl rfl ?_
      refine y_bipush (n := 197) C (100 : Int32) dX6_isWord_195 (by decide) rfl ?_
      refine y_bipush (n := 199) C (101 : Int32) dX6_isWord_197 (by decide) rfl ?_
      refine y_bipush (n := 201) C (108 : Int32) dX6_isWord_199 (by decide) rfl ?_
      refine y_iconst (n := 202) C (0 : Int32) dX6_isWord_201 (by decide) rfl ?_
      refine y_cp (n := 205) C (fun r hr H locs la hP hS hl => y_runV (ci := 6) (st := []) C ky_X6_spells wd_1056 ⟨Nat.le_of_ble_eq_true rfl, Nat.le_of_ble_eq_true rfl⟩ hO.1 rfl (mX6_spells hO w 100 101 108 0 g.2.1 r hr) rfl (Nat.le_of_ble_eq_true rfl) rfl dX6_isWord_202 hP hS hl) rfl (fun v27 hv27 => ?_)
      refine y_if_eq (tgt := 226) (n := 208) C dX6_isWord_205 (by decide) rfl (fun h28 => ?_) (fun h28 => ?_)
      · refine y_iconst (n := 227) C (0 : Int32) dX6_isWord_226 (by decide) rfl ?_
        exact y_rz C hR dX6_isWord_227
      · refine y_aload_n (n := 209) C dX6_isWord_208 0 rfl rfl ?_
        refine y_bipush (n := 211) C (101 : Int32) dX6_isWord_209 (by decide) rfl ?_
        refine y_bipush (n := 213) C (116 : Int32) dX6_isWord_211 (by decide) rfl ?_
        refine y_bipush (n := 215) C (101 : Int32) dX6_isWord_213 (by decide) rfl ?_
        refine y_iconst (n := 216) C (3 : Int32) dX6_isWord_215 (by decide) rfl ?_
        refine y_cp (n := 219) C (fun r hr H locs la hP hS hl => y_runV (ci := 6) (st := []) C ky_X6_spells wd_1056 ⟨Nat.le_of_ble_eq_true rfl, Nat.le_of_ble_eq_true rfl⟩ hO.1 rfl (mX6_spells hO w 101 116 101 3 g.2.1 r hr) rfl (Nat.le_of_ble_eq_true rfl) rfl dX6_isWord_216 hP hS hl) rfl (fun v29 hv29 => ?_)
        refine y_if_eq (tgt := 226) (n := 222) C dX6_isWord_219 (by decide) rfl (fun h30 => ?_) (fun h30 => ?_)
        · refine y_iconst (n := 227) C (0 : Int32) dX6_isWord_226 (by decide) rfl ?_
          exact y_rz C hR dX6_isWord_227
        · refine y_iconst (n := 223) C (1 : Int32) dX6_isWord_222 (by decide) rfl ?_
          refine y_goto (tgt := 227) C dX6_isWord_223 (by decide) ?_
          exact y_rz C hR dX6_isWord_227
  refine y_if (fun h31 => ?_) (fun h31 => ?_)
  · refine y_swIn (tgt := 228) C 227 dX6_isWord_1 (by rw [h31]; decide) (by rw [h31]; decide) (by rw [h31]; rfl) (by decide) ?_
    refine y_iload_n (n := 229) C dX6_isWord_228 2 rfl rfl ?_
    refine y_iconst (n := 230) C (5 : Int32) dX6_isWord_229 (by decide) rfl ?_
    refine y_icmp_ne (tgt := 273) (n := 233) C dX6_isWord_230 (by decide) rfl (fun h32 => ?_) (fun h32 => ?_)
    · refine y_iconst (n := 274) C (0 : Int32) dX6_isWord_273 (by decide) rfl ?_
      exact y_rz C hR dX6_isWord_274
    · refine y_aload_n (n := 234) C dX6_isWord_233 0 rfl rfl ?_
      refine y_bipush (n := 236) C (98 : Int32) dX6_isWord_234 (by decide) rfl ?_
      refine y_bipush (n := 238) C (114 : Int32) dX6_isWord_236 (by decide) rfl ?_
      refine y_bipush (n := 240) C (105 : Int32) dX6_isWord_238 (by decide) rfl ?_
      refine y_iconst (n := 241) C (0 : Int32) dX6_isWord_240 (by decide) rfl ?_
      refine y_cp (n := 244) C (fun r hr H locs la hP hS hl => y_runV (ci := 6) (st := []) C ky_X6_spells wd_1056 ⟨Nat.le_of_ble_eq_true rfl, Nat.le_of_ble_eq_true rfl⟩ hO.1 rfl (mX6_spells hO w 98 114 105 0 g.2.1 r hr) rfl (Nat.le_of_ble_eq_true rfl) rfl dX6_isWord_241 hP hS hl) rfl (fun v33 hv33 => ?_)
      refine y_if_eq (tgt := 273) (n := 247) C dX6_isWord_244 (by decide) rfl (fun h34 => ?_) (fun h34 => ?_)
      · refine y_iconst (n := 274) C (0 : Int32) dX6_isWord_273 (by decide) rfl ?_
        exact y_rz C hR dX6_isWord_274
      · refine y_aload_n (n := 248) C dX6_isWord_247 0 rfl rfl ?_
        refine y_get (ci := 6) (f := 7) (n := 251) C in_X6 hO.1 rfl (by decide) wd_738 rfl rfl dX6_isWord_248 rfl ?_
        refine y_iconst (n := 252) C (3 : Int32) dX6_isWord_251 (by decide) rfl ?_
        refine y_cald (n := 253) C hO.2.2.2.2.2.2.1 dX6_isWord_252 rfl (fun v35 hv35 => ?_)
        refine y_bipush (n := 255) C (110 : Int32) dX6_isWord_253 (by decide) rfl ?_
        refine y_icmp_ne (tgt := 273) (n := 258) C dX6_isWord_255 (by decide) rfl (fun h36 => ?_) (fun h36 => ?_)
        · refine y_iconst (n := 274) C (0 : Int32) dX6_isWord_273 (by decide) rfl ?_
          exact y_rz C hR dX6_isWord_274
        · refine y_aload_n (n := 259) C dX6_isWord_258 0 rfl rfl ?_
          refine y_get (ci := 6) (f := 7) (n := 262) C in_X6 hO.1 rfl (by decide) wd_738 rfl rfl dX6_isWord_259 rfl ?_
          refine y_iconst (n := 263) C (4 : Int32) dX6_isWord_262 (by decide) rfl ?_
          refine y_cald (n := 264) C hO.2.2.2.2.2.2.1 dX6_isWord_263 rfl (fun v37 hv37 => ?_)
          refine y_bipush (n := 266) C (103 : Int32) dX6_isWord_264 (by decide) rfl ?_
          refine y_icmp_ne (tgt := 273) (n := 269) C dX6_isWord_266 (by decide) rfl (fun h38 => ?_) (fun h38 => ?_)
          · refine y_iconst (n := 274) C (0 : Int32) dX6_isWord_273 (by decide) rfl ?_
            exact y_rz C hR dX6_isWord_274
          · refine y_iconst (n := 270) C (1 : Int32) dX6_isWord_269 (by decide) rfl ?_
            refine y_goto (tgt := 274) C dX6_isWord_270 (by decide) ?_
            exact y_rz C hR dX6_isWord_274
  refine y_swOut (tgt := 275) C dX6_isWord_1 (by have gh1 := sw_ne (k := 0) (by decide) h1; have gh5 := sw_ne (k := 1) (by decide) h5; have gh11 := sw_ne (k := 2) (by decide) h11; have gh17 := sw_ne (k := 3) (by decide) h17; have gh25 := sw_ne (k := 4) (by decide) h25; have gh31 := sw_ne (k := 5) (by decide) h31; omega) (by decide) ?_
  refine y_iload_n (n := 276) C dX6_isWord_275 2 rfl rfl ?_
  refine y_iconst (n := 277) C (4 : Int32) dX6_isWord_276 (by decide) rfl ?_
  refine y_icmp_ne (tgt := 309) (n := 280) C dX6_isWord_277 (by decide) rfl (fun h39 => ?_) (fun h39 => ?_)
  · refine y_iconst (n := 310) C (0 : Int32) dX6_isWord_309 (by decide) rfl ?_
    exact y_rz C hR dX6_isWord_310
  · refine y_aload_n (n := 281) C dX6_isWord_280 0 rfl rfl ?_
    refine y_bipush (n := 283) C (119 : Int32) dX6_isWord_281 (by decide) rfl ?_
    refine y_bipush (n := 285) C (97 : Int32) dX6_isWord_283 (by decide) rfl ?_
    refine y_bipush (n := 287) C (110 : Int32) dX6_isWord_285 (by decide) rfl ?_
    refine y_iconst (n := 288) C (0 : Int32) dX6_isWord_287 (by decide) rfl ?_
    refine y_cp (n := 291) C (fun r hr H locs la hP hS hl => y_runV (ci := 6) (st := []) C ky_X6_spells wd_1056 ⟨Nat.le_of_ble_eq_true rfl, Nat.le_of_ble_eq_true rfl⟩ hO.1 rfl (mX6_spells hO w 119 97 110 0 g.2.1 r hr) rfl (Nat.le_of_ble_eq_true rfl) rfl dX6_isWord_288 hP hS hl) rfl (fun v40 hv40 => ?_)
    refine y_if_eq (tgt := 309) (n := 294) C dX6_isWord_291 (by decide) rfl (fun h41 => ?_) (fun h41 => ?_)
    · refine y_iconst (n := 310) C (0 : Int32) dX6_isWord_309 (by decide) rfl ?_
      exact y_rz C hR dX6_isWord_310
    · refine y_aload_n (n := 295) C dX6_isWord_294 0 rfl rfl ?_
      refine y_get (ci := 6) (f := 7) (n := 298) C in_X6 hO.1 rfl (by decide) wd_738 rfl rfl dX6_isWord_295 rfl ?_
      refine y_iconst (n := 299) C (3 : Int32) dX6_isWord_298 (by decide) rfl ?_
      refine y_cald (n := 300) C hO.2.2.2.2.2.2.1 dX6_isWord_299 rfl (fun v42 hv42 => ?_)
      refine y_bipush (n := 302) C (116 : Int32) dX6_isWord_300 (by decide) rfl ?_
      refine y_icmp_ne (tgt := 309) (n := 305) C dX6_isWord_302 (by decide) rfl (fun h43 => ?_) (fun h43 => ?_)
      · refine y_iconst (n := 310) C (0 : Int32) dX6_isWord_309 (by decide) rfl ?_
        exact y_rz C hR dX6_isWord_310
      · refine y_iconst (n := 306) C (1 : Int32) dX6_isWord_305 (by decide) rfl ?_
        refine y_goto (tgt := 310) C dX6_isWord_306 (by decide) ?_
        exact y_rz C hR dX6_isWord_310
theorem mX6_isWord {E : Ex} {o : Nat} (hO : shM E.2.2.2.2.2.1 o) (w : Wd) (a1 : Int32) (a2 : Int32) (l : Launch) : MP l yX6_isWord cX6_isWord 3 (some .boolean) { frames := 1, cells := 0, slots := 0, locals := 24 } E [.ref (E.2.2.2.2.1 + o), .int a1, .int a2] w (fX6_isWord w o a1 a2) :=
  y_met (Qc := fun r => yQi E (r, w)) (by decide +kernel) (Nat.le_of_ble_eq_true rfl) (fun g C hR => eX6_isWord C hR hO w a1 a2) l
