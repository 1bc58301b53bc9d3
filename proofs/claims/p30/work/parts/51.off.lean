/-! PURE PART, THE OFFICE: what a row z says (a: its numbers), spec functions, the reference's reads -/
def ZA (z : Nat → Int32) (a : Nat → Nat) : Prop := (∀ k, k < 706 → k ≠ 563 → z k = nI (a k)) ∧ z 563 = nI (a 563) - 1
def IO (a : Nat → Nat) : Prop :=
  (∀ l, l < 6 → a (480 + l) ≤ 40 ∧ a (486 + l) ≤ 9 ∧ a (492 + l) ≤ 500) ∧
  (∀ l p, l < 6 → p < a (480 + l) → a (40 * l + p) < 60 ∧ 1 ≤ a (240 + 40 * l + p) ∧ a (240 + 40 * l + p) ≤ 999) ∧
  (∀ l p q, l < 6 → p < q → q < a (480 + l) → a (240 + 40 * l + q) < a (240 + 40 * l + p) ∨ (a (240 + 40 * l + q) = a (240 + 40 * l + p) ∧ a (40 * l + p) < a (40 * l + q))) ∧
  (∀ l p q, l < 6 → p < q → q < a (480 + l) → a (40 * l + p) ≠ a (40 * l + q)) ∧
  (∀ d, d < 60 → a (498 + d) ≤ 1) ∧ (1 ≤ a 558 ∧ a 558 ≤ 10) ∧ a 559 ≤ 1
theorem n1 : (1 : Int32) = nI 1 := by decide
theorem n2 : (2 : Int32) = nI 2 := by decide
theorem n3 : (3 : Int32) = nI 3 := by decide
theorem n4 : (4 : Int32) = nI 4 := by decide
theorem n6 : (6 : Int32) = nI 6 := by decide
theorem n40 : (40 : Int32) = nI 40 := by decide
theorem n60 : (60 : Int32) = nI 60 := by decide
theorem n240 : (240 : Int32) = nI 240 := by decide
theorem n480 : (480 : Int32) = nI 480 := by decide
theorem n486 : (486 : Int32) = nI 486 := by decide
theorem n492 : (492 : Int32) = nI 492 := by decide
theorem n498 : (498 : Int32) = nI 498 := by decide
theorem n558 : (558 : Int32) = nI 558 := by decide
theorem n559 : (559 : Int32) = nI 559 := by decide
def pl (a : Nat → Nat) (l d : Nat) : Nat → Int32
  | 0 => -1
  | n + 1 => if a (40 * l + n) = d then nI n else pl a l d n
def scr (a : Nat → Nat) (l d : Nat) : Nat := sm (fun p => if a (40 * l + p) = d then a (240 + 40 * l + p) else 0) (a (480 + l))
def val (a : Nat → Nat) (d : Nat) : Nat := sm (fun l => a (486 + l) * scr a l d) 6
theorem zl {w : Wd} {a : Nat → Nat} (Z : ZA (w.1 112) a) {k : Nat} (h : k < 706) (h2 : k ≠ 563) : ldI 706 w 112 (nI k) = some (nI (a k)) := by rw [ldI_n h (by decide), Z.1 k h h2]
section MO
variable {w : Wd} {a : Nat → Nat}
theorem M_placeOf (Z : ZA (w.1 112) a) (I : IO a) {l d : Nat} (hl : l < 6) (hd : d < 60) : fX6_placeOf w 111 (nI l) (nI d) = some (pl a l d (a (480 + l))) := by
  have hs := (I.1 l hl).1
  refine loopN (fun n i => lX6_placeOf_5 111 n w (nI l) (nI d) (pl a l d i) (nI i)) (a (480 + l)) _ (fun n i hi => ?_) (fun n => ?_) 4096 (by omega)
  · have hb := I.2.1 l i hl hi
    show lX6_placeOf_5 111 (n + 1) w (nI l) (nI d) (pl a l d i) (nI i) = _
    rw [lX6_placeOf_5]
    simp (disch := omega) only [Nat.reduceAdd, l0, n1, n40, n480, nI_add, nI_mul, Nat.zero_add, zl Z, ob_some, nI_le_, nI_eq_]
    rw [if_neg (by omega), pl]
    split <;> rfl
  · show lX6_placeOf_5 111 (n + 1) w (nI l) (nI d) (pl a l d (a (480 + l))) (nI (a (480 + l))) = _
    rw [lX6_placeOf_5]
    simp (disch := omega) only [Nat.reduceAdd, l0, n1, n40, n480, nI_add, nI_mul, Nat.zero_add, zl Z, ob_some, nI_le_, nI_eq_]
    rw [if_pos (by omega)]
theorem pl_cases (I : IO a) {l d : Nat} (hl : l < 6) : (∃ p, p < a (480 + l) ∧ a (40 * l + p) = d ∧ pl a l d (a (480 + l)) = nI p ∧ scr a l d = a (240 + 40 * l + p)) ∨ ((∀ p, p < a (480 + l) → a (40 * l + p) ≠ d) ∧ pl a l d (a (480 + l)) = -1 ∧ scr a l d = 0) := by
  by_cases h : ∃ p, p < a (480 + l) ∧ a (40 * l + p) = d
  · left
    obtain ⟨p, hp, hd⟩ := h
    have hne : ∀ q, q < a (480 + l) → q ≠ p → a (40 * l + q) ≠ d := by
      intro q hq hqp e
      by_cases hlt : q < p
      · exact I.2.2.2.1 l q p hl hlt hp (e.trans hd.symm)
      · exact I.2.2.2.1 l p q hl (by omega) hq (hd.trans e.symm)
    refine ⟨p, hp, hd, ?_, ?_⟩
    · have key : ∀ n, p < n → n ≤ a (480 + l) → pl a l d n = nI p := by
        intro n
        induction n with
        | zero => intro h; omega
        | succ n ih =>
          intro h1 h2
          rw [pl]
          by_cases hn : n = p
          · subst hn; rw [if_pos hd]
          · rw [if_neg (hne n (by omega) hn)]
            exact ih (by omega) (by omega)
      exact key _ hp (Nat.le_refl _)
    · unfold scr
      rw [sm_one hp (fun i hi hip => by rw [if_neg (hne i hi hip)]), if_pos hd]
  · right
    have hne : ∀ p, p < a (480 + l) → a (40 * l + p) ≠ d := fun p hp e => h ⟨p, hp, e⟩
    refine ⟨hne, ?_, ?_⟩
    · have key : ∀ n, n ≤ a (480 + l) → pl a l d n = -1 := by
        intro n
        induction n with
        | zero => intro _; rfl
        | succ n ih =>
          intro h2
          rw [pl, if_neg (hne n (by omega))]
          exact ih (by omega)
      exact key _ (Nat.le_refl _)
    · unfold scr
      exact sm_zero (fun i hi => by rw [if_neg (hne i hi)])
theorem scr_le (I : IO a) {l d : Nat} (hl : l < 6) : scr a l d ≤ 999 := by
  rcases pl_cases I (d := d) hl with ⟨p, hp, -, -, e⟩ | ⟨-, -, e⟩
  · rw [e]; exact (I.2.1 l p hl hp).2.2
  · rw [e]; omega
theorem M_scoreOf (Z : ZA (w.1 112) a) (I : IO a) {l d : Nat} (hl : l < 6) (hd : d < 60) : fX6_scoreOf w 111 (nI l) (nI d) = some (nI (scr a l d)) := by
  have hs := (I.1 l hl).1
  unfold fX6_scoreOf
  rw [M_placeOf Z I hl hd]
  rcases pl_cases I (d := d) hl with ⟨p, hp, -, e1, e2⟩ | ⟨-, e1, e2⟩
  · rw [e1, e2]
    simp (disch := omega) only [Nat.reduceAdd, l0, n1, n40, n240, n480, nI_add, nI_mul, Nat.zero_add, zl Z, ob_some, nI_le_, nI_eq_]
    rw [if_pos (by omega)]
  · rw [e1, e2]
    rfl
theorem val_le (I : IO a) (d : Nat) : val a d ≤ 60000 := by
  have h : val a d ≤ 6 * 9000 := sm_le (fun l hl => by
    have h1 := (I.1 l hl).2.1
    have h2 := scr_le I (d := d) hl
    calc a (486 + l) * scr a l d ≤ 9 * 999 := Nat.mul_le_mul h1 h2
      _ ≤ 9000 := by omega)
  omega
theorem vsm_le (I : IO a) (d i : Nat) (hi : i ≤ 6) : sm (fun l => a (486 + l) * scr a l d) i ≤ 60000 := Nat.le_trans (sm_mono hi) (val_le I d)
theorem M_value (Z : ZA (w.1 112) a) (I : IO a) {d : Nat} (hd : d < 60) : fX6_value w 111 (nI d) = some (nI (val a d)) := by
  refine loopN (fun n i => lX6_value_4 111 n w (nI d) (nI (sm (fun l => a (486 + l) * scr a l d) i)) (nI i)) 6 _ (fun n i hi => ?_) (fun n => ?_) 4096 (by omega)
  · show lX6_value_4 111 (n + 1) w (nI d) _ (nI i) = _
    rw [lX6_value_4]
    simp (disch := omega) only [Nat.reduceAdd, l0, n1, n6, n486, nI_add, nI_mul, Nat.zero_add, zl Z, ob_some, nI_le_, M_scoreOf Z I]
    rw [if_neg (by omega), sm]
  · show lX6_value_4 111 (n + 1) w (nI d) _ (nI 6) = _
    rw [lX6_value_4]
    simp (disch := omega) only [n6, nI_le_]
    rw [if_pos (by omega), val]
def may (a : Nat → Nat) (d : Nat) : Prop := a (498 + d) = 0 ∧ 0 < val a d
theorem M_may (Z : ZA (w.1 112) a) (I : IO a) {d : Nat} (hd : d < 60) (h : may a d) : fX6_mayBeWanted w 111 (nI d) = some 1 := by
  have hv := val_le I d
  have hg := I.2.2.2.2.1 d hd
  unfold fX6_mayBeWanted
  simp (disch := omega) only [Nat.reduceAdd, l0, n498, nI_add, zl Z, ob_some, nI_le_, nI_eq_, M_value Z I]
  rw [if_pos h.1, if_neg (by have := h.2; omega)]
  rfl
theorem M_mayN (Z : ZA (w.1 112) a) (I : IO a) {d : Nat} (hd : d < 60) (h : ¬ may a d) : fX6_mayBeWanted w 111 (nI d) = some 0 := by
  have hv := val_le I d
  have hg := I.2.2.2.2.1 d hd
  unfold fX6_mayBeWanted
  simp (disch := omega) only [Nat.reduceAdd, l0, n498, nI_add, zl Z, ob_some, nI_le_, nI_eq_, M_value Z I]
  by_cases h0 : a (498 + d) = 0
  · rw [if_pos h0, if_pos (by
      have : ¬ 0 < val a d := fun z => h ⟨h0, z⟩
      omega)]
    rfl
  · rw [if_neg h0]
    rfl
/-- whether e stands ahead of d among those that are wanted -/
def wah (a : Nat → Nat) (d e : Nat) : Prop := may a e ∧ (val a d < val a e ∨ (val a e = val a d ∧ e < d))
noncomputable def wct (a : Nat → Nat) (d n : Nat) : Nat := sm (fun e => @ite Nat (wah a d e) (Classical.propDecidable _) 1 0) n
theorem wct_le (a : Nat → Nat) (d n : Nat) : wct a d n ≤ n := by
  have : wct a d n ≤ n * 1 := sm_le (fun i _ => by split <;> omega)
  omega
theorem wct_s {a : Nat → Nat} {d n : Nat} (h : wah a d n) : wct a d (n + 1) = wct a d n + 1 := by
  unfold wct
  rw [sm, if_pos h]
theorem wct_n {a : Nat → Nat} {d n : Nat} (h : ¬ wah a d n) : wct a d (n + 1) = wct a d n := by
  unfold wct
  rw [sm, if_neg h]
  rfl
theorem M_wantedPlace (Z : ZA (w.1 112) a) (I : IO a) {d : Nat} (hd : d < 60) : (may a d → wct a d 60 < a 558 → fX6_wantedPlace w 111 (nI d) = some (nI (wct a d 60))) ∧ (may a d → ¬ wct a d 60 < a 558 → fX6_wantedPlace w 111 (nI d) = some (-1)) ∧ (¬ may a d → fX6_wantedPlace w 111 (nI d) = some (-1)) := by
  have key : may a d → fX6_wantedPlace w 111 (nI d) = if a 558 ≤ wct a d 60 then some (-1) else some (nI (wct a d 60)) := by
    intro hm
    unfold fX6_wantedPlace
    rw [M_may Z I hd hm]
    simp (disch := omega) only [ob_some, M_value Z I]
    rw [if_neg (by decide)]
    refine loopN (fun n i => lX6_wantedPlace_21 111 n w (nI d) (nI (val a d)) (nI (wct a d i)) (nI i)) 60 _ (fun n i hi => ?_) (fun n => ?_) 4096 (by omega)
    · show lX6_wantedPlace_21 111 (n + 1) w (nI d) (nI (val a d)) (nI (wct a d i)) (nI i) = _
      have v1 := val_le I d
      have v2 := val_le I i
      rw [lX6_wantedPlace_21]
      by_cases hi2 : may a i
      · rw [M_may Z I hi hi2]
        simp (disch := omega) only [Nat.reduceAdd, l0, n1, n60, nI_add, ob_some, nI_le_, nI_lt_, nI_eq_, M_value Z I, Nat.add_zero]
        rw [if_neg (by omega), if_neg (by decide)]
        by_cases c1 : val a d < val a i
        · rw [if_pos c1, wct_s ⟨hi2, Or.inl c1⟩]
        · rw [if_neg c1]
          by_cases c2 : val a i = val a d
          · rw [if_pos c2]
            by_cases c3 : d ≤ i
            · rw [if_pos c3, wct_n (by rintro ⟨-, h | h⟩ <;> omega)]
            · rw [if_neg c3, wct_s ⟨hi2, Or.inr ⟨c2, by omega⟩⟩]
          · rw [if_neg c2, wct_n (by rintro ⟨-, h | h⟩ <;> omega)]
      · rw [M_mayN Z I hi hi2]
        simp (disch := omega) only [Nat.reduceAdd, l0, n1, n60, nI_add, ob_some, nI_le_, nI_eq_]
        rw [if_neg (by omega), if_pos (by decide), wct_n (fun h => hi2 h.1)]
    · show lX6_wantedPlace_21 111 (n + 1) w (nI d) (nI (val a d)) (nI (wct a d 60)) (nI 60) = _
      have := wct_le a d 60
      have := I.2.2.2.2.2.1
      rw [lX6_wantedPlace_21]
      simp (disch := omega) only [Nat.reduceAdd, n60, n558, zl Z, ob_some, nI_le_]
      rw [if_pos (by omega)]
  refine ⟨fun hm h => ?_, fun hm h => ?_, fun hm => ?_⟩
  · rw [key hm, if_neg (by omega)]
  · rw [key hm, if_pos (by omega)]
  · unfold fX6_wantedPlace
    rw [M_mayN Z I hd hm]
    rfl
end MO
