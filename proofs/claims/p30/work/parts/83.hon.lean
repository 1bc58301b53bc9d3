/-! PURE PART: how long a reading goes on, and what holds in one with honest clerks -/
theorem itr_add (a : Nat → Nat) : ∀ m n, itr a (m + n) = itr (itr a m) n := by
  intro m
  induction m generalizing a with
  | zero => intro n; rw [Nat.zero_add]; rfl
  | succ m ih =>
    intro n
    rw [show m + 1 + n = (m + n) + 1 by omega]
    exact ih (nxt a) n
/-- the reading is over behind N steps, and not before -/
def OV (a : Nat → Nat) (N : Nat) : Prop := ov (itr a N) ∧ ∀ j, j < N → ¬ ov (itr a j)
theorem OV_run : ∀ (n : Nat) (a : Nat → Nat) (N : Nat), OV a N → run a n = min n N := by
  intro n
  induction n with
  | zero => intro a N _; rw [Nat.zero_min]; rfl
  | succ n ih =>
    intro a N h
    by_cases ho : ov a
    · have h0 : N = 0 := by
        have : ¬ 0 < N := fun z => h.2 0 z ho
        omega
      rw [run_o ho, h0, Nat.min_zero]
    · have h0 : N ≠ 0 := fun z => by subst z; exact ho h.1
      obtain ⟨M, rfl⟩ : ∃ M, N = M + 1 := ⟨N - 1, by omega⟩
      rw [run_n ho, ih (nxt a) M ⟨h.1, fun j hj => h.2 (j + 1) (by omega)⟩]
      omega
theorem OV_from {a : Nat → Nat} {N j : Nat} (h : OV a N) (hj : j ≤ N) : OV (itr a j) (N - j) := by
  refine ⟨?_, fun i hi => ?_⟩
  · rw [← itr_add, show j + (N - j) = N by omega]; exact h.1
  · rw [← itr_add]; exact h.2 _ (by omega)
theorem GR_ent {a : Nat → Nat} (G : GR a) : a 564 ≤ ent a := by
  rw [G.2.1.2.2.2.2.2.2.1]
  exact sm_le_sm (fun l hl => (G.2.1.1 l hl).1)
theorem nxt_564 {a : Nat → Nat} (G : GR a) (h : ¬ ov a) : nxt a 564 = a 564 + 1 := (nx_facts G h).2.2.2.2.2.2.1.2.1
theorem ent_nxt {a : Nat → Nat} (G : GR a) (h : ¬ ov a) : ent (nxt a) = ent a := sm_cong (fun l hl => (nxt_559 G h).1 _ (by omega))
theorem OV_ex : ∀ (n : Nat) (a : Nat → Nat), GR a → ent a ≤ a 564 + n → ∃ N, N ≤ n ∧ OV a N := by
  intro n
  induction n with
  | zero =>
    intro a G he
    refine ⟨0, Nat.le_refl _, ?_, fun j hj => by omega⟩
    apply Classical.byContradiction
    intro h
    have h : ¬ ov a := h
    have h1 := GR_ent (GR_nxt G h)
    rw [nxt_564 G h, ent_nxt G h] at h1
    omega
  | succ n ih =>
    intro a G he
    by_cases h : ov a
    · exact ⟨0, by omega, h, fun j hj => by omega⟩
    · obtain ⟨N, hN, o1, o2⟩ := ih (nxt a) (GR_nxt G h) (by rw [ent_nxt G h, nxt_564 G h]; omega)
      refine ⟨N + 1, by omega, o1, fun j hj => ?_⟩
      cases j with
      | zero => exact h
      | succ j => exact o2 j (by omega)
/-- honest clerks, and who is seen was read -/
def JX (a : Nat → Nat) : Prop := ∀ d, d < 60 → sn a d → ∃ l p, l < 6 ∧ p < a (568 + l) ∧ 0 < a (486 + l) ∧ a (40 * l + p) = d
def HX (a : Nat → Nat) : Prop := GR a ∧ (∀ l, l < 6 → a (492 + l) = 0 ∧ a (574 + l) = 0) ∧ JX a
theorem HX_tb {a : Nat → Nat} (H : HX a) {l : Nat} (hl : l < 6) : tb a l = bd a l := by
  unfold tb
  rw [(H.2.1 l hl).2, if_neg (by omega), (H.2.1 l hl).1]
  omega
theorem HX_nxt {a : Nat → Nat} (H : HX a) (h : ¬ ov a) : HX (nxt a) ∧ nxt a 567 = a 567 := by
  obtain ⟨h1, h2, h3, S, T⟩ := nx_facts H.1 h
  have e := HX_tb H h1
  have k := (nxt_559 H.1 h).1
  refine ⟨⟨GR_nxt H.1 h, fun l hl => ⟨?_, ?_⟩, fun d hd hs => ?_⟩, ?_⟩
  · rw [k _ (by omega)]; exact (H.2.1 l hl).1
  · rw [T.2.2.2.2.1 l hl, if_neg (by rw [e]; omega)]; exact (H.2.1 l hl).2
  · have more : ∀ l, l < 6 → a (568 + l) ≤ nxt a (568 + l) := fun l hl => by
      rw [T.2.2.2.1 l hl]
      split <;> omega
    by_cases hsa : sn a d
    · obtain ⟨l, p, hl, hp, hw, hd'⟩ := H.2.2 d hd hsa
      have hz := (H.1.1.1 l hl).1
      have hr := (H.1.2.1.1 l hl).1
      have := more l hl
      exact ⟨l, p, hl, by omega, by rw [k _ (by omega)]; exact hw, by rw [k _ (by omega)]; exact hd'⟩
    · have hz := (H.1.1.1 _ h1).1
      have hr := (H.1.2.1.1 _ h1).1
      refine ⟨nx a 6, a (568 + nx a 6), h1, by rw [T.2.2.2.1 _ h1, if_pos rfl]; omega, by rw [k _ (by omega)]; exact h2.1, ?_⟩
      rw [k _ (by omega)]
      apply Classical.byContradiction
      intro hne
      have hne : nxd a ≠ d := hne
      have := (T.2.2.2.2.2.2.1 d hd (fun z => hne z.symm)).1
      unfold sn at hs hsa
      omega
  · rw [T.2.2.1.2.2.2, if_neg (by rw [e]; omega)]
    rfl
theorem HX_itr : ∀ (j : Nat) (a : Nat → Nat), HX a → (∀ i, i < j → ¬ ov (itr a i)) → HX (itr a j) ∧ (∀ k, k < 560 → itr a j k = a k) ∧ itr a j 566 = a 566 ∧ itr a j 567 = a 567 ∧ itr a j 564 = a 564 + j := by
  intro j
  induction j with
  | zero => intro a H _; exact ⟨H, fun _ _ => rfl, rfl, rfl, rfl⟩
  | succ j ih =>
    intro a H h
    have h0 : ¬ ov a := h 0 (by omega)
    have n := nxt_559 H.1 h0
    obtain ⟨H1, e1⟩ := HX_nxt H h0
    obtain ⟨i1, i2, i3, i4, i5⟩ := ih (nxt a) H1 (fun i hi => h (i + 1) (by omega))
    refine ⟨i1, fun k hk => (i2 k hk).trans (n.1 k hk), i3.trans n.2, i4.trans e1, ?_⟩
    have := nxt_564 H.1 h0
    show itr (nxt a) j 564 = _
    omega
theorem HX_stA {a : Nat → Nat} (I : IO a) (hb : ∀ l, l < 6 → a (492 + l) = 0) {v x : Nat} (hv : v ≤ 2) (hx : x ≤ 1) : HX (stA a v x) := by
  obtain ⟨S, G⟩ := stA_ok I hv hx
  obtain ⟨s1, s2, s3, s4, s5, s6, s7, s8, s9, s10, s11⟩ := S
  refine ⟨G, fun l hl => ⟨by rw [s1 _ (by omega)]; exact hb l hl, (s10 l hl).2.1⟩, fun d hd hs => ?_⟩
  unfold sn at hs
  rw [(s11 d hd).1] at hs
  omega
