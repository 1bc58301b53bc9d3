/-! PURE PART: the class sees a document (2) -/
theorem sm_le_sm {f g : Nat → Nat} : ∀ {n : Nat}, (∀ i, i < n → f i ≤ g i) → sm f n ≤ sm g n := by
  intro n
  induction n with
  | zero => intro _; exact Nat.le_refl _
  | succ n ih =>
    intro h
    have h1 := ih (fun i hi => h i (by omega))
    have h2 := h n (by omega)
    rw [sm, sm]
    omega
theorem lo_of {a a' : Nat → Nat} (h : ∀ k, k < 560 → a' k = a k) (I : IO a) (d : Nat) : lowk a' d = lo a d (a' (646 + d)) := by
  unfold lowk lo
  exact sm_cong (fun l hl => by rw [h (486 + l) (by omega), ag_scr h I hl])
section CS2
variable {w : Wd} {a a' f : Nat → Nat} {m o r l d : Nat}
theorem ST_560 (S : ST a a' l d) : ∀ k, k < 560 → a' k = a k := fun k hk => by
  by_cases h : k = 559
  · rw [h]; exact S.2.1.1
  · exact S.1 k (by omega)
/-- all but d keep their lows -/
theorem ST_low (S : ST a a' l d) (I : IO a) {e : Nat} (he : e < 60) (hne : e ≠ d) : lowk a' e = lowk a e := ag_lowk (ST_560 S) I (S.2.2.2.2.2.2.1 e he hne).2
theorem ST_lowd (S : ST a a' l d) (I : IO a) (hg : a (498 + d) = 0) : lowk a d ≤ lowk a' d := by
  rw [lo_of (ST_560 S) I]
  unfold lowk lo
  refine sm_le_sm (fun k hk => ?_)
  by_cases h : (a (646 + d)).testBit k = true
  · rw [if_pos h, if_pos (((S.2.2.2.2.2.2.2.2 hg).2.2 k hk).mpr (Or.inl h))]
    exact Nat.le_refl _
  · rw [if_neg h]
    exact Nat.zero_le _
theorem C_fin {v : Wd} {g : Nat → Nat} {m' p0 : Nat} (I' : IO a') (h15 : v.1 r 15 = nI m') (hm : m' ≤ 60) (hg : ∀ p, p < m' → v.1 (r + 8) p = nI (g p)) (hp0 : p0 < m') (h0 : g p0 = d) (hL : ∀ e, e < 60 → v.1 (r + 6) e = nI (lowk a' e)) (h1 : ∀ p, p < m' → g p < 60 ∧ sn a' (g p)) (h2 : ∀ e, e < 60 → sn a' e → ∃ p, p < m' ∧ g p = e) (h3 : ∀ p r, p < r → r < m' → p ≠ p0 → r ≠ p0 → ahd a' (g r) (g p)) (h4 : ∀ p, p0 < p → p < m' → ahd a' (g p) d) (hi : ∀ p, p < m' → p ≠ p0 → g p ≠ d) : ∃ w' f', fX2_moveAhead v r (nI d) = some w' ∧ Fr (r + 8) (r + 9) v w' ∧ (∀ p, p < m' → w'.1 (r + 8) p = nI (f' p)) ∧ FR a' f' m' := by
  obtain ⟨w', q, e, F, hq, c, hA, hB⟩ := C_moveAhead (L := lowk a') h15 hm hg (fun p hp => (h1 p hp).1) hp0 h0 hi hL (lowk_le I')
  exact ⟨w', _, e, F, c, FR_ins hm h1 h2 h3 h4 h0 hp0 hq hA hB hi⟩
/-- what a reading's rows say of those that are seen -/
def SN (w : Wd) (r : Nat) (a f : Nat → Nat) (m : Nat) : Prop := w.1 r 15 = nI m ∧ (∀ k, k < 6 → w.1 (r + 2) k = nI (a (580 + k))) ∧ (∀ e, e < 60 → w.1 (r + 5) e = nI (a (646 + e))) ∧ (∀ e, e < 60 → w.1 (r + 6) e = nI (lowk a e)) ∧ (∀ e, e < 60 → sn a e → w.1 (r + 7) e = nI (a (586 + e) - 1)) ∧ (∀ p, p < m → w.1 (r + 8) p = nI (f p)) ∧ FR a f m
theorem C_see76 {P : Nat → Prop} {x : Nat} {v : Wd} (O : OC v o a) (I : IO a) (hov : r + 9 ≤ o ∨ o + 6 ≤ r) (hl : l < 6) (hd : d < 60) (hx : x < 64) (hP : ∀ k, k < 6 → (P k ↔ k ≠ l ∧ 0 < a (486 + k))) (ku : ∀ k, k < 6 → v.1 (r + 2) k = nI (a (580 + k))) (kk : v.1 (r + 5) d = nI x) (kl : v.1 (r + 6) d = nI (lo a d x)) : ∃ w', (∀ q, fX2_moveAhead w' r (nI d) = some q → lX2_see_76 r o 4096 v (nI l) (nI d) 0 = some q) ∧ (∀ i, i ≠ r + 2 → i ≠ r + 5 → i ≠ r + 6 → w'.1 i = v.1 i) ∧ w'.2 = v.2 ∧ (∀ k, k < 6 → w'.1 (r + 2) k = nI (a (580 + k) + @ite Nat (P k) (Classical.propDecidable _) 1 0)) ∧ (∀ e, w'.1 (r + 5) e = if e = d then nI (ors x P 6) else v.1 (r + 5) e) ∧ (∀ e, w'.1 (r + 6) e = if e = d then nI (lo a d (ors x P 6)) else v.1 (r + 6) e) := by
  refine loopI (fun n w' i => lX2_see_76 r o n w' (nI l) (nI d) (nI i)) (fun i w' => (∀ j, j ≠ r + 2 → j ≠ r + 5 → j ≠ r + 6 → w'.1 j = v.1 j) ∧ w'.2 = v.2 ∧ (∀ k, k < 6 → w'.1 (r + 2) k = nI (a (580 + k) + @ite Nat (k < i ∧ P k) (Classical.propDecidable _) 1 0)) ∧ (∀ e, w'.1 (r + 5) e = if e = d then nI (ors x P i) else v.1 (r + 5) e) ∧ (∀ e, w'.1 (r + 6) e = if e = d then nI (lo a d (ors x P i)) else v.1 (r + 6) e)) 0 6 (by omega) (fun z => ∃ w', (∀ q, fX2_moveAhead w' r (nI d) = some q → z = some q) ∧ (∀ i, i ≠ r + 2 → i ≠ r + 5 → i ≠ r + 6 → w'.1 i = v.1 i) ∧ w'.2 = v.2 ∧ (∀ k, k < 6 → w'.1 (r + 2) k = nI (a (580 + k) + @ite Nat (P k) (Classical.propDecidable _) 1 0)) ∧ (∀ e, w'.1 (r + 5) e = if e = d then nI (ors x P 6) else v.1 (r + 5) e) ∧ (∀ e, w'.1 (r + 6) e = if e = d then nI (lo a d (ors x P 6)) else v.1 (r + 6) e)) (fun n i w' hi hi2 hI => ?_) (fun n w' hI => ?_) 4096 v (by omega) ⟨fun _ _ _ _ => rfl, rfl, fun k hk => by rw [if_neg (fun z => by omega), Nat.add_zero]; exact ku k hk, fun e => ?_, fun e => ?_⟩
  · obtain ⟨g1, g2, g3, g4, g5⟩ := hI
    have O' : OC w' o a := SO_OC (SO_fr (fun k h1 h2 => g1 k (by omega) (by omega) (by omega)) (by rw [g2])) I O
    have e6 : ¬ (6 : Int32) ≤ nI i := by rw [n6, nI_le_ (by omega) (by omega)]; omega
    by_cases hp : P i
    · have hpp := (hP i hi2).mp hp
      obtain ⟨w2, hw2⟩ : ∃ y, y = sI w' (r + 2) i (nI (a (580 + i) + 1)) := ⟨_, rfl⟩
      have f2 : Fr (r + 2) (r + 3) w' w2 := by rw [hw2]; exact Fr.rfl'.sI (by omega) (by omega)
      have s2 : ∀ j, j ≠ r + 2 → w2.1 j = w'.1 j := fun j hj => f2.1 j (by omega)
      have O2 : OC w2 o a := OC_fr O' I f2 (by omega)
      have hxi := ors_lt hx P i (by omega)
      obtain ⟨w3, e3, F3, c5, c6, s3⟩ := C_learn (r := r) O2 I hi2 hd hxi (by rw [s2 _ (by omega), g4, if_pos rfl]) (by rw [s2 _ (by omega), g5, if_pos rfl])
      have u2 : w'.1 (r + 2) i = nI (a (580 + i)) := by rw [g3 i hi2, if_neg (fun z => by omega), Nat.add_zero]
      have hw22 : w3.2 = v.2 := by
        have h3 : w2.2 = v.2 := by rw [hw2]; exact g2
        rw [← h3]
        exact s3
      refine ⟨w3, ⟨fun j h1 h2 h3 => ?_, hw22, fun k hk => ?_, fun e => ?_, fun e => ?_⟩, ?_⟩
      · by_cases hj : j < r + 5 ∨ r + 7 ≤ j
        · rw [F3.1 j hj, s2 j h1, g1 j h1 h2 h3]
        · omega
      · rw [F3.1 _ (by omega), hw2, sI_1, if_pos rfl, upd_1]
        by_cases hki : k = i
        · rw [if_pos hki, hki, if_pos ⟨by omega, hp⟩]
        · rw [if_neg hki, g3 k hk]
          congr 2
          by_cases hc : k < i ∧ P k
          · rw [if_pos hc, if_pos ⟨by omega, hc.2⟩]
          · rw [if_neg hc, if_neg (fun z => hc ⟨by omega, z.2⟩)]
      · rw [c5, ors_y hp, s2 _ (by omega), g4]
        by_cases he : e = d
        · rw [if_pos he, if_pos he]
        · rw [if_neg he, if_neg he, if_neg he]
      · rw [c6, ors_y hp, s2 _ (by omega), g5]
        by_cases he : e = d
        · rw [if_pos he, if_pos he]
        · rw [if_neg he, if_neg he, if_neg he]
      · show lX2_see_76 r o (n + 1) w' (nI l) (nI d) (nI i) = _
        rw [lX2_see_76, if_neg e6, if_neg (show ¬ nI i = nI l by rw [nI_eq_ (by omega) (by omega)]; exact hpp.1), C_isAsked O' I hi2, if_pos hpp.2, ob_some, if_neg (show ¬ (1 : Int32) = 0 by decide), at_n hi2 (by omega), u2, ob_some, n1, nI_add, put_n hi2 (by omega), ob_some, ← hw2, e3, ob_some, nI_add]
    · refine ⟨w', ⟨g1, g2, fun k hk => ?_, fun e => ?_, fun e => ?_⟩, ?_⟩
      · rw [g3 k hk]
        congr 2
        by_cases hc : k < i ∧ P k
        · rw [if_pos hc, if_pos ⟨by omega, hc.2⟩]
        · rw [if_neg hc, if_neg (fun z => hc ⟨by
            have : k ≠ i := fun y => hp (y ▸ z.2)
            omega, z.2⟩)]
      · rw [g4, ors_n hp]
      · rw [g5, ors_n hp]
      · show lX2_see_76 r o (n + 1) w' (nI l) (nI d) (nI i) = _
        rw [lX2_see_76, if_neg e6]
        by_cases h3 : i = l
        · rw [if_pos (show nI i = nI l by rw [h3]), n1, nI_add]
        · rw [if_neg (show ¬ nI i = nI l by rw [nI_eq_ (by omega) (by omega)]; exact h3), C_isAsked O' I hi2]
          by_cases h4 : 0 < a (486 + i)
          · exact absurd ((hP i hi2).mpr ⟨h3, h4⟩) hp
          · rw [if_neg h4, ob_some, if_pos (show (0 : Int32) = 0 from rfl), n1, nI_add]
  · obtain ⟨g1, g2, g3, g4, g5⟩ := hI
    refine ⟨w', fun q hq => ?_, g1, g2, fun k hk => ?_, g4, g5⟩
    · show lX2_see_76 r o (n + 1) w' (nI l) (nI d) (nI 6) = _
      rw [lX2_see_76, if_pos (by decide), hq]
      rfl
    · rw [g3 k hk]
      congr 2
      by_cases hc : P k
      · rw [if_pos ⟨hk, hc⟩, if_pos hc]
      · rw [if_neg (fun z => hc z.2), if_neg hc]
  · by_cases he : e = d
    · rw [if_pos he, he]; exact kk
    · rw [if_neg he]
  · by_cases he : e = d
    · rw [if_pos he, he]; exact kl
    · rw [if_neg he]
end CS2
