/-! PURE PART: the class reads an entry -/
section CS3
variable {w : Wd} {a a' f : Nat → Nat} {m o r l d : Nat}
theorem ST_lku (S : ST a a' l d) (hg : a (498 + d) = 0) {k : Nat} (hk : k < 6) : a' (580 + k) = a (580 + k) + @ite Nat (lku a l d k) (Classical.propDecidable _) 1 0 := by
  rw [S.2.2.2.2.2.1 k hk]
  congr 1
  by_cases h : lku a l d k
  · rw [if_pos h, if_pos ⟨hg, h⟩]
  · rw [if_neg h, if_neg (fun z => h z.2)]
theorem C_isSeen' {w : Wd} {a : Nat → Nat} {r d : Nat} (kk : ∀ e, e < 60 → w.1 (r + 5) e = nI (a (646 + e))) (J : IR0 a) (hd : d < 60) : fX2_isSeen w r (nI d) = some (@ite Int32 (sn a d) (Classical.propDecidable _) 1 0) := by
  have h3 := J.2.1 d hd
  have h4 := J.2.2.2.1 d hd
  unfold fX2_isSeen
  rw [at_n hd (by omega), kk d hd, ob_some]
  by_cases h : sn a d
  · rw [if_neg (by rw [l0, nI_eq_ (by omega) (by omega)]; exact h4.mp h), if_pos h]; rfl
  · rw [if_pos (by rw [l0, nI_eq_ (by omega) (by omega)]; exact Classical.byContradiction fun z => h (h4.mpr z)), if_neg h]; rfl
theorem C_see (O : OC w o a) (I : IO a) (J : IR0 a) (S : ST a a' l d) (hov : r + 9 ≤ o ∨ o + 6 ≤ r) (hl : l < 6) (hd : d < 60) (hc : canr a l) (hde : d = a (40 * l + a (568 + l))) (hg : a (498 + d) = 0) (k2 : bz (w.1 r 2) = nI (a 561)) (k4 : w.1 r 4 = nI (a 564)) (N : SN w r a f m) : ∃ w' f' m', fX2_see w r o (nI l) (nI d) = some w' ∧ Fr r (r + 9) w w' ∧ (∀ j, j ≠ 15 → w'.1 r j = w.1 r j) ∧ w'.1 (r + 1) = w.1 (r + 1) ∧ w'.1 (r + 3) = w.1 (r + 3) ∧ w'.1 (r + 4) = w.1 (r + 4) ∧ SN w' r a' f' m' := by
  obtain ⟨k15, ku, kk, kl, kf, kfr, F⟩ := N
  have I' := ST_IO S I
  have h560 := ST_560 S
  have hx := J.2.1 d hd
  have h9 := S.2.2.2.2.2.2.2.2 hg
  have h7 := S.2.2.2.2.2.2.1
  have h561 := J.2.2.2.2.2.2.2.2.1
  have hsn : ∀ e, e < 60 → e ≠ d → (sn a' e ↔ sn a e) := fun e he hne => by unfold sn; rw [(h7 e he hne).1]
  have hsd : sn a' d := by
    unfold sn
    rw [h9.1]
    split <;> omega
  have hlow : ∀ e, e < 60 → e ≠ d → lowk a' e = lowk a e := fun e he hne => ST_low S I he hne
  have hld := ST_lowd S I hg
  have hm60 := F.1
  have hlo : w.1 (r + 6) d = nI (lo a d (a (646 + d))) := by rw [kl d hd]; rfl
  unfold fX2_see
  rw [C_isSeen' kk J hd, ob_some]
  by_cases hs : sn a d
  · obtain ⟨p0, hp0, hfp⟩ := F.2.2.2 d hd hs
    have hno : ∀ o, ¬ lku a l d o := fun o z => by unfold sn at hs; have := z.1; omega
    have hK : a (646 + d) ||| 2 ^ l = a' (646 + d) := by
      refine sb_ext _ (sb_lt _ hx l hl) _ h9.2.1 (fun k hk => ?_)
      rw [sb_tb _ hx l hl k hk, Bool.eq_iff_iff, h9.2.2 k hk]
      simp only [Bool.or_eq_true, decide_eq_true_eq]
      exact ⟨fun z => z.elim Or.inl (fun y => Or.inr (Or.inl y)), fun z => z.elim Or.inl (fun y => y.elim Or.inr (fun y => absurd y (hno k)))⟩
    obtain ⟨w3, e3, F3, c5, c6, s3⟩ := C_learn (r := r) O I hl hd hx (kk d hd) hlo
    rw [hK] at c5 c6
    rw [← lo_of h560 I] at c6
    have hfne : ∀ p, p < m → p ≠ p0 → f p ≠ d := fun p hp hne z => hne (FR_inj F hp hp0 (z.trans hfp.symm))
    have hL3 : ∀ e, e < 60 → w3.1 (r + 6) e = nI (lowk a' e) := by
      intro e he
      rw [c6]
      by_cases hed : e = d
      · rw [if_pos hed, hed]
      · rw [if_neg hed, kl e he, hlow e he hed]
    obtain ⟨w4, f', e4, F4, c8, FR'⟩ := C_fin (v := w3) (g := f) (p0 := p0) (r := r) I' (by rw [F3.1 r (by omega)]; exact k15) hm60 (fun p hp => by rw [F3.1 _ (by omega)]; exact kfr p hp) hp0 hfp hL3 (fun p hp => ⟨(F.2.1 p hp).1, by
      by_cases h : f p = d
      · rw [h]; exact hsd
      · exact (hsn _ (F.2.1 p hp).1 h).mpr (F.2.1 p hp).2⟩) (fun e he hse => by
      by_cases h : e = d
      · exact ⟨p0, hp0, hfp.trans h.symm⟩
      · exact F.2.2.2 e he ((hsn e he h).mp hse)) (fun p q hpq hq hp' hq' => by
      have h1 := F.2.2.1 p q hpq hq
      have b1 := (F.2.1 p (by omega)).1
      have b2 := (F.2.1 q hq).1
      unfold ahd at h1 ⊢
      rw [hlow _ b1 (hfne p (by omega) hp'), hlow _ b2 (hfne q hq hq')]
      exact h1) (fun p hp hpm => by
      have h1 := F.2.2.1 p0 p hp hpm
      have b1 := (F.2.1 p hpm).1
      rw [hfp] at h1
      unfold ahd at h1 ⊢
      rw [hlow _ b1 (hfne p hpm (by omega))]
      omega) hfne
    have F34 : Fr r (r + 9) w w4 := (F3.wide (by omega) (by omega)).trans (F4.wide (by omega) (by omega))
    refine ⟨w4, f', m, ?_, F34, fun j hj => ?_, ?_, ?_, ?_, ?_, fun k hk => ?_, fun e he => ?_, fun e he => ?_, fun e he hse => ?_, c8, FR'⟩
    · rw [if_pos hs, if_neg (show ¬ (1 : Int32) = 0 by decide), e3, ob_some, e4]
      rfl
    · rw [F4.1 r (by omega), F3.1 r (by omega)]
    · rw [F4.1 _ (by omega), F3.1 _ (by omega)]
    · rw [F4.1 _ (by omega), F3.1 _ (by omega)]
    · rw [F4.1 _ (by omega), F3.1 _ (by omega)]
    · rw [F4.1 r (by omega), F3.1 r (by omega)]; exact k15
    · rw [F4.1 _ (by omega), F3.1 _ (by omega), ku k hk, ST_lku S hg hk, if_neg (hno k), Nat.add_zero]
    · rw [F4.1 _ (by omega), c5]
      by_cases hed : e = d
      · rw [if_pos hed, hed]
      · rw [if_neg hed, kk e he, (h7 e he hed).2]
    · rw [F4.1 _ (by omega)]; exact hL3 e he
    · rw [F4.1 _ (by omega), F3.1 _ (by omega)]
      by_cases hed : e = d
      · subst hed
        unfold sn at hs
        rw [kf e he hs, h9.1, if_neg (by omega)]
      · rw [kf e he ((hsn e he hed).mp hse), (h7 e he hed).1]
  · have hz : a (586 + d) = 0 := by unfold sn at hs; omega
    have hm : m < 60 := by
      have h1 := FR_m F
      have h2 := cnt_lt (P := sn a) (Q := fun _ => True) hd hs trivial (fun _ _ _ => trivial)
      have h3 := cnt_le (fun _ => True) 60
      unfold smany at h1
      omega
    have hfne : ∀ p, p < m → f p ≠ d := fun p hp z => hs (z ▸ (F.2.1 p hp).2)
    obtain ⟨w7, hw7⟩ : ∃ y, y = sI (sI (sI w (r + 7) d (w.1 r 4)) (r + 8) m (nI d)) r 15 (nI (m + 1)) := ⟨_, rfl⟩
    have F7 : Fr r (r + 9) w w7 := by rw [hw7]; exact ((Fr.rfl'.sI (by omega) (by omega)).sI (by omega) (by omega)).sI (by omega) (by omega)
    have q0 : ∀ j, w7.1 r j = if j = 15 then nI (m + 1) else w.1 r j := fun j => by
      rw [hw7, sI_1, if_pos rfl, upd_1, sI_1, if_neg (show ¬ r = r + 8 by omega), sI_1, if_neg (show ¬ r = r + 7 by omega)]
    have q7 : ∀ e, w7.1 (r + 7) e = if e = d then nI (a 564) else w.1 (r + 7) e := fun e => by
      rw [hw7, sI_1, if_neg (by omega), sI_1, if_neg (show ¬ r + 7 = r + 8 by omega), sI_1, if_pos rfl, upd_1, k4]
    have q8 : ∀ p, w7.1 (r + 8) p = if p = m then nI d else w.1 (r + 8) p := fun p => by
      rw [hw7, sI_1, if_neg (by omega), sI_1, if_pos rfl, upd_1, sI_1, if_neg (show ¬ r + 8 = r + 7 by omega)]
    have qr : ∀ i, i ≠ r → i ≠ r + 7 → i ≠ r + 8 → w7.1 i = w.1 i := fun i h1 h2 h3 => by
      rw [hw7, sI_1, if_neg h1, sI_1, if_neg h3, sI_1, if_neg h2]
    have O7 : OC w7 o a := OC_fr O I F7 (by omega)
    obtain ⟨w8, e8, F8, c5, c6, s8⟩ := C_learn (r := r) O7 I hl hd hx (by rw [qr _ (by omega) (by omega) (by omega)]; exact kk d hd) (by rw [qr _ (by omega) (by omega) (by omega)]; exact hlo)
    have hK64 := sb_lt _ hx l hl
    -- the learning of the other lists
    have mid : ∃ v, (∀ q, fX2_moveAhead v r (nI d) = some q → (if bz (w8.1 r 2) = 0 then (fX2_moveAhead w8 r (nI d)).bind fun w10 => some w10 else lX2_see_76 r o 4096 w8 (nI l) (nI d) 0) = some q) ∧ (∀ i, i ≠ r + 2 → i ≠ r + 5 → i ≠ r + 6 → v.1 i = w8.1 i) ∧ v.2 = w8.2 ∧ (∀ k, k < 6 → v.1 (r + 2) k = nI (a' (580 + k))) ∧ (∀ e, v.1 (r + 5) e = if e = d then nI (a' (646 + d)) else w8.1 (r + 5) e) ∧ (∀ e, v.1 (r + 6) e = if e = d then nI (lowk a' d) else w8.1 (r + 6) e) := by
      have b8 : bz (w8.1 r 2) = nI (a 561) := by rw [F8.1 r (by omega), q0, if_neg (by omega)]; exact k2
      have ku8 : ∀ k, k < 6 → w8.1 (r + 2) k = nI (a (580 + k)) := fun k hk => by rw [F8.1 _ (by omega), qr _ (by omega) (by omega) (by omega)]; exact ku k hk
      rw [b8]
      by_cases h0 : a 561 = 1
      · have O8 : OC w8 o a := OC_fr O7 I F8 (by omega)
        obtain ⟨v, v1, v2, v3, v4, v5, v6⟩ := C_see76 (P := lku a l d) (r := r) O8 I hov hl hd hK64 (fun k hk => ⟨fun z => z.2.2, fun z => ⟨hz, h0, z⟩⟩) ku8 (by rw [c5, if_pos rfl]) (by rw [c6, if_pos rfl])
        have hK : ors (a (646 + d) ||| 2 ^ l) (lku a l d) 6 = a' (646 + d) := by
          refine sb_ext _ (ors_lt hK64 _ 6 (by omega)) _ h9.2.1 (fun k hk => ?_)
          rw [Bool.eq_iff_iff, ors_tb hK64 6 (by omega) k hk, sb_tb _ hx l hl k hk, h9.2.2 k hk]
          simp only [Bool.or_eq_true, decide_eq_true_eq]
          constructor
          · rintro ((z | z) | z)
            · exact Or.inl z
            · exact Or.inr (Or.inl z)
            · exact Or.inr (Or.inr z.2)
          · rintro (z | z | z)
            · exact Or.inl (Or.inl z)
            · exact Or.inl (Or.inr z)
            · exact Or.inr ⟨hk, z⟩
        rw [hK] at v5 v6
        rw [← lo_of h560 I] at v6
        refine ⟨v, fun q hq => ?_, v2, v3, fun k hk => ?_, v5, v6⟩
        · rw [if_neg (by rw [h0]; decide)]; exact v1 q hq
        · rw [v4 k hk, ST_lku S hg hk]
      · have hno : ∀ o, ¬ lku a l d o := fun o z => h0 z.2.1
        have hK : a (646 + d) ||| 2 ^ l = a' (646 + d) := by
          refine sb_ext _ hK64 _ h9.2.1 (fun k hk => ?_)
          rw [sb_tb _ hx l hl k hk, Bool.eq_iff_iff, h9.2.2 k hk]
          simp only [Bool.or_eq_true, decide_eq_true_eq]
          exact ⟨fun z => z.elim Or.inl (fun y => Or.inr (Or.inl y)), fun z => z.elim Or.inl (fun y => y.elim Or.inr (fun y => absurd y (hno k)))⟩
        refine ⟨w8, fun q hq => ?_, fun _ _ _ _ => rfl, rfl, fun k hk => ?_, fun e => ?_, fun e => ?_⟩
        · rw [if_pos (by rw [show a 561 = 0 by omega]; rfl), hq]; rfl
        · rw [ku8 k hk, ST_lku S hg hk, if_neg (hno k), Nat.add_zero]
        · by_cases hed : e = d
          · rw [if_pos hed, c5, if_pos hed, hK]
          · rw [if_neg hed]
        · by_cases hed : e = d
          · rw [if_pos hed, c6, if_pos hed, hK, ← lo_of h560 I]
          · rw [if_neg hed]
    obtain ⟨v, v1, v2, v3, v4, v5, v6⟩ := mid
    obtain ⟨g, hgdef⟩ : ∃ g : Nat → Nat, g = fun p => if p < m then f p else d := ⟨_, rfl⟩
    have g1 : ∀ p, p < m → g p = f p := fun p hp => by rw [hgdef]; show (if p < m then f p else d) = _; rw [if_pos hp]
    have g2 : g m = d := by rw [hgdef]; show (if m < m then f m else d) = _; rw [if_neg (by omega)]
    have hv15 : v.1 r 15 = nI (m + 1) := by rw [v2 r (by omega) (by omega) (by omega), F8.1 r (by omega), q0, if_pos rfl]
    have hL : ∀ e, e < 60 → v.1 (r + 6) e = nI (lowk a' e) := by
      intro e he
      rw [v6]
      by_cases hed : e = d
      · rw [if_pos hed, hed]
      · rw [if_neg hed, c6, if_neg hed, qr _ (by omega) (by omega) (by omega), kl e he, hlow e he hed]
    have hvg : ∀ p, p < m + 1 → v.1 (r + 8) p = nI (g p) := by
      intro p hp
      rw [v2 _ (by omega) (by omega) (by omega), F8.1 _ (by omega), q8]
      by_cases hpm : p = m
      · rw [if_pos hpm, hpm, g2]
      · rw [if_neg hpm, kfr p (by omega), g1 p (by omega)]
    obtain ⟨w9, f', e9, F9, c9, FR'⟩ := C_fin (v := v) (g := g) (p0 := m) (m' := m + 1) (r := r) I' hv15 (by omega) hvg (by omega) g2 hL (fun p hp => by
      by_cases hpm : p = m
      · rw [hpm, g2]; exact ⟨hd, hsd⟩
      · rw [g1 p (by omega)]
        exact ⟨(F.2.1 p (by omega)).1, (hsn _ (F.2.1 p (by omega)).1 (hfne p (by omega))).mpr (F.2.1 p (by omega)).2⟩) (fun e he hse => by
      by_cases h : e = d
      · exact ⟨m, by omega, g2.trans h.symm⟩
      · obtain ⟨p, hp, hpe⟩ := F.2.2.2 e he ((hsn e he h).mp hse)
        exact ⟨p, by omega, by rw [g1 p hp, hpe]⟩) (fun p q hpq hq hp' hq' => by
      rw [g1 p (by omega), g1 q (by omega)]
      have h1 := F.2.2.1 p q hpq (by omega)
      have b1 := (F.2.1 p (by omega)).1
      have b2 := (F.2.1 q (by omega)).1
      unfold ahd at h1 ⊢
      rw [hlow _ b1 (hfne p (by omega)), hlow _ b2 (hfne q (by omega))]
      exact h1) (fun p hp hpm => by omega) (fun p hp hne => by
      rw [g1 p (by omega)]
      exact hfne p (by omega))
    have Fv : Fr r (r + 9) w8 v := ⟨fun k hk => v2 k (by omega) (by omega) (by omega), fun k _ => by rw [v3], fun k _ => by rw [v3]⟩
    refine ⟨w9, f', m + 1, ?_, ((F7.trans (F8.wide (by omega) (by omega))).trans Fv).trans (F9.wide (by omega) (by omega)), fun j hj => ?_, ?_, ?_, ?_, ?_, fun k hk => ?_, fun e he => ?_, fun e he => ?_, fun e he hse => ?_, c9, FR'⟩
    · rw [if_neg hs, if_pos (show (0 : Int32) = 0 from rfl), put_n hd (by omega), ob_some]
      rw [show (sI w (r + 7) d (w.1 r 4)).1 r 15 = nI m by rw [sI_1, if_neg (by omega)]; exact k15, put_n hm (by omega), ob_some]
      unfold pI
      rw [ob_some, show (sI (sI w (r + 7) d (w.1 r 4)) (r + 8) m (nI d)).1 r 15 + 1 = nI (m + 1) by rw [sI_1, if_neg (by omega), sI_1, if_neg (by omega), k15, n1, nI_add], ← hw7, e8, ob_some]
      exact v1 w9 e9
    · rw [F9.1 r (by omega), v2 r (by omega) (by omega) (by omega), F8.1 r (by omega), q0, if_neg hj]
    · rw [F9.1 _ (by omega), v2 _ (by omega) (by omega) (by omega), F8.1 _ (by omega), qr _ (by omega) (by omega) (by omega)]
    · rw [F9.1 _ (by omega), v2 _ (by omega) (by omega) (by omega), F8.1 _ (by omega), qr _ (by omega) (by omega) (by omega)]
    · rw [F9.1 _ (by omega), v2 _ (by omega) (by omega) (by omega), F8.1 _ (by omega), qr _ (by omega) (by omega) (by omega)]
    · rw [F9.1 r (by omega)]; exact hv15
    · rw [F9.1 _ (by omega)]; exact v4 k hk
    · rw [F9.1 _ (by omega), v5]
      by_cases hed : e = d
      · rw [if_pos hed, hed]
      · rw [if_neg hed, c5, if_neg hed, qr _ (by omega) (by omega) (by omega), kk e he, (h7 e he hed).2]
    · rw [F9.1 _ (by omega)]; exact hL e he
    · rw [F9.1 _ (by omega), v2 _ (by omega) (by omega) (by omega), F8.1 _ (by omega), q7]
      by_cases hed : e = d
      · rw [if_pos hed, hed, h9.1, if_pos hz, Nat.add_sub_cancel]
      · rw [if_neg hed, kf e he ((hsn e he hed).mp hse), (h7 e he hed).1]
end CS3
