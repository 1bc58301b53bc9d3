/-! PURE PART: a list is filled by cells -/
section FIL
variable {w w1 w2 : Wd} {a a' : Nat → Nat} {L : Nat} {xs : Nat → Int32}
theorem UP_refl (l : Nat) : UP a a l := ⟨fun m _ _ => ⟨rfl, fun _ => rfl⟩, fun k _ _ => rfl⟩
theorem F204 (K : KW w a) (ho : a 559 = 0) {l d : Nat} (hl : l < 6) (hd : d < 60) (h0 : scr a l d ≠ 0) {x3 x4 x5 x6 v : Int32} (K17 : Wd → Int32 → Int32 → Int32 → Int32 → Option (Int32 × Wd)) : ∃ w' a', bL_fill_204 LY K17 w 0 L xs (nI l) x3 x4 x5 x6 (nI d) v v = K17 w' (nI l) x3 x4 (x5 + 1) ∧ KW w' a' ∧ Fr 1 83 w w' ∧ UP a a' l ∧ a' (480 + l) ≤ a (480 + l) ∧ (∀ e, scr a l e = 0 → scr a' l e = 0) := by
  obtain ⟨r, hr, er⟩ := low_ex (x6 >>> (15 &&& 31)) (n := 9) (by omega) (by omega)
  have er' : ∀ w, fL_low w (x6 >>> (15 &&& 31)) 9 = some (nI r) := er
  by_cases hr0 : r = 0
  · obtain ⟨w1, a1, e1, K1, F1, U1, s1, c1⟩ := K_drop K ho hl hd h0
    have z1 : scr a1 l d = 0 := by rw [c1 d, if_pos rfl]
    have p1 := (K_place K1 hl hd).1 z1
    refine ⟨w1, a1, ?_, K1, F1, U1, by omega, fun e he => ?_⟩
    · unfold bL_fill_204
      rw [if_pos rfl, K_inOrder K hl, ob_some, if_neg (by decide), er', ob_some, if_pos (by rw [hr0]; rfl), e1, ob2_some, K_list0 K1 hl, ob_some, if_pos rfl, p1, ob_some, if_neg (by decide), K_drop0 K1 hl hd z1, ob2_some, if_pos rfl]
    · rw [c1 e]
      by_cases h : e = d
      · rw [if_pos h]
      · rw [if_neg h]; exact he
  · refine ⟨w, a, ?_, K, Fr.rfl', UP_refl l, Nat.le_refl _, fun e he => he⟩
    unfold bL_fill_204
    rw [if_pos rfl, K_inOrder K hl, ob_some, if_neg (by decide), er', ob_some, if_neg (by rw [l0, nI_eq_ (by omega) (by omega)]; exact hr0)]
theorem F67 (K : KW w a) (ho : a 559 = 0) {l d b : Nat} (hl : l < 6) (hd : d < 12) (hb1 : 1 ≤ b) (hb : b ≤ 999) (h39 : a (480 + l) < 39) (hz : ∀ e, 12 ≤ e → scr a l e = 0) {x3 x4 x5 x6 s1 : Int32} (K17 : Wd → Int32 → Int32 → Int32 → Int32 → Option (Int32 × Wd)) : ∃ w' a', bL_fill_67 LY K17 w 0 L xs (nI l) x3 x4 x5 x6 (nI d) (nI b) s1 1 = K17 w' (nI l) x3 x4 (x5 + 1) ∧ KW w' a' ∧ Fr 1 83 w w' ∧ UP a a' l ∧ a' (480 + l) ≤ a (480 + l) + 1 ∧ (∀ e, 12 ≤ e → scr a' l e = 0) := by
  obtain ⟨r, hr, er⟩ := low_ex s1 (n := b) hb1 (by omega)
  have hs : (1 : Int32) + nI r = nI (1 + r) := by rw [n1, nI_add]
  have hd6 : d < 60 := by omega
  have pl := K_place K hl hd6
  have hsl := scr_le K.2.1.1 (l := l) (d := d) hl
  by_cases h0 : scr a l d = 0
  · obtain ⟨w1, a1, pp, e1, K1, F1, U1, s1', c1, p1, p2, p3⟩ := K_add K ho hl hd6 (s := 1 + r) (by omega) (by omega) (by omega) (by omega)
    have o1 : a1 559 = 0 := by rw [U1.2 559 (by omega) (by omega)]; exact ho
    have n1' : scr a1 l d ≠ 0 := by rw [c1 d, if_pos rfl]; omega
    obtain ⟨w2, a2, e2, K2, F2, U2, s2, c2⟩ := F204 (L := L) (xs := xs) K1 o1 hl hd6 n1' (x3 := x3) (x4 := x4) (x5 := x5) (x6 := x6) (v := nI (a1 (480 + l))) K17
    rw [if_pos h0] at s1'
    refine ⟨w2, a2, ?_, K2, F1.trans F2, UP_trans U1 U2, by omega, fun e he => c2 e (by rw [c1 e, if_neg (by omega)]; exact hz e he)⟩
    unfold bL_fill_67
    rw [er, ob_some, pl.1 h0, ob_some, K_list0 K hl, ob_some, if_pos (by decide), hs]
    unfold bL_fill_112 bL_fill_113
    rw [e1, ob2_some, if_pos rfl, K_ent0 K1 hl p1, ob_some, p2, if_pos rfl, K_ent1 K1 hl p1, ob_some, p3, if_pos rfl]
    unfold bL_fill_177
    rw [if_neg (by decide), K_list0 K1 hl, ob_some, if_neg (by decide), show nI (a (480 + l)) + 1 = nI (a1 (480 + l)) by rw [n1, nI_add, s1']]
    exact e2
  · obtain ⟨q, hq, hqd, hqs, ep⟩ := pl.2 h0
    have q0 : (0 : Int32) ≤ nI q := by rw [l0, nI_le_ (by omega) (by omega)]; omega
    by_cases hsame : scr a l d = 1 + r
    · obtain ⟨w2, a2, e2, K2, F2, U2, s2, c2⟩ := F204 (L := L) (xs := xs) K ho hl hd6 h0 (x3 := x3) (x4 := x4) (x5 := x5) (x6 := x6) (v := nI (a (480 + l))) K17
      refine ⟨w2, a2, ?_, K2, F2, U2, by omega, fun e he => c2 e (hz e he)⟩
      unfold bL_fill_67
      rw [er, ob_some, ep, ob_some, K_list0 K hl, ob_some, if_neg (nI_pos (by omega)), K_ent1 K hl hq, ob_some, hqs, hsame, hs, if_pos rfl]
      unfold bL_fill_113
      rw [K_addS K ho hl hd6 (by omega) (by omega) hsame, ob2_some, if_neg (show ¬ (1 : Int32) = 0 by decide), if_pos rfl]
      unfold bL_fill_177
      rw [if_neg (by decide), K_list0 K hl, ob_some, if_pos q0]
      exact e2
    · obtain ⟨w1, a1, pp, e1, K1, F1, U1, s1', c1, p1, p2, p3⟩ := K_add K ho hl hd6 (s := 1 + r) (by omega) (by omega) hsame (by omega)
      have o1 : a1 559 = 0 := by rw [U1.2 559 (by omega) (by omega)]; exact ho
      have n1' : scr a1 l d ≠ 0 := by rw [c1 d, if_pos rfl]; omega
      obtain ⟨w2, a2, e2, K2, F2, U2, s2, c2⟩ := F204 (L := L) (xs := xs) K1 o1 hl hd6 n1' (x3 := x3) (x4 := x4) (x5 := x5) (x6 := x6) (v := nI (a (480 + l))) K17
      rw [if_neg h0, Nat.add_zero] at s1'
      refine ⟨w2, a2, ?_, K2, F1.trans F2, UP_trans U1 U2, by omega, fun e he => c2 e (by rw [c1 e, if_neg (by omega)]; exact hz e he)⟩
      unfold bL_fill_67
      rw [er, ob_some, ep, ob_some, K_list0 K hl, ob_some, if_neg (nI_pos (by omega)), K_ent1 K hl hq, ob_some, hqs, hs, if_neg (by rw [nI_eq_ (by omega) (by omega)]; exact hsame)]
      unfold bL_fill_112 bL_fill_113
      rw [e1, ob2_some, if_pos rfl, K_ent0 K1 hl p1, ob_some, p2, if_pos rfl, K_ent1 K1 hl p1, ob_some, p3, if_pos rfl]
      unfold bL_fill_177
      rw [if_neg (by decide), K_list0 K1 hl, ob_some, if_pos q0, s1']
      exact e2
theorem K_fill (hL : L ≤ 260) (K : KW w a) (ho : a 559 = 0) {l fr : Nat} (hl : l < 6) (hfr : fr ≤ 1000) (h0 : a (480 + l) = 0) : ∃ w' a', fL_fill LY w 0 L xs (nI l) (nI fr) = some (1, w') ∧ KW w' a' ∧ Fr 1 83 w w' ∧ UP a a' l ∧ a' (480 + l) ≤ 9 ∧ (∀ e, 12 ≤ e → scr a' l e = 0) := by
  obtain ⟨v, ev⟩ := cell_ex xs hL (k := fr) (by omega)
  obtain ⟨r, hr, er⟩ := low_ex v (n := 9) (by omega) (by omega)
  have hz0 : ∀ e, scr a l e = 0 := fun e => scr_none (fun p hp => by omega)
  unfold fL_fill
  rw [ev, ob_some, show fL_low w v 9 = some (nI r) from er w, ob_some, show (1 : Int32) + nI r = nI (1 + r) by rw [n1, nI_add]]
  refine loopI (fun n (s : Wd × (Nat → Nat)) i => lL_fill_17 LY 0 L xs n s.1 (nI l) (nI fr) (nI (1 + r)) (nI i)) (fun i s => KW s.1 s.2 ∧ Fr 1 83 w s.1 ∧ UP a s.2 l ∧ s.2 (480 + l) + 1 ≤ i ∧ ∀ e, 12 ≤ e → scr s.2 l e = 0) 1 (1 + r + 1) (by omega) (fun z => ∃ w' a', z = some (1, w') ∧ KW w' a' ∧ Fr 1 83 w w' ∧ UP a a' l ∧ a' (480 + l) ≤ 9 ∧ ∀ e, 12 ≤ e → scr a' l e = 0) (fun n i s hi hi2 hI => ?_) (fun n s hI => ?_) 4096 (w, a) (by omega) ⟨K, Fr.rfl', UP_refl l, by show a (480 + l) + 1 ≤ 1; omega, fun e _ => hz0 e⟩
  · obtain ⟨K', F', U', hs', hz'⟩ := hI
    obtain ⟨v4, ev4⟩ := cell_ex xs hL (k := fr + i) (by omega)
    obtain ⟨d, hd, ed⟩ := low_ex v4 (n := 12) (by omega) (by omega)
    obtain ⟨r3, hr3, e3⟩ := low_ex (v4 >>> (24 &&& 31)) (n := 3) (by omega) (by omega)
    have ho' : s.2 559 = 0 := by rw [U'.2 559 (by omega) (by omega)]; exact ho
    show ∃ s', _ ∧ lL_fill_17 LY 0 L xs (n + 1) s.1 (nI l) (nI fr) (nI (1 + r)) (nI i) = _
    by_cases h3 : r3 = 0
    · obtain ⟨w2, a2, e2, K2, F2, U2, s2, c2⟩ := F67 (L := L) (xs := xs) (b := 5) K' ho' hl hd (by omega) (by omega) (by omega) hz' (x3 := nI fr) (x4 := nI (1 + r)) (x5 := nI i) (x6 := v4) (s1 := v4 >>> (4 &&& 31)) (fun w z0 z1 z2 z3 => lL_fill_17 LY 0 L xs n w z0 z1 z2 z3)
      refine ⟨(w2, a2), ⟨K2, F'.trans F2, UP_trans U' U2, by show a2 (480 + l) + 1 ≤ i + 1; omega, c2⟩, ?_⟩
      rw [lL_fill_17, if_neg (by rw [nI_lt_ (by omega) (by omega)]; omega), nI_add, ev4, ob_some, show fL_low s.1 v4 12 = some (nI d) from ed s.1, ob_some, show fL_low s.1 (v4 >>> (24 &&& 31)) 3 = some (nI r3) from e3 s.1, ob_some, if_pos (by rw [h3]; rfl)]
      refine Eq.trans e2 ?_
      show lL_fill_17 LY 0 L xs n w2 (nI l) (nI fr) (nI (1 + r)) (nI i + 1) = _
      rw [n1, nI_add]
    · obtain ⟨w2, a2, e2, K2, F2, U2, s2, c2⟩ := F67 (L := L) (xs := xs) (b := 999) K' ho' hl hd (by omega) (by omega) (by omega) hz' (x3 := nI fr) (x4 := nI (1 + r)) (x5 := nI i) (x6 := v4) (s1 := v4 >>> (4 &&& 31)) (fun w z0 z1 z2 z3 => lL_fill_17 LY 0 L xs n w z0 z1 z2 z3)
      refine ⟨(w2, a2), ⟨K2, F'.trans F2, UP_trans U' U2, by show a2 (480 + l) + 1 ≤ i + 1; omega, c2⟩, ?_⟩
      rw [lL_fill_17, if_neg (by rw [nI_lt_ (by omega) (by omega)]; omega), nI_add, ev4, ob_some, show fL_low s.1 v4 12 = some (nI d) from ed s.1, ob_some, show fL_low s.1 (v4 >>> (24 &&& 31)) 3 = some (nI r3) from e3 s.1, ob_some, if_neg (by rw [l0, nI_eq_ (by omega) (by omega)]; exact h3)]
      refine Eq.trans e2 ?_
      show lL_fill_17 LY 0 L xs n w2 (nI l) (nI fr) (nI (1 + r)) (nI i + 1) = _
      rw [n1, nI_add]
  · obtain ⟨K', F', U', hs', hz'⟩ := hI
    refine ⟨s.1, s.2, ?_, K', F', U', by omega, hz'⟩
    show lL_fill_17 LY 0 L xs (n + 1) s.1 (nI l) (nI fr) (nI (1 + r)) (nI (1 + r + 1)) = _
    rw [lL_fill_17, if_pos (by rw [nI_lt_ (by omega) (by omega)]; omega), rtZ_1, ob_some]
end FIL
