/-! PURE PART: add, drop -/
section ADD
variable {w w1 w2 w3 : Wd} {a a' : Nat → Nat} {h : Nat} {p : Nat → Nat → Nat} {c : Nat} {ks : Nat → Nat} {n : Nat} {t : Nat → Nat}
theorem Rs_office (R : Rs w 1 a) (F : Fr 2 8 w w1) (O : OC w1 2 a') (h0 : a 559 = 0) (e1 : a' 559 = a 559) (e2 : a' 566 = a 566) (e3 : a' 567 = a 567) : Rs w1 1 a' := by
  refine ⟨O, ?_, ?_, ?_, fun z => by omega⟩
  · rw [F.1 _ (by omega), e1]; exact R.2.1
  · rw [F.1 _ (by omega), e2]; exact R.2.2.1
  · rw [F.1 _ (by omega), e3]; exact R.2.2.2.1
theorem C_putInT (O : OC w 2 a) (I : IO a) {l d s q pp : Nat} (hl : l < 6) (hd : d < 60) (hs1 : 1 ≤ s) (hs : s ≤ 999) (hq : q < a (480 + l)) (hqd : a (40 * l + q) = d) (T : TK a (tkA a l q) l q) (hp : pp ≤ tkA a l q (480 + l)) (ha : ∀ i, i < tkA a l q (480 + l) → (aho (tkA a l q) l d s i ↔ i < pp)) : ∃ w', fX1_putIn w 2 (nI l) (nI d) (nI s) = some (nI pp, w') ∧ Fr 2 8 w w' ∧ ∀ a', PT (tkA a l q) a' l pp d s → OC w' 2 a' := by
  have hz := (I.1 l hl).1
  obtain ⟨w1, e1, F1, k1⟩ := C_takeOut O I hl hd hq hqd
  have O1 := k1 _ T
  have I1 := TK_IO T I hl hq
  have hn : ∀ i, i < tkA a l q (480 + l) → tkA a l q (40 * l + i) ≠ d := fun i hi => by rw [← hqd]; exact TK_scr0 T I hl hq i hi
  have h40 : tkA a l q (480 + l) < 40 := by have := T.1; omega
  obtain ⟨w2, e2, F2, k2⟩ := C_ins O1 I1 hl hd hs1 hs h40 hp ha hn
  refine ⟨w2, ?_, F1.trans F2, k2⟩
  unfold fX1_putIn
  rw [e1, ob_some, at_n hl (by omega), O1.1 l hl, ob_some, e2]
theorem C_putInN (O : OC w 2 a) (I : IO a) {l d s pp : Nat} (hl : l < 6) (hd : d < 60) (hs1 : 1 ≤ s) (hs : s ≤ 999) (h0 : scr a l d = 0) (h40 : a (480 + l) < 40) (hn : ∀ i, i < a (480 + l) → a (40 * l + i) ≠ d) (hp : pp ≤ a (480 + l)) (ha : ∀ i, i < a (480 + l) → (aho a l d s i ↔ i < pp)) : ∃ w', fX1_putIn w 2 (nI l) (nI d) (nI s) = some (nI pp, w') ∧ Fr 2 8 w w' ∧ ∀ a', PT a a' l pp d s → OC w' 2 a' := by
  obtain ⟨w2, e2, F2, k2⟩ := C_ins O I hl hd hs1 hs h40 hp ha hn
  refine ⟨w2, ?_, F2, k2⟩
  unfold fX1_putIn
  rw [C_takeOut0 O hl hd h0, ob_some, at_n hl (by omega), O.1 l hl, ob_some, e2]
theorem sim_add (x y z : Int32) : SimT (fun w => fX5_add LY w 0 x y z) (fun w => fX6_add w 111 x y z) := by
  rintro w ⟨a, h, p, c, ks, n, t, C, R, V⟩
  have hMR : MR w := ⟨a, h, p, c, ks, n, t, C, R, V⟩
  have I := V.1.1
  have Rs1 := C.1
  have O : OC w 2 a := Rs1.1
  have Z := R.1
  show ∃ v w1, fX5_add LY w 0 x y z = some (v, w1) ∧ w1.1 111 = w.1 111 ∧ w1.1 117 = w.1 117 ∧ ∀ q, FT w1 q → ∃ w2, fX6_add q 111 x y z = some (v, w2) ∧ MR w2
  have stay : ∀ v, fX5_add LY w 0 x y z = some (v, w) → (∀ q, ZA (q.1 112) a → fX6_add q 111 x y z = some (v, q)) → ∃ v w1, fX5_add LY w 0 x y z = some (v, w1) ∧ w1.1 111 = w.1 111 ∧ w1.1 117 = w.1 117 ∧ ∀ q, FT w1 q → ∃ w2, fX6_add q 111 x y z = some (v, w2) ∧ MR w2 := fun v e1 e2 => ⟨v, w, e1, rfl, rfl, fun q hq => ⟨q, e2 q (by rw [hq.1 112 (by omega) (by omega) (by omega) (by omega)]; exact Z), MR_ft hMR hq⟩⟩
  rcases list_cases x with ⟨l, hl, rfl⟩ | hx
  rotate_left
  · apply stay (-1)
    · unfold fX5_add
      rw [isList_n hx, ob_some, if_pos rfl]
    · intro w Z
      unfold fX6_add
      rw [X6_isList, isList_n hx, ob_some, if_pos rfl]
  rcases doc_cases y with ⟨d, hd, rfl⟩ | hy
  rotate_left
  · apply stay (-1)
    · unfold fX5_add
      rw [isList_y hl, ob_some, if_neg (by decide), isDoc_n hy, ob_some, if_pos rfl]
    · intro w Z
      unfold fX6_add
      rw [X6_isList, isList_y hl, ob_some, if_neg (by decide), X6_isDoc, isDoc_n hy, ob_some, if_pos rfl]
  have hc5 : ∀ w', fX5_add LY w' 0 (nI l) (nI d) z = (if z < 1 then some ((-2), w') else if z ≤ 999 then (if (bz (w'.1 8 0)) = 0 then (fX1_scoreOf w' 2 (nI l) (nI d)).bind fun v8 => (if v8 = 0 then (fX1_sizeOf w' 2 (nI l)).bind fun v14 => (if v14 < 40 then (if v8 = z then some ((-5), w') else (fX0_record LY w' 17 1).bind fun w17 => ob2 (fX1_putIn w17 2 (nI l) (nI d) z) fun v18 w19 => some (v18, w19)) else some ((-3), w')) else (if v8 = z then some ((-5), w') else (fX0_record LY w' 17 1).bind fun w11 => ob2 (fX1_putIn w11 2 (nI l) (nI d) z) fun v12 w13 => some (v12, w13))) else some ((-4), w')) else some ((-2), w')) := by
    intro w'
    unfold fX5_add
    rw [isList_y hl, ob_some, if_neg (by decide), isDoc_y hd, ob_some, if_neg (by decide)]
  have hc6 : ∀ w', fX6_add w' 111 (nI l) (nI d) z = (if z < 1 then some ((-2), w') else if z ≤ 999 then ((ldI 706 w' 112 559).bind fun v7 => if v7 = 1 then some ((-4), w') else (fX6_placeOf w' 111 (nI l) (nI d)).bind fun v9 => if 0 ≤ v9 then bX6_add_77 w' 111 (nI l) (nI d) z v9 else (ldI 706 w' 112 (480 + nI l)).bind fun v28 => if v28 = 40 then some ((-3), w') else bX6_add_77 w' 111 (nI l) (nI d) z v9) else some ((-2), w')) := by
    intro w'
    unfold fX6_add
    rw [X6_isList, isList_y hl, ob_some, if_neg (by decide), X6_isDoc, isDoc_y hd, ob_some, if_neg (by decide)]
  by_cases h1 : z < 1
  · exact stay (-2) (by rw [hc5, if_pos h1]) (fun _ _ => by rw [hc6, if_pos h1])
  rcases num_cases z with h0 | ⟨s, hs, rfl⟩
  · exact absurd (neg_lt1 h0) h1
  by_cases h2 : nI s ≤ 999
  rotate_left
  · exact stay (-2) (by rw [hc5, if_neg h1, if_neg h2]) (fun _ _ => by rw [hc6, if_neg h1, if_neg h2])
  have hs1 : 1 ≤ s := by
    rw [n1, nI_lt_ (by omega) (by omega)] at h1
    omega
  have hs9 : s ≤ 999 := by
    rw [show (999 : Int32) = nI 999 from rfl, nI_le_ (by omega) (by omega)] at h2
    exact h2
  have hon := on_0 Rs1 I
  have zon : ∀ w', ZA (w'.1 112) a → ldI 706 w' 112 559 = some (nI (a 559)) := fun w' Z' => by rw [n559]; exact zl Z' (by omega) (by omega)
  by_cases ho : a 559 = 0
  rotate_left
  · refine stay (-4) (by rw [hc5, if_neg h1, if_pos h2, if_neg (hon.2 ho).2]) (fun w Z => ?_)
    rw [hc6, if_neg h1, if_pos h2, zon w Z, ob_some, (hon.2 ho).1, if_pos (show nI 1 = 1 from rfl)]
  have hb0 := hon.1 ho
  have e559 : ¬ nI (a 559) = 1 := by rw [ho]; decide
  have hz40 := (I.1 l hl).1
  obtain ⟨w1, e1, R1, H1, F1⟩ := REC_C C V
  have O1 : OC w1 2 a := R1.1
  rcases pl_cases I (d := d) hl with ⟨q, hq, hqd, epl, esc⟩ | ⟨hn, epl, esc⟩
  · have hb := I.2.1 l q hl hq
    have hv8 : ¬ nI (scr a l d) = 0 := by rw [l0, nI_eq_ (by omega) (by omega)]; omega
    have hpl0 : (0 : Int32) ≤ nI q := by rw [l0, nI_le_ (by omega) (by omega)]; omega
    have hplN : ¬ nI q < 0 := nI_pos (by omega)
    have sq : ∀ w', ZA (w'.1 112) a → ldI 706 w' 112 ((240 + (40 * nI l)) + nI q) = some (nI (a (240 + 40 * l + q))) := fun w' Z' => by
      simp (disch := omega) only [Nat.reduceAdd, Nat.reduceMul, Nat.reduceSub, l0, n1, n2, n3, n4, n5, n6, n40, n60, n240, n480, n486, n492, n498, n558, n559, n560, n561, n562, n563, n564, n565, n566, n567, n568, n574, n580, n586, n646, nI_add, nI_mul, Nat.zero_add, Nat.add_zero, ob_some, ob2_some, nI_le_, nI_lt_, nI_eq_, zl Z']
    by_cases hsame : nI (scr a l d) = nI s
    · refine stay (-5) ?_ ?_
      · rw [hc5, if_neg h1, if_pos h2, if_pos hb0, C_scoreOf O hl hd, ob_some, if_neg hv8, if_pos hsame]
      · intro w Z
        rw [hc6, if_neg h1, if_pos h2, zon w Z, ob_some, if_neg e559, M_placeOf Z I hl hd, epl, ob_some, if_pos hpl0]
        unfold bX6_add_77
        rw [if_neg hplN, sq w Z, ob_some, ← esc, if_pos hsame]
    · have hne : ¬ nI (a (240 + 40 * l + q)) = nI s := by rw [← esc]; exact hsame
      obtain ⟨-, -, -, -, T, -, rfl⟩ := M_takeOut Z I hl hq
      have I1 := TK_IO T I hl hq
      obtain ⟨pp, hpp, hpa⟩ := aho_p (a := tkA a l q) I1 (d := d) (s := s) hl
      obtain ⟨w2, e2, F2, k2⟩ := C_putInT O1 I hl hd hs1 hs9 hq hqd T hpp hpa
      refine ⟨nI pp, w2, ?_, by rw [F2.1 111 (by omega), F1.1 111 (by omega)], by rw [F2.1 117 (by omega), F1.1 117 (by omega)], fun u hu => ?_⟩
      · rw [hc5, if_neg h1, if_pos h2, if_pos hb0, C_scoreOf O hl hd, ob_some, if_neg hv8, if_neg hsame, e1, ob_some, e2, ob2_some]
      have R2 := RR_ft (RR_fr (RR_fr R F1 (by omega)) F2 (by omega)) hu
      obtain ⟨w3, e3, F3, g112, g111, H3⟩ := M_record (w := u) R2.2.1 V.2.1 R2.1
      have Z3 : ZA (w3.1 112) a := by rw [g112]; exact R2.1
      obtain ⟨w4, a4, e4, Z4, T4, F4, ea4⟩ := M_takeOut Z3 I hl hq
      subst ea4
      have h40 : tkA a l q (480 + l) < 40 := by have := T.1; omega
      have hnd : ∀ i, i < tkA a l q (480 + l) → tkA a l q (40 * l + i) ≠ d := fun i hi => by rw [← hqd]; exact TK_scr0 T I hl hq i hi
      obtain ⟨w5, a5, e5, Z5, T5, F5, -⟩ := M_putIn Z4 I1 hl hd hs9 h40 hpp hpa
      have I5 := PT_IO T5 I1 hl hd hs1 hs9 h40 hpp hpa hnd
      have far : ∀ k, k < 706 → 486 ≤ k → a5 k = a k := fun k hk hk2 => (SC_far T5.2.1 hl hk hk2).trans (SC_far T.2.1 hl hk hk2)
      have Rs2 : Rs w2 1 a5 := Rs_office R1 F2 (k2 _ T5) ho (far _ (by omega) (by omega)) (far _ (by omega) (by omega)) (far _ (by omega) (by omega))
      have HC2 : HC w2 (rh h) (rp p h a) := HC_fr H1 (fun j hj => (rp_GD V.1 V.2.1 V.2.2.1 j hj).1) F2 (by omega)
      refine ⟨w5, ?_, MR_rec2 hu C R V Rs2 HC2 ((F1.wide (by omega) (by omega)).trans (F2.wide (by omega) (by omega))) F3 g111 H3 (F4.fm.trans F5.fm) Z5 ⟨I5, fun z => by rw [far 559 (by omega) (by omega)] at z; omega⟩⟩
      · rw [hc6, if_neg h1, if_pos h2, zon u R2.1, ob_some, if_neg e559, M_placeOf R2.1 I hl hd, epl, ob_some, if_pos hpl0]
        unfold bX6_add_77
        rw [if_neg hplN, sq u R2.1, ob_some, if_neg hne, e3, ob_some, if_neg hplN, e4, ob_some, e5, ob2_some]
  · have hv8 : nI (scr a l d) = 0 := by rw [esc]; rfl
    have hplN : ¬ (0 : Int32) ≤ -1 := by decide
    have hpl1 : (-1 : Int32) < 0 := by decide
    have s40 : ∀ w', ZA (w'.1 112) a → ldI 706 w' 112 (480 + nI l) = some (nI (a (480 + l))) := fun w' Z' => by simp (disch := omega) only [Nat.reduceAdd, Nat.reduceMul, Nat.reduceSub, l0, n1, n2, n3, n4, n5, n6, n40, n60, n240, n480, n486, n492, n498, n558, n559, n560, n561, n562, n563, n564, n565, n566, n567, n568, n574, n580, n586, n646, nI_add, nI_mul, Nat.zero_add, Nat.add_zero, ob_some, ob2_some, nI_le_, nI_lt_, nI_eq_, zl Z']
    by_cases h40 : a (480 + l) < 40
    rotate_left
    · refine stay (-3) ?_ ?_
      · rw [hc5, if_neg h1, if_pos h2, if_pos hb0, C_scoreOf O hl hd, ob_some, if_pos hv8, C_sizeOf O hl, ob_some, if_neg (by rw [n40, nI_lt_ (by omega) (by omega)]; exact h40)]
      · intro w Z
        rw [hc6, if_neg h1, if_pos h2, zon w Z, ob_some, if_neg e559, M_placeOf Z I hl hd, epl, ob_some, if_neg hplN, s40 w Z, ob_some, if_pos (by rw [n40, nI_eq_ (by omega) (by omega)]; omega)]
    · have hne0 : ¬ nI (scr a l d) = nI s := by rw [nI_eq_ (by omega) (by omega)]; omega
      obtain ⟨pp, hpp, hpa⟩ := aho_p (a := a) I (d := d) (s := s) hl
      obtain ⟨w2, e2, F2, k2⟩ := C_putInN O1 I hl hd hs1 hs9 esc h40 hn hpp hpa
      refine ⟨nI pp, w2, ?_, by rw [F2.1 111 (by omega), F1.1 111 (by omega)], by rw [F2.1 117 (by omega), F1.1 117 (by omega)], fun u hu => ?_⟩
      · rw [hc5, if_neg h1, if_pos h2, if_pos hb0, C_scoreOf O hl hd, ob_some, if_pos hv8, C_sizeOf O hl, ob_some, if_pos (by rw [n40, nI_lt_ (by omega) (by omega)]; exact h40), if_neg hne0, e1, ob_some, e2, ob2_some]
      have R2 := RR_ft (RR_fr (RR_fr R F1 (by omega)) F2 (by omega)) hu
      obtain ⟨w3, e3, F3, g112, g111, H3⟩ := M_record (w := u) R2.2.1 V.2.1 R2.1
      have Z3 : ZA (w3.1 112) a := by rw [g112]; exact R2.1
      obtain ⟨w5, a5, e5, Z5, T5, F5, -⟩ := M_putIn Z3 I hl hd hs9 h40 hpp hpa
      have I5 := PT_IO T5 I hl hd hs1 hs9 h40 hpp hpa hn
      have far : ∀ k, k < 706 → 486 ≤ k → a5 k = a k := fun k hk hk2 => SC_far T5.2.1 hl hk hk2
      have Rs2 : Rs w2 1 a5 := Rs_office R1 F2 (k2 _ T5) ho (far _ (by omega) (by omega)) (far _ (by omega) (by omega)) (far _ (by omega) (by omega))
      have HC2 : HC w2 (rh h) (rp p h a) := HC_fr H1 (fun j hj => (rp_GD V.1 V.2.1 V.2.2.1 j hj).1) F2 (by omega)
      refine ⟨w5, ?_, MR_rec2 hu C R V Rs2 HC2 ((F1.wide (by omega) (by omega)).trans (F2.wide (by omega) (by omega))) F3 g111 H3 F5.fm Z5 ⟨I5, fun z => by rw [far 559 (by omega) (by omega)] at z; omega⟩⟩
      · rw [hc6, if_neg h1, if_pos h2, zon u R2.1, ob_some, if_neg e559, M_placeOf R2.1 I hl hd, epl, ob_some, if_neg hplN, s40 u R2.1, ob_some, if_neg (by rw [n40, nI_eq_ (by omega) (by omega)]; omega)]
        unfold bX6_add_77
        rw [if_pos hpl1, e3, ob_some, if_pos hpl1, e5, ob2_some]
theorem sim_drop (x y : Int32) : SimT (fun w => fX5_drop LY w 0 x y) (fun w => fX6_drop w 111 x y) := by
  rintro w ⟨a, h, p, c, ks, n, t, C, R, V⟩
  have hMR : MR w := ⟨a, h, p, c, ks, n, t, C, R, V⟩
  have I := V.1.1
  have Rs1 := C.1
  have O : OC w 2 a := Rs1.1
  have Z := R.1
  show ∃ v w1, fX5_drop LY w 0 x y = some (v, w1) ∧ w1.1 111 = w.1 111 ∧ w1.1 117 = w.1 117 ∧ ∀ q, FT w1 q → ∃ w2, fX6_drop q 111 x y = some (v, w2) ∧ MR w2
  have stay : ∀ v, fX5_drop LY w 0 x y = some (v, w) → (∀ q, ZA (q.1 112) a → fX6_drop q 111 x y = some (v, q)) → ∃ v w1, fX5_drop LY w 0 x y = some (v, w1) ∧ w1.1 111 = w.1 111 ∧ w1.1 117 = w.1 117 ∧ ∀ q, FT w1 q → ∃ w2, fX6_drop q 111 x y = some (v, w2) ∧ MR w2 := fun v e1 e2 => ⟨v, w, e1, rfl, rfl, fun q hq => ⟨q, e2 q (by rw [hq.1 112 (by omega) (by omega) (by omega) (by omega)]; exact Z), MR_ft hMR hq⟩⟩
  rcases list_cases x with ⟨l, hl, rfl⟩ | hx
  rotate_left
  · apply stay (-1)
    · unfold fX5_drop
      rw [isList_n hx, ob_some, if_pos rfl]
    · intro w Z
      unfold fX6_drop
      rw [X6_isList, isList_n hx, ob_some, if_pos rfl]
  rcases doc_cases y with ⟨d, hd, rfl⟩ | hy
  rotate_left
  · apply stay (-1)
    · unfold fX5_drop
      rw [isList_y hl, ob_some, if_neg (by decide), isDoc_n hy, ob_some, if_pos rfl]
    · intro w Z
      unfold fX6_drop
      rw [X6_isList, isList_y hl, ob_some, if_neg (by decide), X6_isDoc, isDoc_n hy, ob_some, if_pos rfl]
  have hc5 : ∀ w', fX5_drop LY w' 0 (nI l) (nI d) = ((fX1_scoreOf w' 2 (nI l) (nI d)).bind fun v5 => if v5 = 0 then some ((-1), w') else if (bz (w'.1 8 0)) = 0 then (fX0_record LY w' 17 1).bind fun w8 => (fX1_takeOut w8 2 (nI l) (nI d)).bind fun w9 => (fX1_sizeOf w9 2 (nI l)).bind fun v10 => some (v10, w9) else some ((-4), w')) := by
    intro w'
    unfold fX5_drop
    rw [isList_y hl, ob_some, if_neg (by decide), isDoc_y hd, ob_some, if_neg (by decide)]
  have hc6 : ∀ w', fX6_drop w' 111 (nI l) (nI d) = ((fX6_placeOf w' 111 (nI l) (nI d)).bind fun v5 => if 0 ≤ v5 then (ldI 706 w' 112 559).bind fun v7 => (if v7 = 1 then some ((-4), w') else (fX6_record w' 111).bind fun w9 => (fX6_takeOut w9 111 (nI l) v5).bind fun w10 => (ldI 706 w10 112 (480 + nI l)).bind fun v11 => some (v11, w10)) else some ((-1), w')) := by
    intro w'
    unfold fX6_drop
    rw [X6_isList, isList_y hl, ob_some, if_neg (by decide), X6_isDoc, isDoc_y hd, ob_some, if_neg (by decide)]
  have hon := on_0 Rs1 I
  have zon : ∀ w', ZA (w'.1 112) a → ldI 706 w' 112 559 = some (nI (a 559)) := fun w' Z' => by rw [n559]; exact zl Z' (by omega) (by omega)
  have hz40 := (I.1 l hl).1
  rcases pl_cases I (d := d) hl with ⟨q, hq, hqd, epl, esc⟩ | ⟨hn, epl, esc⟩
  rotate_left
  · refine stay (-1) ?_ ?_
    · rw [hc5, C_scoreOf O hl hd, ob_some, if_pos (by rw [esc]; rfl)]
    · intro w Z
      rw [hc6, M_placeOf Z I hl hd, epl, ob_some, if_neg (by decide)]
  have hb := I.2.1 l q hl hq
  have hv8 : ¬ nI (scr a l d) = 0 := by rw [l0, nI_eq_ (by omega) (by omega)]; omega
  have hpl0 : (0 : Int32) ≤ nI q := by rw [l0, nI_le_ (by omega) (by omega)]; omega
  by_cases ho : a 559 = 0
  rotate_left
  · refine stay (-4) (by rw [hc5, C_scoreOf O hl hd, ob_some, if_neg hv8, if_neg (hon.2 ho).2]) (fun w Z => ?_)
    rw [hc6, M_placeOf Z I hl hd, epl, ob_some, if_pos hpl0, zon w Z, ob_some, (hon.2 ho).1, if_pos (show nI 1 = 1 from rfl)]
  have hb0 := hon.1 ho
  have e559 : ¬ nI (a 559) = 1 := by rw [ho]; decide
  obtain ⟨w1, e1, R1, H1, F1⟩ := REC_C C V
  have O1 : OC w1 2 a := R1.1
  obtain ⟨w2, e2, F2, k2⟩ := C_takeOut O1 I hl hd hq hqd
  obtain ⟨-, -, -, -, T, -, rfl⟩ := M_takeOut Z I hl hq
  refine ⟨nI (tkA a l q (480 + l)), w2, ?_, by rw [F2.1 111 (by omega), F1.1 111 (by omega)], by rw [F2.1 117 (by omega), F1.1 117 (by omega)], fun u hu => ?_⟩
  · rw [hc5, C_scoreOf O hl hd, ob_some, if_neg hv8, if_pos hb0, e1, ob_some, e2, ob_some, C_sizeOf (k2 _ T) hl, ob_some]
  have R2 := RR_ft (RR_fr (RR_fr R F1 (by omega)) F2 (by omega)) hu
  obtain ⟨w3, e3, F3, g112, g111, H3⟩ := M_record (w := u) R2.2.1 V.2.1 R2.1
  have Z3 : ZA (w3.1 112) a := by rw [g112]; exact R2.1
  obtain ⟨w4, a4, e4, Z4, T4, F4, ea4⟩ := M_takeOut Z3 I hl hq
  subst ea4
  have I4 := TK_IO T4 I hl hq
  have far : ∀ k, k < 706 → 486 ≤ k → tkA a l q k = a k := fun k hk hk2 => SC_far T4.2.1 hl hk hk2
  have Rs2 : Rs w2 1 (tkA a l q) := Rs_office R1 F2 (k2 _ T4) ho (far _ (by omega) (by omega)) (far _ (by omega) (by omega)) (far _ (by omega) (by omega))
  have HC2 : HC w2 (rh h) (rp p h a) := HC_fr H1 (fun j hj => (rp_GD V.1 V.2.1 V.2.2.1 j hj).1) F2 (by omega)
  refine ⟨w4, ?_, MR_rec2 hu C R V Rs2 HC2 ((F1.wide (by omega) (by omega)).trans (F2.wide (by omega) (by omega))) F3 g111 H3 F4.fm Z4 ⟨I4, fun z => by rw [far 559 (by omega) (by omega)] at z; omega⟩⟩
  · rw [hc6, M_placeOf R2.1 I hl hd, epl, ob_some, if_pos hpl0, zon u R2.1, ob_some, if_neg e559, e3, ob_some, e4, ob_some]
    simp (disch := omega) only [Nat.reduceAdd, Nat.reduceMul, Nat.reduceSub, l0, n1, n2, n3, n4, n5, n6, n40, n60, n240, n480, n486, n492, n498, n558, n559, n560, n561, n562, n563, n564, n565, n566, n567, n568, n574, n580, n586, n646, nI_add, nI_mul, Nat.zero_add, Nat.add_zero, ob_some, ob2_some, nI_le_, nI_lt_, nI_eq_, zl Z4]
end ADD
