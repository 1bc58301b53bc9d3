/-! PURE PART: what clerks know -/
section QR2
variable {w w1 w2 w3 : Wd} {a a' : Nat → Nat} {h : Nat} {p : Nat → Nat → Nat} {c : Nat} {ks : Nat → Nat} {n : Nat} {t : Nat → Nat}
theorem neg_nle4 {y : Int32} {k : Nat} (hk : k < 2147483648) : (∃ q, q ≤ k ∧ y = nI q) → ¬ y < 0 ∧ y ≤ nI k := by
  rintro ⟨q, hq, rfl⟩
  exact ⟨nI_pos (by omega), by rw [nI_le_ (by omega) hk]; exact hq⟩
theorem sim_clerk (x y : Int32) : SimQ (fun w => fX5_clerk w 0 x y) (fun w => fX6_clerk w 111 x y) := by
  rintro w ⟨a, h, p, c, ks, n, t, C, R, V⟩
  have I := V.1.1
  have Rs1 := C.1
  have O : OC w 2 a := C.1.1
  have Z := R.1
  show ∃ v, fX5_clerk w 0 x y = some v ∧ fX6_clerk w 111 x y = some v
  rcases list_cases x with ⟨l, hl, rfl⟩ | hx
  rotate_left
  · refine ⟨-1, ?_, ?_⟩
    · unfold fX5_clerk
      rw [isList_n hx, ob_some, if_pos rfl]
    · unfold fX6_clerk
      rw [X6_isList, isList_n hx, ob_some, if_pos rfl]
  have hc5 : fX5_clerk w 0 (nI l) y = (if y < 0 then some (-2) else if y ≤ 4 then (if (bz (w.1 8 0)) = 0 then some (-4) else (fX1_isAsked w 2 (nI l)).bind fun v6 => if v6 = 0 then some (-5) else if y = 0 then (fX5_at w 9 6 (nI l)).bind fun v9 => some v9 else if y = 1 then (fX5_at w 12 6 (nI l)).bind fun v11 => some v11 else if y = 2 then (fX5_at w 11 6 (nI l)).bind fun v13 => some v13 else if y = 3 then (fX2_isCaught w 8 (nI l)).bind fun v15 => (fX5_oneIf w v15).bind fun v16 => some v16 else (fX5_at w 10 6 (nI l)).bind fun v17 => some v17) else some (-2)) := by
    unfold fX5_clerk
    rw [isList_y hl, ob_some, if_neg (by decide)]
  have hc6 : fX6_clerk w 111 (nI l) y = (if y < 0 then some (-2) else if y ≤ 4 then (ldI 706 w 112 559).bind fun v5 => (if v5 = 0 then some (-4) else (fX6_isAsked w 111 (nI l)).bind fun v7 => if v7 = 0 then some (-5) else if y = 1 then (fX6_toldBound w 111 (nI l)).bind fun v17 => some v17 else if y = 2 then (fX6_bound w 111 (nI l)).bind fun v16 => some v16 else if y = 0 then (ldI 706 w 112 (568 + nI l)).bind fun v15 => some v15 else if y = 3 then (ldI 706 w 112 (574 + nI l)).bind fun v14 => some v14 else (ldI 706 w 112 (580 + nI l)).bind fun v13 => some v13) else some (-2)) := by
    unfold fX6_clerk
    rw [X6_isList, isList_y hl, ob_some, if_neg (by decide)]
  rw [hc5, hc6]
  rcases what_cases y 4 (by omega) with hq | hy | ⟨hy, hy2, hy3⟩
  rotate_left
  · exact ⟨-2, by rw [if_pos hy], by rw [if_pos hy]⟩
  · exact ⟨-2, by rw [if_neg hy, if_neg (show ¬ y ≤ 4 from hy2)], by rw [if_neg hy, if_neg (show ¬ y ≤ 4 from hy2)]⟩
  obtain ⟨g1, g2⟩ := neg_nle4 (by omega) hq
  have g2' : y ≤ 4 := g2
  obtain ⟨q, hq, rfl⟩ := hq
  have hon := on_0 Rs1 I
  have zon : ldI 706 w 112 559 = some (nI (a 559)) := by rw [n559]; exact zl Z (by omega) (by omega)
  rw [if_neg g1, if_pos g2', if_neg g1, if_pos g2', zon, ob_some]
  by_cases ho : a 559 = 0
  · exact ⟨-4, by rw [if_pos (hon.1 ho)], by rw [ho, if_pos (show nI 0 = 0 from rfl)]⟩
  have ho1 := (hon.2 ho).1
  have hb0 := (hon.2 ho).2
  have e559 : ¬ nI (a 559) = 0 := by rw [ho1]; decide
  have J := V.1.2 ho1
  obtain ⟨f, m, RC0⟩ := Rs1.2.2.2.2 ho1
  have RC0' : RC w 8 a f m := RC0
  rw [if_neg hb0, if_neg e559, C_isAsked O I hl, M_isAsked Z I hl, ob_some, ob_some]
  by_cases hw : 0 < a (486 + l)
  rotate_left
  · refine ⟨-5, ?_, ?_⟩
    · rw [if_neg hw, if_pos rfl]
    · rw [if_neg hw, if_pos rfl]
  rw [if_pos hw, if_neg (show ¬ (1 : Int32) = 0 by decide), if_neg (show ¬ (1 : Int32) = 0 by decide)]
  have ht := J.1.1 l hl
  obtain ⟨q1, q2, q3, q4, q5, q6, q7, q8, q9, q10, q11, q12, q13, q14, q15, q16⟩ := RC0'
  obtain rfl | rfl | rfl | rfl | rfl : q = 0 ∨ q = 1 ∨ q = 2 ∨ q = 3 ∨ q = 4 := by omega
  · refine ⟨nI (a (568 + l)), by rw [if_pos (show nI 0 = 0 from rfl), at_n hl (by omega), q8 l hl, ob_some], ?_⟩
    rw [if_neg (show ¬ nI 0 = 1 by decide), if_neg (show ¬ nI 0 = 2 by decide), if_pos (show nI 0 = 0 from rfl), n568, nI_add, zl Z (by omega) (by omega), ob_some]
  · refine ⟨nI (tb a l), by rw [if_neg (show ¬ nI 1 = 0 by decide), if_pos (show nI 1 = 1 from rfl), at_n hl (by omega), q11 l hl, ob_some], ?_⟩
    rw [if_pos (show nI 1 = 1 from rfl), M_tb Z I J.1 hl, ob_some]
  · refine ⟨nI (bd a l), by rw [if_neg (show ¬ nI 2 = 0 by decide), if_neg (show ¬ nI 2 = 1 by decide), if_pos (show nI 2 = 2 from rfl), at_n hl (by omega), q10 l hl, ob_some], ?_⟩
    rw [if_neg (show ¬ nI 2 = 1 by decide), if_pos (show nI 2 = 2 from rfl), M_bound Z I J.1 hl, ob_some]
  · refine ⟨nI (a (574 + l)), ?_, ?_⟩
    · rw [if_neg (show ¬ nI 3 = 0 by decide), if_neg (show ¬ nI 3 = 1 by decide), if_neg (show ¬ nI 3 = 2 by decide), if_pos (show nI 3 = 3 from rfl), C_isCaught q6 hl, ob_some]
      obtain h0 | h0 : a (574 + l) = 0 ∨ a (574 + l) = 1 := by omega
      · rw [h0]; rfl
      · rw [h0]; rfl
    · rw [if_neg (show ¬ nI 3 = 1 by decide), if_neg (show ¬ nI 3 = 2 by decide), if_neg (show ¬ nI 3 = 0 by decide), if_pos (show nI 3 = 3 from rfl), n574, nI_add, zl Z (by omega) (by omega), ob_some]
  · refine ⟨nI (a (580 + l)), by rw [if_neg (show ¬ nI 4 = 0 by decide), if_neg (show ¬ nI 4 = 1 by decide), if_neg (show ¬ nI 4 = 2 by decide), if_neg (show ¬ nI 4 = 3 by decide), at_n hl (by omega), q9 l hl, ob_some], ?_⟩
    rw [if_neg (show ¬ nI 4 = 1 by decide), if_neg (show ¬ nI 4 = 2 by decide), if_neg (show ¬ nI 4 = 0 by decide), if_neg (show ¬ nI 4 = 3 by decide), n580, nI_add, zl Z (by omega) (by omega), ob_some]
theorem sim_seen (x y : Int32) : SimH (fun w => fX5_seen w 0 x y) (fun w => fX6_seen w 111 x y) := by
  rintro w ⟨a, h, p, c, ks, n, t, C, R, V⟩
  have hMR : MR w := ⟨a, h, p, c, ks, n, t, C, R, V⟩
  have I := V.1.1
  have Rs1 := C.1
  have O : OC w 2 a := C.1.1
  have Z := R.1
  show ∃ v w2, fX5_seen w 0 x y = some v ∧ fX6_seen w 111 x y = some (v, w2) ∧ MR w2
  have stay : ∀ v, fX5_seen w 0 x y = some v → fX6_seen w 111 x y = some (v, w) → ∃ v w2, fX5_seen w 0 x y = some v ∧ fX6_seen w 111 x y = some (v, w2) ∧ MR w2 := fun v e1 e2 => ⟨v, w, e1, e2, hMR⟩
  rcases doc_cases x with ⟨d, hd, rfl⟩ | hx
  rotate_left
  · refine stay (-1) ?_ ?_
    · unfold fX5_seen
      rw [isDoc_n hx, ob_some, if_pos rfl]
    · unfold fX6_seen
      rw [X6_isDoc, isDoc_n hx, ob_some, if_pos rfl]
  have hc5 : fX5_seen w 0 (nI d) y = (if y < 0 then some (-2) else if y ≤ 4 then (if (bz (w.1 8 0)) = 0 then some (-4) else (fX2_isSeen w 8 (nI d)).bind fun v6 => if v6 = 0 then some (-5) else if y = 0 then (fX5_at w 14 60 (nI d)).bind fun v9 => some v9 else if y = 1 then (fX2_highOf w 8 2 (nI d)).bind fun v11 => some v11 else if y = 2 then (fX2_knownListsOf w 8 2 (nI d)).bind fun v13 => some v13 else if y = 3 then (fX2_frontPlaceOf w 8 (nI d)).bind fun v15 => some v15 else (fX5_at w 15 60 (nI d)).bind fun v16 => some v16) else some (-2)) := by
    unfold fX5_seen
    rw [isDoc_y hd, ob_some, if_neg (by decide)]
  have hc6 : fX6_seen w 111 (nI d) y = (if y < 0 then some ((-2 : Int32), w) else if y ≤ 4 then (ldI 706 w 112 559).bind fun v5 => (if v5 = 0 then some ((-4 : Int32), w) else (fX6_isSeen w 111 (nI d)).bind fun v7 => if v7 = 0 then some ((-5 : Int32), w) else (fX6_reckon w 111).bind fun w9 => if 2 ≤ y then (if y = 2 then (fX6_knownOf w9 111 (nI d)).bind fun v15 => some (v15, w9) else if y = 3 then (fX6_frontPlace w9 111 (nI d)).bind fun v14 => some (v14, w9) else (ldI 706 w9 112 (586 + nI d)).bind fun v13 => some (v13 - 1, w9)) else (if y = 0 then (ldI 60 w9 116 (nI d)).bind fun v18 => some (v18, w9) else (fX6_high w9 111 (nI d)).bind fun v17 => some (v17, w9))) else some ((-2 : Int32), w)) := by
    unfold fX6_seen
    rw [X6_isDoc, isDoc_y hd, ob_some, if_neg (by decide)]
  rcases what_cases y 4 (by omega) with hq | hy | ⟨hy, hy2, hy3⟩
  rotate_left
  · exact stay (-2) (by rw [hc5, if_pos hy]) (by rw [hc6, if_pos hy])
  · exact stay (-2) (by rw [hc5, if_neg hy, if_neg (show ¬ y ≤ 4 from hy2)]) (by rw [hc6, if_neg hy, if_neg (show ¬ y ≤ 4 from hy2)])
  obtain ⟨g1, g2⟩ := neg_nle4 (by omega) hq
  have g2' : y ≤ 4 := g2
  obtain ⟨q, hq, rfl⟩ := hq
  have hon := on_0 Rs1 I
  have zon : ldI 706 w 112 559 = some (nI (a 559)) := by rw [n559]; exact zl Z (by omega) (by omega)
  rw [if_neg g1, if_pos g2'] at hc5
  rw [if_neg g1, if_pos g2', zon, ob_some] at hc6
  by_cases ho : a 559 = 0
  · exact stay (-4) (by rw [hc5, if_pos (hon.1 ho)]) (by rw [hc6, ho, if_pos (show nI 0 = 0 from rfl)])
  have ho1 := (hon.2 ho).1
  have hb0 := (hon.2 ho).2
  have e559 : ¬ nI (a 559) = 0 := by rw [ho1]; decide
  have J := V.1.2 ho1
  obtain ⟨f, m, RC0⟩ := Rs1.2.2.2.2 ho1
  have RC0' : RC w 8 a f m := RC0
  rw [if_neg hb0, C_isSeen RC0' J.1 hd, ob_some] at hc5
  rw [if_neg e559, M_isSeen Z I J.1 hd, ob_some] at hc6
  by_cases hs : sn a d
  rotate_left
  · rw [if_neg hs, if_pos rfl] at hc5 hc6
    exact stay (-5) hc5 hc6
  rw [if_pos hs, if_neg (show ¬ (1 : Int32) = 0 by decide)] at hc5 hc6
  obtain ⟨wr, er, Fr1, LW1⟩ := M_reckon Z I J.1
  rw [er, ob_some] at hc6
  have hMR2 : MR wr := MR_same C R V Fr1
  have Zr : ZA (wr.1 112) a := by rw [Fr1.1 112 (by omega)]; exact Z
  have fin : ∀ v, fX5_seen w 0 (nI d) (nI q) = some v → fX6_seen w 111 (nI d) (nI q) = some (v, wr) → ∃ v w2, fX5_seen w 0 (nI d) (nI q) = some v ∧ fX6_seen w 111 (nI d) (nI q) = some (v, w2) ∧ MR w2 := fun v e1 e2 => ⟨v, wr, e1, e2, hMR2⟩
  obtain rfl | rfl | rfl | rfl | rfl : q = 0 ∨ q = 1 ∨ q = 2 ∨ q = 3 ∨ q = 4 := by omega
  · refine fin (nI (lowk a d)) ?_ ?_
    · rw [hc5, if_pos (show nI 0 = 0 from rfl), at_n hd (by omega), RC0'.2.2.2.2.2.2.2.2.2.2.2.2.1 d hd, ob_some]
    · rw [hc6, if_neg (show ¬ 2 ≤ nI 0 by decide), if_pos (show nI 0 = 0 from rfl), ldI_n hd (by omega), LW1 d hd, ob_some]
  · refine fin (nI (high a d)) ?_ ?_
    · rw [hc5, if_neg (show ¬ nI 1 = 0 by decide), if_pos (show nI 1 = 1 from rfl), C_high O RC0' J.1 hd, ob_some]
    · rw [hc6, if_neg (show ¬ 2 ≤ nI 1 by decide), if_neg (show ¬ nI 1 = 0 by decide), M_high Zr I J.1 LW1 hd, ob_some]
  · refine fin (nI (kno a d)) ?_ ?_
    · rw [hc5, if_neg (show ¬ nI 2 = 0 by decide), if_neg (show ¬ nI 2 = 1 by decide), if_pos (show nI 2 = 2 from rfl), C_kno O RC0' I J.1 hd, ob_some]
    · rw [hc6, if_pos (show 2 ≤ nI 2 by decide), if_pos (show nI 2 = 2 from rfl), M_kno Zr I J.1 hd, ob_some]
  · refine fin (nI (fpl a d)) ?_ ?_
    · rw [hc5, if_neg (show ¬ nI 3 = 0 by decide), if_neg (show ¬ nI 3 = 1 by decide), if_neg (show ¬ nI 3 = 2 by decide), if_pos (show nI 3 = 3 from rfl), C_fplq RC0' hd hs, ob_some]
    · rw [hc6, if_pos (show 2 ≤ nI 3 by decide), if_neg (show ¬ nI 3 = 2 by decide), if_pos (show nI 3 = 3 from rfl), M_fpl Zr I J.1 LW1 hd, ob_some]
  · refine fin (nI (a (586 + d) - 1)) ?_ ?_
    · rw [hc5, if_neg (show ¬ nI 4 = 0 by decide), if_neg (show ¬ nI 4 = 1 by decide), if_neg (show ¬ nI 4 = 2 by decide), if_neg (show ¬ nI 4 = 3 by decide), at_n hd (by omega), RC0'.2.2.2.2.2.2.2.2.2.2.2.2.2.1 d hd hs, ob_some]
    · rw [hc6, if_pos (show 2 ≤ nI 4 by decide), if_neg (show ¬ nI 4 = 2 by decide), if_neg (show ¬ nI 4 = 3 by decide), n586, nI_add, zl Zr (by omega) (by omega), ob_some, n1, nI_sub hs]
theorem sim_told (x : Int32) : SimH (fun w => fX5_told w 0 x) (fun w => fX6_told w 111 x) := by
  rintro w ⟨a, h, p, c, ks, n, t, C, R, V⟩
  have hMR : MR w := ⟨a, h, p, c, ks, n, t, C, R, V⟩
  have I := V.1.1
  have Rs1 := C.1
  have O : OC w 2 a := C.1.1
  have Z := R.1
  show ∃ v w2, fX5_told w 0 x = some v ∧ fX6_told w 111 x = some (v, w2) ∧ MR w2
  have stay : ∀ v, fX5_told w 0 x = some v → fX6_told w 111 x = some (v, w) → ∃ v w2, fX5_told w 0 x = some v ∧ fX6_told w 111 x = some (v, w2) ∧ MR w2 := fun v e1 e2 => ⟨v, w, e1, e2, hMR⟩
  have hc5 : fX5_told w 0 x = (if 0 ≤ x then (if (bz (w.1 8 0)) = 0 then some (-4) else (fX2_toldSize w 8 2).bind fun v3 => if v3 ≤ x then some (-5) else (fX5_at w 16 60 x).bind fun v5 => some v5) else some (-2)) := rfl
  have hc6 : fX6_told w 111 x = (if 0 ≤ x then (ldI 706 w 112 559).bind fun v2 => (if v2 = 0 then some ((-4 : Int32), w) else (fX6_reckon w 111).bind fun w4 => (fX6_toldMany w4 111).bind fun v5 => if v5 ≤ x then some ((-5 : Int32), w4) else (fX6_frontAt w4 111 x).bind fun v7 => some (v7, w4)) else some ((-2 : Int32), w)) := rfl
  rcases num_cases x with h0 | ⟨q, hq, rfl⟩
  · exact stay (-2) (by rw [hc5, if_neg (neg_nle h0)]) (by rw [hc6, if_neg (neg_nle h0)])
  have e : (0 : Int32) ≤ nI q := by rw [l0, nI_le_ (by omega) (by omega)]; omega
  have hon := on_0 Rs1 I
  have zon : ldI 706 w 112 559 = some (nI (a 559)) := by rw [n559]; exact zl Z (by omega) (by omega)
  rw [if_pos e] at hc5
  rw [if_pos e, zon, ob_some] at hc6
  by_cases ho : a 559 = 0
  · exact stay (-4) (by rw [hc5, if_pos (hon.1 ho)]) (by rw [hc6, ho, if_pos (show nI 0 = 0 from rfl)])
  have ho1 := (hon.2 ho).1
  have hb0 := (hon.2 ho).2
  have e559 : ¬ nI (a 559) = 0 := by rw [ho1]; decide
  have J := V.1.2 ho1
  obtain ⟨f, m, RC0⟩ := Rs1.2.2.2.2 ho1
  have RC0' : RC w 8 a f m := RC0
  have F : FR a f m := RC0'.2.2.2.2.2.2.2.2.2.2.2.2.2.2.2
  obtain ⟨wr, er, Fr1, LW1⟩ := M_reckon Z I J.1
  have hMR2 : MR wr := MR_same C R V Fr1
  have Zr : ZA (wr.1 112) a := by rw [Fr1.1 112 (by omega)]; exact Z
  rw [if_neg hb0, C_toldSize O RC0' I, ob_some] at hc5
  rw [if_neg e559, er, ob_some, M_toldMany Zr I J.1, FR_m F, ob_some] at hc6
  have hm := F.1
  by_cases hlt : q < min m (a 558)
  · have e2 : ¬ nI (min m (a 558)) ≤ nI q := by rw [nI_le_ (by omega) (by omega)]; omega
    exact ⟨nI (f q), wr, by rw [hc5, if_neg e2, C_front RC0' (by omega), ob_some], by rw [hc6, if_neg e2, M_frontAt Zr I J.1 LW1 F (by omega), ob_some], hMR2⟩
  · have e2 : nI (min m (a 558)) ≤ nI q := by rw [nI_le_ (by omega) (by omega)]; omega
    exact ⟨-5, wr, by rw [hc5, if_pos e2], by rw [hc6, if_pos e2], hMR2⟩
theorem sim_reading (x : Int32) : SimH (fun w => fX5_reading w 0 x) (fun w => fX6_reading w 111 x) := by
  rintro w ⟨a, h, p, c, ks, n, t, C, R, V⟩
  have hMR : MR w := ⟨a, h, p, c, ks, n, t, C, R, V⟩
  have I := V.1.1
  have Rs1 := C.1
  have O : OC w 2 a := C.1.1
  have Z := R.1
  show ∃ v w2, fX5_reading w 0 x = some v ∧ fX6_reading w 111 x = some (v, w2) ∧ MR w2
  have stay : ∀ v, fX5_reading w 0 x = some v → fX6_reading w 111 x = some (v, w) → ∃ v w2, fX5_reading w 0 x = some v ∧ fX6_reading w 111 x = some (v, w2) ∧ MR w2 := fun v e1 e2 => ⟨v, w, e1, e2, hMR⟩
  have hc5 : fX5_reading w 0 x = (if x < 0 then some (-2) else if x ≤ 12 then (if (bz (w.1 8 0)) = 0 then some (-4) else if x = 0 then some (w.1 8 4) else if x = 1 then some (w.1 8 5) else if x = 2 then (fX2_allLookUps w 8).bind fun v7 => some v7 else if x = 3 then (fX2_cost w 8).bind fun v9 => some v9 else if x = 4 then some (w.1 8 15) else if x = 5 then (fX2_toldSize w 8 2).bind fun v12 => some v12 else if x = 6 then (fX2_isOver w 8 2).bind fun v14 => (fX5_oneIf w v14).bind fun v15 => some v15 else if x = 7 then (fX2_isOver w 8 2).bind fun v17 => (if v17 = 0 then (fX2_nextList w 8 2).bind fun v19 => some v19 else some (-5)) else if x = 8 then (fX2_weighedBounds w 8 2).bind fun v21 => some v21 else if x = 9 then (fX2_lowOfLastTold w 8 2).bind fun v23 => some v23 else if x = 10 then (fX2_caughtSize w 8).bind fun v25 => some v25 else if x = 11 then (fX2_toldNotWanted w 8 2).bind fun v27 => some v27 else (fX2_tellingLess w 8 2).bind fun v28 => some v28) else some (-2)) := rfl
  have hc6 : fX6_reading w 111 x = (if x < 0 then some ((-2 : Int32), w) else if x ≤ 12 then (ldI 706 w 112 559).bind fun v3 => (if v3 = 0 then some ((-4 : Int32), w) else if x = 0 then (ldI 706 w 112 564).bind fun v6 => some (v6, w) else if x = 1 then (ldI 706 w 112 565).bind fun v8 => some (v8, w) else if x = 2 then (fX6_sumOf w 111 580).bind fun v10 => some (v10, w) else if x = 3 then (fX6_cost w 111).bind fun v12 => some (v12, w) else if x = 4 then (fX6_seenMany w 111).bind fun v14 => some (v14, w) else if x = 5 then (fX6_toldMany w 111).bind fun v16 => some (v16, w) else if x = 6 then (ldI 706 w 112 562).bind fun v18 => some (v18, w) else if x = 7 then (ldI 706 w 112 562).bind fun v20 => (if v20 = 1 then some ((-5 : Int32), w) else (fX6_nextList w 111).bind fun v22 => some (v22, w)) else if x = 8 then (fX6_boundsTogether w 111).bind fun v24 => some (v24, w) else if x = 9 then (fX6_reckon w 111).bind fun w26 => (fX6_toldMany w26 111).bind fun v27 => (if v27 = 0 then some ((0 : Int32), w26) else (fX6_toldMany w26 111).bind fun v29 => (fX6_frontAt w26 111 (v29 - 1)).bind fun v30 => (ldI 60 w26 116 v30).bind fun v31 => some (v31, w26)) else if x = 10 then (fX6_sumOf w 111 574).bind fun v33 => some (v33, w) else if x = 11 then ob2 (fX6_toldNotWanted w 111) fun v35 w36 => some (v35, w36) else (fX6_tellLess w 111).bind fun v37 => some (v37, w)) else some ((-2 : Int32), w)) := rfl
  rcases what_cases x 12 (by omega) with hq | hy | ⟨hy, hy2, hy3⟩
  rotate_left
  · exact stay (-2) (by rw [hc5, if_pos hy]) (by rw [hc6, if_pos hy])
  · exact stay (-2) (by rw [hc5, if_neg hy, if_neg (show ¬ x ≤ 12 from hy2)]) (by rw [hc6, if_neg hy, if_neg (show ¬ x ≤ 12 from hy2)])
  obtain ⟨g1, g2⟩ := neg_nle4 (by omega) hq
  have g2' : x ≤ 12 := g2
  obtain ⟨q, hq, rfl⟩ := hq
  have hon := on_0 Rs1 I
  have zon : ldI 706 w 112 559 = some (nI (a 559)) := by rw [n559]; exact zl Z (by omega) (by omega)
  rw [if_neg g1, if_pos g2'] at hc5
  rw [if_neg g1, if_pos g2', zon, ob_some] at hc6
  by_cases ho : a 559 = 0
  · exact stay (-4) (by rw [hc5, if_pos (hon.1 ho)]) (by rw [hc6, ho, if_pos (show nI 0 = 0 from rfl)])
  have ho1 := (hon.2 ho).1
  have hb0 := (hon.2 ho).2
  have e559 : ¬ nI (a 559) = 0 := by rw [ho1]; decide
  have J := V.1.2 ho1
  have G : GR a := ⟨I, J⟩
  obtain ⟨f, m, RC0⟩ := Rs1.2.2.2.2 ho1
  have RC0' : RC w 8 a f m := RC0
  obtain ⟨q1, q2, q3, q4, q5, q6, q7, q8, q9, q10, q11, q12, q13, q14, q15, F⟩ := RC0
  have hm := F.1
  rw [if_neg hb0] at hc5
  rw [if_neg e559] at hc6
  obtain rfl | rfl | rfl | rfl | rfl | rfl | rfl | rfl | rfl | rfl | rfl | rfl | rfl : q = 0 ∨ q = 1 ∨ q = 2 ∨ q = 3 ∨ q = 4 ∨ q = 5 ∨ q = 6 ∨ q = 7 ∨ q = 8 ∨ q = 9 ∨ q = 10 ∨ q = 11 ∨ q = 12 := by omega
  · exact stay (nI (a 564)) (by rw [hc5, if_pos (show nI 0 = 0 from rfl), q4]) (by rw [hc6, if_pos (show nI 0 = 0 from rfl), n564, zl Z (by omega) (by omega), ob_some])
  · exact stay (nI (a 565)) (by rw [hc5, if_neg (show ¬ nI 1 = 0 by decide), if_pos (show nI 1 = 1 from rfl), q5]) (by rw [hc6, if_neg (show ¬ nI 1 = 0 by decide), if_pos (show nI 1 = 1 from rfl), n565, zl Z (by omega) (by omega), ob_some])
  · exact stay (nI (sums a 580)) (by rw [hc5, if_neg (show ¬ nI 2 = 0 by decide), if_neg (show ¬ nI 2 = 1 by decide), if_pos (show nI 2 = 2 from rfl), C_allLookUps RC0', ob_some]) (by rw [hc6, if_neg (show ¬ nI 2 = 0 by decide), if_neg (show ¬ nI 2 = 1 by decide), if_pos (show nI 2 = 2 from rfl), n580, M_sumOf Z (by omega) (by omega), ob_some])
  · exact stay (nI (a 564 + 3 * sums a 580)) (by rw [hc5, if_neg (show ¬ nI 3 = 0 by decide), if_neg (show ¬ nI 3 = 1 by decide), if_neg (show ¬ nI 3 = 2 by decide), if_pos (show nI 3 = 3 from rfl), C_cost RC0', ob_some]) (by rw [hc6, if_neg (show ¬ nI 3 = 0 by decide), if_neg (show ¬ nI 3 = 1 by decide), if_neg (show ¬ nI 3 = 2 by decide), if_pos (show nI 3 = 3 from rfl), M_cost Z, ob_some])
  · exact stay (nI m) (by rw [hc5, if_neg (show ¬ nI 4 = 0 by decide), if_neg (show ¬ nI 4 = 1 by decide), if_neg (show ¬ nI 4 = 2 by decide), if_neg (show ¬ nI 4 = 3 by decide), if_pos (show nI 4 = 4 from rfl), q7]) (by rw [hc6, if_neg (show ¬ nI 4 = 0 by decide), if_neg (show ¬ nI 4 = 1 by decide), if_neg (show ¬ nI 4 = 2 by decide), if_neg (show ¬ nI 4 = 3 by decide), if_pos (show nI 4 = 4 from rfl), M_smany Z I J.1, FR_m F, ob_some])
  · exact stay (nI (min m (a 558))) (by rw [hc5, if_neg (show ¬ nI 5 = 0 by decide), if_neg (show ¬ nI 5 = 1 by decide), if_neg (show ¬ nI 5 = 2 by decide), if_neg (show ¬ nI 5 = 3 by decide), if_neg (show ¬ nI 5 = 4 by decide), if_pos (show nI 5 = 5 from rfl), C_toldSize O RC0' I, ob_some]) (by rw [hc6, if_neg (show ¬ nI 5 = 0 by decide), if_neg (show ¬ nI 5 = 1 by decide), if_neg (show ¬ nI 5 = 2 by decide), if_neg (show ¬ nI 5 = 3 by decide), if_neg (show ¬ nI 5 = 4 by decide), if_pos (show nI 5 = 5 from rfl), M_toldMany Z I J.1, FR_m F, ob_some])
  · exact stay (nI (a 562)) (by rw [hc5, if_neg (show ¬ nI 6 = 0 by decide), if_neg (show ¬ nI 6 = 1 by decide), if_neg (show ¬ nI 6 = 2 by decide), if_neg (show ¬ nI 6 = 3 by decide), if_neg (show ¬ nI 6 = 4 by decide), if_neg (show ¬ nI 6 = 5 by decide), if_pos (show nI 6 = 6 from rfl), C_isOver O RC0' I J.1, ob_some, oneIf_ov G, ob_some]) (by rw [hc6, if_neg (show ¬ nI 6 = 0 by decide), if_neg (show ¬ nI 6 = 1 by decide), if_neg (show ¬ nI 6 = 2 by decide), if_neg (show ¬ nI 6 = 3 by decide), if_neg (show ¬ nI 6 = 4 by decide), if_neg (show ¬ nI 6 = 5 by decide), if_pos (show nI 6 = 6 from rfl), n562, zl Z (by omega) (by omega), ob_some])
  · rw [if_neg (show ¬ nI 7 = 0 by decide), if_neg (show ¬ nI 7 = 1 by decide), if_neg (show ¬ nI 7 = 2 by decide), if_neg (show ¬ nI 7 = 3 by decide), if_neg (show ¬ nI 7 = 4 by decide), if_neg (show ¬ nI 7 = 5 by decide), if_neg (show ¬ nI 7 = 6 by decide), if_pos (show nI 7 = 7 from rfl), C_isOver O RC0' I J.1, ob_some] at hc5
    rw [if_neg (show ¬ nI 7 = 0 by decide), if_neg (show ¬ nI 7 = 1 by decide), if_neg (show ¬ nI 7 = 2 by decide), if_neg (show ¬ nI 7 = 3 by decide), if_neg (show ¬ nI 7 = 4 by decide), if_neg (show ¬ nI 7 = 5 by decide), if_neg (show ¬ nI 7 = 6 by decide), if_pos (show nI 7 = 7 from rfl), n562, zl Z (by omega) (by omega), ob_some] at hc6
    by_cases hov : ov a
    · exact stay (-5) (by rw [hc5, if_pos hov, if_neg (by decide)]) (by rw [hc6, J.2.2.mp hov, if_pos (show nI 1 = 1 from rfl)])
    · have h562 : a 562 = 0 := by
        have h3 : a 562 ≠ 1 := fun z => hov (J.2.2.mpr z)
        have h4 := J.2.1
        omega
      have hn := nx_facts G hov
      have hcl : ∃ l, l < 6 ∧ canr a l := ⟨_, hn.1, hn.2.1⟩
      exact stay (nI (nx a 6)) (by rw [hc5, if_neg hov, if_pos rfl, C_nextList O RC0' I J.1 hcl, ob_some]) (by rw [hc6, h562, if_neg (by decide), M_nextList Z I J.1, encM, if_neg (by omega), ob_some])
  · exact stay (nI (wbd a)) (by rw [hc5, if_neg (show ¬ nI 8 = 0 by decide), if_neg (show ¬ nI 8 = 1 by decide), if_neg (show ¬ nI 8 = 2 by decide), if_neg (show ¬ nI 8 = 3 by decide), if_neg (show ¬ nI 8 = 4 by decide), if_neg (show ¬ nI 8 = 5 by decide), if_neg (show ¬ nI 8 = 6 by decide), if_neg (show ¬ nI 8 = 7 by decide), if_pos (show nI 8 = 8 from rfl), C_wbd O RC0', ob_some]) (by rw [hc6, if_neg (show ¬ nI 8 = 0 by decide), if_neg (show ¬ nI 8 = 1 by decide), if_neg (show ¬ nI 8 = 2 by decide), if_neg (show ¬ nI 8 = 3 by decide), if_neg (show ¬ nI 8 = 4 by decide), if_neg (show ¬ nI 8 = 5 by decide), if_neg (show ¬ nI 8 = 6 by decide), if_neg (show ¬ nI 8 = 7 by decide), if_pos (show nI 8 = 8 from rfl), M_wbd Z I J.1, ob_some])
  · rw [if_neg (show ¬ nI 9 = 0 by decide), if_neg (show ¬ nI 9 = 1 by decide), if_neg (show ¬ nI 9 = 2 by decide), if_neg (show ¬ nI 9 = 3 by decide), if_neg (show ¬ nI 9 = 4 by decide), if_neg (show ¬ nI 9 = 5 by decide), if_neg (show ¬ nI 9 = 6 by decide), if_neg (show ¬ nI 9 = 7 by decide), if_neg (show ¬ nI 9 = 8 by decide), if_pos (show nI 9 = 9 from rfl), C_lowOfLast O RC0' I, ob_some] at hc5
    obtain ⟨wr, er, Fr1, LW1⟩ := M_reckon Z I J.1
    have hMR2 : MR wr := MR_same C R V Fr1
    have Zr : ZA (wr.1 112) a := by rw [Fr1.1 112 (by omega)]; exact Z
    rw [if_neg (show ¬ nI 9 = 0 by decide), if_neg (show ¬ nI 9 = 1 by decide), if_neg (show ¬ nI 9 = 2 by decide), if_neg (show ¬ nI 9 = 3 by decide), if_neg (show ¬ nI 9 = 4 by decide), if_neg (show ¬ nI 9 = 5 by decide), if_neg (show ¬ nI 9 = 6 by decide), if_neg (show ¬ nI 9 = 7 by decide), if_neg (show ¬ nI 9 = 8 by decide), if_pos (show nI 9 = 9 from rfl), er, ob_some, M_toldMany Zr I J.1, FR_m F, ob_some] at hc6
    by_cases h0 : min m (a 558) = 0
    · refine ⟨nI 0, wr, by rw [hc5, if_pos h0], ?_, hMR2⟩
      rw [hc6, h0, if_pos (show nI 0 = 0 from rfl)]
      rfl
    · have hlast : min m (a 558) - 1 < m := by omega
      have hfl := (F.2.1 _ hlast).1
      refine ⟨nI (lowk a (f (min m (a 558) - 1))), wr, by rw [hc5, if_neg h0], ?_, hMR2⟩
      rw [hc6, if_neg (by rw [l0, nI_eq_ (by omega) (by omega)]; exact h0), ob_some, n1, nI_sub (by omega), M_frontAt Zr I J.1 LW1 F hlast, ob_some, ldI_n hfl (by omega), LW1 _ hfl, ob_some]
  · exact stay (nI (sums a 574)) (by rw [hc5, if_neg (show ¬ nI 10 = 0 by decide), if_neg (show ¬ nI 10 = 1 by decide), if_neg (show ¬ nI 10 = 2 by decide), if_neg (show ¬ nI 10 = 3 by decide), if_neg (show ¬ nI 10 = 4 by decide), if_neg (show ¬ nI 10 = 5 by decide), if_neg (show ¬ nI 10 = 6 by decide), if_neg (show ¬ nI 10 = 7 by decide), if_neg (show ¬ nI 10 = 8 by decide), if_neg (show ¬ nI 10 = 9 by decide), if_pos (show nI 10 = 10 from rfl), C_caughtSize RC0' J.1, ob_some]) (by rw [hc6, if_neg (show ¬ nI 10 = 0 by decide), if_neg (show ¬ nI 10 = 1 by decide), if_neg (show ¬ nI 10 = 2 by decide), if_neg (show ¬ nI 10 = 3 by decide), if_neg (show ¬ nI 10 = 4 by decide), if_neg (show ¬ nI 10 = 5 by decide), if_neg (show ¬ nI 10 = 6 by decide), if_neg (show ¬ nI 10 = 7 by decide), if_neg (show ¬ nI 10 = 8 by decide), if_neg (show ¬ nI 10 = 9 by decide), if_pos (show nI 10 = 10 from rfl), n574, M_sumOf Z (by omega) (by omega), ob_some])
  · obtain ⟨wr, er, Fr1⟩ := M_tnw Z I J.1
    exact ⟨nI (tnw a), wr, by rw [hc5, if_neg (show ¬ nI 11 = 0 by decide), if_neg (show ¬ nI 11 = 1 by decide), if_neg (show ¬ nI 11 = 2 by decide), if_neg (show ¬ nI 11 = 3 by decide), if_neg (show ¬ nI 11 = 4 by decide), if_neg (show ¬ nI 11 = 5 by decide), if_neg (show ¬ nI 11 = 6 by decide), if_neg (show ¬ nI 11 = 7 by decide), if_neg (show ¬ nI 11 = 8 by decide), if_neg (show ¬ nI 11 = 9 by decide), if_neg (show ¬ nI 11 = 10 by decide), if_pos (show nI 11 = 11 from rfl), C_tnw O RC0' I, ob_some], by rw [hc6, if_neg (show ¬ nI 11 = 0 by decide), if_neg (show ¬ nI 11 = 1 by decide), if_neg (show ¬ nI 11 = 2 by decide), if_neg (show ¬ nI 11 = 3 by decide), if_neg (show ¬ nI 11 = 4 by decide), if_neg (show ¬ nI 11 = 5 by decide), if_neg (show ¬ nI 11 = 6 by decide), if_neg (show ¬ nI 11 = 7 by decide), if_neg (show ¬ nI 11 = 8 by decide), if_neg (show ¬ nI 11 = 9 by decide), if_neg (show ¬ nI 11 = 10 by decide), if_pos (show nI 11 = 11 from rfl), er, ob2_some], MR_same C R V Fr1⟩
  · exact stay (nI (tls a)) (by rw [hc5, if_neg (show ¬ nI 12 = 0 by decide), if_neg (show ¬ nI 12 = 1 by decide), if_neg (show ¬ nI 12 = 2 by decide), if_neg (show ¬ nI 12 = 3 by decide), if_neg (show ¬ nI 12 = 4 by decide), if_neg (show ¬ nI 12 = 5 by decide), if_neg (show ¬ nI 12 = 6 by decide), if_neg (show ¬ nI 12 = 7 by decide), if_neg (show ¬ nI 12 = 8 by decide), if_neg (show ¬ nI 12 = 9 by decide), if_neg (show ¬ nI 12 = 10 by decide), if_neg (show ¬ nI 12 = 11 by decide), C_tls O RC0' I, ob_some]) (by rw [hc6, if_neg (show ¬ nI 12 = 0 by decide), if_neg (show ¬ nI 12 = 1 by decide), if_neg (show ¬ nI 12 = 2 by decide), if_neg (show ¬ nI 12 = 3 by decide), if_neg (show ¬ nI 12 = 4 by decide), if_neg (show ¬ nI 12 = 5 by decide), if_neg (show ¬ nI 12 = 6 by decide), if_neg (show ¬ nI 12 = 7 by decide), if_neg (show ¬ nI 12 = 8 by decide), if_neg (show ¬ nI 12 = 9 by decide), if_neg (show ¬ nI 12 = 10 by decide), if_neg (show ¬ nI 12 = 11 by decide), M_tls Z I J.1, ob_some])
end QR2
