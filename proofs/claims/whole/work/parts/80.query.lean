/-! PURE PART: what is told -/
section QRY
variable {w w1 w2 w3 : Wd} {a a' : Nat → Nat} {h : Nat} {p : Nat → Nat → Nat} {c : Nat} {ks : Nat → Nat} {n : Nat} {t : Nat → Nat}
theorem what_cases (x : Int32) (k : Nat) (hk : k < 2147483647) : (∃ q, q ≤ k ∧ x = nI q) ∨ (x < 0) ∨ (¬ x < 0 ∧ ¬ x ≤ nI k ∧ ∀ q, q ≤ k → x ≠ nI q) := by
  rcases num_cases x with h0 | ⟨s, hs, rfl⟩
  · exact Or.inr (Or.inl h0)
  · by_cases h : s ≤ k
    · exact Or.inl ⟨s, h, rfl⟩
    · exact Or.inr (Or.inr ⟨nI_pos (by omega), by rw [nI_le_ (by omega) (by omega)]; omega, fun q hq => by
        intro z
        rw [nI_eq_ (by omega) (by omega)] at z
        omega⟩)
theorem neg_ne {x : Int32} (h : x < 0) (q : Nat) (hq : q < 2147483648) : ¬ x = nI q := fun z => nI_pos (n := q) (by omega) (by rw [← z]; exact h)
theorem neg_nle {x : Int32} (h : x < 0) : ¬ 0 ≤ x := by
  rw [Int32.lt_iff_toInt_lt] at h
  rw [Int32.le_iff_toInt_le]
  omega
theorem sim_list (x y : Int32) : SimQ (fun w => fX5_list w 0 x y) (fun w => fX6_list w 111 x y) := by
  rintro w ⟨a, h, p, c, ks, n, t, C, R, V⟩
  have I := V.1.1
  have O : OC w 2 a := C.1.1
  have Z := R.1
  show ∃ v, fX5_list w 0 x y = some v ∧ fX6_list w 111 x y = some v
  rcases list_cases x with ⟨l, hl, rfl⟩ | hx
  rotate_left
  · refine ⟨-1, ?_, ?_⟩
    · unfold fX5_list
      rw [isList_n hx, ob_some, if_pos rfl]
    · unfold fX6_list
      rw [X6_isList, isList_n hx, ob_some, if_pos rfl]
  have hc5 : fX5_list w 0 (nI l) y = (if y = 0 then (fX1_sizeOf w 2 (nI l)).bind fun v4 => some v4 else if y = 1 then (fX1_weightOf w 2 (nI l)).bind fun v6 => some v6 else if y = 2 then (fX5_at w 7 6 (nI l)).bind fun v8 => some v8 else if y = 3 then (fX1_scoreAt w 2 (nI l) 0).bind fun v10 => some v10 else if y = 4 then (fX1_deletedIn w 2 (nI l)).bind fun v12 => some v12 else some (-2)) := by
    unfold fX5_list
    rw [isList_y hl, ob_some, if_neg (by decide)]
  have hc6 : fX6_list w 111 (nI l) y = (if y < 0 then some (-2) else if y ≤ 4 then (if 3 ≤ y then (if y = 3 then (ldI 706 w 112 (480 + nI l)).bind fun v11 => (if v11 = 0 then some 0 else (ldI 706 w 112 (240 + (40 * nI l))).bind fun v13 => some v13) else lX6_list_99 111 4096 w (nI l) 0 0) else if y = 0 then (ldI 706 w 112 (480 + nI l)).bind fun v18 => some v18 else if y = 1 then (ldI 706 w 112 (486 + nI l)).bind fun v17 => some v17 else (ldI 706 w 112 (492 + nI l)).bind fun v16 => some v16) else some (-2)) := by
    unfold fX6_list
    rw [X6_isList, isList_y hl, ob_some, if_neg (by decide)]
  have hz := (I.1 l hl).1
  rw [hc5, hc6]
  rcases what_cases y 4 (by omega) with ⟨q, hq, rfl⟩ | hy | ⟨hy, hy2, hy3⟩
  · obtain rfl | rfl | rfl | rfl | rfl : q = 0 ∨ q = 1 ∨ q = 2 ∨ q = 3 ∨ q = 4 := by omega
    · refine ⟨nI (a (480 + l)), ?_, ?_⟩
      · rw [if_pos (show nI 0 = 0 from rfl), C_sizeOf O hl, ob_some]
      · rw [if_neg (by decide), if_pos (by decide), if_neg (by decide), if_pos (show nI 0 = 0 from rfl), n480, nI_add, zl Z (by omega) (by omega), ob_some]
    · refine ⟨nI (a (486 + l)), ?_, ?_⟩
      · rw [if_neg (show ¬ nI 1 = 0 by decide), if_pos (show nI 1 = 1 from rfl), C_weightOf O hl, ob_some]
      · rw [if_neg (by decide), if_pos (by decide), if_neg (by decide), if_neg (show ¬ nI 1 = 0 by decide), if_pos (show nI 1 = 1 from rfl), n486, nI_add, zl Z (by omega) (by omega), ob_some]
    · refine ⟨nI (a (492 + l)), ?_, ?_⟩
      · rw [if_neg (show ¬ nI 2 = 0 by decide), if_neg (show ¬ nI 2 = 1 by decide), if_pos (show nI 2 = 2 from rfl), at_n hl (by omega), O.2.2.2.2.1 l hl, ob_some]
      · rw [if_neg (by decide), if_pos (by decide), if_neg (by decide), if_neg (show ¬ nI 2 = 0 by decide), if_neg (show ¬ nI 2 = 1 by decide), n492, nI_add, zl Z (by omega) (by omega), ob_some]
    · refine ⟨nI (if 0 < a (480 + l) then a (240 + 40 * l + 0) else 0), ?_, ?_⟩
      · rw [if_neg (show ¬ nI 3 = 0 by decide), if_neg (show ¬ nI 3 = 1 by decide), if_neg (show ¬ nI 3 = 2 by decide), if_pos (show nI 3 = 3 from rfl), l0, C_scoreAt O I hl (by omega), ob_some]
      · rw [if_neg (by decide), if_pos (by decide), if_pos (by decide), if_pos (show nI 3 = 3 from rfl), n480, nI_add, zl Z (by omega) (by omega), ob_some]
        by_cases h0 : a (480 + l) = 0
        · rw [if_pos (by rw [h0]; rfl), if_neg (by omega)]; rfl
        · rw [if_neg (by rw [l0, nI_eq_ (by omega) (by omega)]; exact h0), if_pos (by omega), n240, n40, nI_mul, nI_add, zl Z (by omega) (by omega), ob_some]
          rfl
    · refine ⟨nI (din a l), ?_, ?_⟩
      · rw [if_neg (show ¬ nI 4 = 0 by decide), if_neg (show ¬ nI 4 = 1 by decide), if_neg (show ¬ nI 4 = 2 by decide), if_neg (show ¬ nI 4 = 3 by decide), if_pos (show nI 4 = 4 from rfl), C_deletedIn O I hl, ob_some]
      · rw [if_neg (by decide), if_pos (by decide), if_pos (by decide), if_neg (show ¬ nI 4 = 3 by decide), M_list_99 Z I hl]
  · refine ⟨-2, ?_, by rw [if_pos hy]⟩
    rw [if_neg (show ¬ y = 0 from neg_ne hy 0 (by omega)), if_neg (show ¬ y = 1 from neg_ne hy 1 (by omega)), if_neg (show ¬ y = 2 from neg_ne hy 2 (by omega)), if_neg (show ¬ y = 3 from neg_ne hy 3 (by omega)), if_neg (show ¬ y = 4 from neg_ne hy 4 (by omega))]
  · refine ⟨-2, ?_, by rw [if_neg hy, if_neg (show ¬ y ≤ 4 from hy2)]⟩
    rw [if_neg (show ¬ y = 0 from hy3 0 (by omega)), if_neg (show ¬ y = 1 from hy3 1 (by omega)), if_neg (show ¬ y = 2 from hy3 2 (by omega)), if_neg (show ¬ y = 3 from hy3 3 (by omega)), if_neg (show ¬ y = 4 from hy3 4 (by omega))]
theorem sim_entry (x y z : Int32) : SimQ (fun w => fX5_entry w 0 x y z) (fun w => fX6_entry w 111 x y z) := by
  rintro w ⟨a, h, p, c, ks, n, t, C, R, V⟩
  have I := V.1.1
  have O : OC w 2 a := C.1.1
  have Z := R.1
  show ∃ v, fX5_entry w 0 x y z = some v ∧ fX6_entry w 111 x y z = some v
  rcases list_cases x with ⟨l, hl, rfl⟩ | hx
  rotate_left
  · refine ⟨-1, ?_, ?_⟩
    · unfold fX5_entry
      rw [isList_n hx, ob_some, if_pos rfl]
    · unfold fX6_entry
      rw [X6_isList, isList_n hx, ob_some, if_pos rfl]
  have hc5 : fX5_entry w 0 (nI l) y z = (if y < 0 then some (-2) else if z < 0 then some (-2) else if z ≤ 1 then (fX1_sizeOf w 2 (nI l)).bind fun v6 => (if y < v6 then (if z = 0 then (fX1_documentAt w 2 (nI l) y).bind fun v10 => some v10 else (fX1_scoreAt w 2 (nI l) y).bind fun v9 => some v9) else some (-5)) else some (-2)) := by
    unfold fX5_entry
    rw [isList_y hl, ob_some, if_neg (by decide)]
  have hc6 : fX6_entry w 111 (nI l) y z = (if y < 0 then some (-2) else if z < 0 then some (-2) else if z ≤ 1 then (ldI 706 w 112 (480 + nI l)).bind fun v6 => (if y < v6 then (if z = 0 then (ldI 706 w 112 ((0 + (40 * nI l)) + y)).bind fun v10 => some v10 else (ldI 706 w 112 ((240 + (40 * nI l)) + y)).bind fun v9 => some v9) else some (-5)) else some (-2)) := by
    unfold fX6_entry
    rw [X6_isList, isList_y hl, ob_some, if_neg (by decide)]
  have hz := (I.1 l hl).1
  rw [hc5, hc6]
  by_cases hy : y < 0
  · exact ⟨-2, by rw [if_pos hy], by rw [if_pos hy]⟩
  by_cases hz0 : z < 0
  · exact ⟨-2, by rw [if_neg hy, if_pos hz0], by rw [if_neg hy, if_pos hz0]⟩
  by_cases hz1 : z ≤ 1
  rotate_left
  · exact ⟨-2, by rw [if_neg hy, if_neg hz0, if_neg hz1], by rw [if_neg hy, if_neg hz0, if_neg hz1]⟩
  rcases num_cases y with h0 | ⟨q, hq, rfl⟩
  · exact absurd h0 hy
  rw [if_neg hy, if_neg hz0, if_pos hz1, if_neg hy, if_neg hz0, if_pos hz1, C_sizeOf O hl, ob_some, n480, nI_add, zl Z (by omega) (by omega), ob_some]
  by_cases hlt : q < a (480 + l)
  · have e : nI q < nI (a (480 + l)) := by rw [nI_lt_ (by omega) (by omega)]; exact hlt
    rw [if_pos e, if_pos e]
    by_cases hz2 : z = 0
    · refine ⟨nI (a (40 * l + q)), by rw [if_pos hz2, C_documentAt O I hl hlt, ob_some], ?_⟩
      rw [if_pos hz2]
      simp (disch := omega) only [Nat.reduceAdd, Nat.reduceMul, Nat.reduceSub, l0, n1, n2, n3, n4, n5, n6, n40, n60, n240, n480, n486, n492, n498, n558, n559, n560, n561, n562, n563, n564, n565, n566, n567, n568, n574, n580, n586, n646, nI_add, nI_mul, Nat.zero_add, Nat.add_zero, ob_some, ob2_some, nI_le_, nI_lt_, nI_eq_, zl Z]
    · refine ⟨nI (a (240 + 40 * l + q)), by rw [if_neg hz2, C_scoreAt O I hl (by omega), if_pos hlt, ob_some], ?_⟩
      rw [if_neg hz2]
      simp (disch := omega) only [Nat.reduceAdd, Nat.reduceMul, Nat.reduceSub, l0, n1, n2, n3, n4, n5, n6, n40, n60, n240, n480, n486, n492, n498, n558, n559, n560, n561, n562, n563, n564, n565, n566, n567, n568, n574, n580, n586, n646, nI_add, nI_mul, Nat.zero_add, Nat.add_zero, ob_some, ob2_some, nI_le_, nI_lt_, nI_eq_, zl Z]
  · have e : ¬ nI q < nI (a (480 + l)) := by rw [nI_lt_ (by omega) (by omega)]; exact hlt
    exact ⟨-5, by rw [if_neg e], by rw [if_neg e]⟩
theorem sim_document (x y : Int32) : SimQ (fun w => fX5_document w 0 x y) (fun w => fX6_document w 111 x y) := by
  rintro w ⟨a, h, p, c, ks, n, t, C, R, V⟩
  have I := V.1.1
  have O : OC w 2 a := C.1.1
  have Z := R.1
  show ∃ v, fX5_document w 0 x y = some v ∧ fX6_document w 111 x y = some v
  rcases doc_cases x with ⟨d, hd, rfl⟩ | hx
  rotate_left
  · refine ⟨-1, ?_, ?_⟩
    · unfold fX5_document
      rw [isDoc_n hx, ob_some, if_pos rfl]
    · unfold fX6_document
      rw [X6_isDoc, isDoc_n hx, ob_some, if_pos rfl]
  have hc5 : fX5_document w 0 (nI d) y = (if y = 0 then (fX1_isDeleted w 2 (nI d)).bind fun v4 => (fX5_oneIf w v4).bind fun v5 => some v5 else if y = 1 then (fX1_valueOf w 2 (nI d)).bind fun v7 => some v7 else if y = 2 then (fX1_listsWith w 2 (nI d)).bind fun v9 => some v9 else if y = 3 then (fX1_wantedPlaceOf w 2 (nI d)).bind fun v11 => some v11 else some (-2)) := by
    unfold fX5_document
    rw [isDoc_y hd, ob_some, if_neg (by decide)]
  have hc6 : fX6_document w 111 (nI d) y = (if y < 0 then some (-2) else if y ≤ 3 then (if y = 0 then (ldI 706 w 112 (498 + nI d)).bind fun v12 => some v12 else if y = 1 then (fX6_value w 111 (nI d)).bind fun v11 => some v11 else if y = 2 then (fX6_listsOf w 111 (nI d)).bind fun v10 => some v10 else (fX6_wantedPlace w 111 (nI d)).bind fun v8 => if 0 ≤ v8 then some v8 else some (-5)) else some (-2)) := by
    unfold fX6_document
    rw [X6_isDoc, isDoc_y hd, ob_some, if_neg (by decide)]
  have hg := I.2.2.2.2.1 d hd
  have hw := wct_le a d 60
  rw [hc5, hc6]
  rcases what_cases y 3 (by omega) with ⟨q, hq, rfl⟩ | hy | ⟨hy, hy2, hy3⟩
  · obtain rfl | rfl | rfl | rfl : q = 0 ∨ q = 1 ∨ q = 2 ∨ q = 3 := by omega
    · refine ⟨nI (a (498 + d)), ?_, ?_⟩
      · rw [if_pos (show nI 0 = 0 from rfl), C_isDeleted O I hd, ob_some]
        obtain h0 | h0 : a (498 + d) = 0 ∨ a (498 + d) = 1 := by omega
        · rw [h0]; rfl
        · rw [h0]; rfl
      · rw [if_neg (by decide), if_pos (by decide), if_pos (show nI 0 = 0 from rfl), n498, nI_add, zl Z (by omega) (by omega), ob_some]
    · refine ⟨nI (val a d), ?_, ?_⟩
      · rw [if_neg (show ¬ nI 1 = 0 by decide), if_pos (show nI 1 = 1 from rfl), C_valueOf O I hd, ob_some]
      · rw [if_neg (by decide), if_pos (by decide), if_neg (show ¬ nI 1 = 0 by decide), if_pos (show nI 1 = 1 from rfl), M_value Z I hd, ob_some]
    · refine ⟨nI (bs (has a d) 6), ?_, ?_⟩
      · rw [if_neg (show ¬ nI 2 = 0 by decide), if_neg (show ¬ nI 2 = 1 by decide), if_pos (show nI 2 = 2 from rfl), C_listsWith O I hd, ob_some]
      · rw [if_neg (by decide), if_pos (by decide), if_neg (show ¬ nI 2 = 0 by decide), if_neg (show ¬ nI 2 = 1 by decide), if_pos (show nI 2 = 2 from rfl), M_listsOf Z I hd, ob_some]
    · rw [if_neg (show ¬ nI 3 = 0 by decide), if_neg (show ¬ nI 3 = 1 by decide), if_neg (show ¬ nI 3 = 2 by decide), if_pos (show nI 3 = 3 from rfl), if_neg (by decide), if_pos (by decide), if_neg (show ¬ nI 3 = 0 by decide), if_neg (show ¬ nI 3 = 1 by decide), if_neg (show ¬ nI 3 = 2 by decide)]
      by_cases hm : may a d
      · by_cases hl : wct a d 60 < a 558
        · exact ⟨nI (wct a d 60), by rw [(C_wantedPlaceOf O I hd).1 hm hl, ob_some], by rw [(M_wantedPlace Z I hd).1 hm hl, ob_some, if_pos (by rw [l0, nI_le_ (by omega) (by omega)]; omega)]⟩
        · exact ⟨-5, by rw [(C_wantedPlaceOf O I hd).2.1 hm hl, ob_some], by rw [(M_wantedPlace Z I hd).2.1 hm hl, ob_some, if_neg (by decide)]⟩
      · exact ⟨-5, by rw [(C_wantedPlaceOf O I hd).2.2 hm, ob_some], by rw [(M_wantedPlace Z I hd).2.2 hm, ob_some, if_neg (by decide)]⟩
  · refine ⟨-2, ?_, by rw [if_pos hy]⟩
    rw [if_neg (show ¬ y = 0 from neg_ne hy 0 (by omega)), if_neg (show ¬ y = 1 from neg_ne hy 1 (by omega)), if_neg (show ¬ y = 2 from neg_ne hy 2 (by omega)), if_neg (show ¬ y = 3 from neg_ne hy 3 (by omega))]
  · refine ⟨-2, ?_, by rw [if_neg hy, if_neg (show ¬ y ≤ 3 from hy2)]⟩
    rw [if_neg (show ¬ y = 0 from hy3 0 (by omega)), if_neg (show ¬ y = 1 from hy3 1 (by omega)), if_neg (show ¬ y = 2 from hy3 2 (by omega)), if_neg (show ¬ y = 3 from hy3 3 (by omega))]
theorem sim_wanted (x : Int32) : SimQ (fun w => fX5_wanted w 0 x) (fun w => fX6_wanted w 111 x) := by
  rintro w ⟨a, h, p, c, ks, n, t, C, R, V⟩
  have I := V.1.1
  have O : OC w 2 a := C.1.1
  have Z := R.1
  show ∃ v, fX5_wanted w 0 x = some v ∧ fX6_wanted w 111 x = some v
  have hc5 : ∀ y, fX5_wanted w 0 y = (if 0 ≤ y then (fX1_wantedAt w 2 y).bind fun v2 => some v2 else some (-2)) := fun y => rfl
  rcases num_cases x with h0 | ⟨q, hq, rfl⟩
  · refine ⟨-2, by rw [hc5, if_neg (neg_nle h0)], ?_⟩
    unfold fX6_wanted
    rw [if_neg (neg_nle h0)]
  have e : (0 : Int32) ≤ nI q := by rw [l0, nI_le_ (by omega) (by omega)]; omega
  rw [hc5, if_pos e]
  by_cases hw : ∃ d, d < 60 ∧ wat a q d
  · obtain ⟨d, hd, hw⟩ := hw
    exact ⟨nI d, by rw [(C_wantedAt O I hq).1 d hd hw, ob_some], (M_wanted Z I hq).1 d hd hw⟩
  · have hn : ∀ d, d < 60 → ¬ wat a q d := fun d hd z => hw ⟨d, hd, z⟩
    exact ⟨-5, by rw [(C_wantedAt O I hq).2 hn, ob_some], (M_wanted Z I hq).2 hn⟩
theorem sim_count (x : Int32) : SimQ (fun w => fX5_count w 0 x) (fun w => fX6_count w 111 x) := by
  rintro w ⟨a, h, p, c, ks, n, t, C, R, V⟩
  have I := V.1.1
  have O : OC w 2 a := C.1.1
  have Z := R.1
  show ∃ v, fX5_count w 0 x = some v ∧ fX6_count w 111 x = some v
  have hc5 : fX5_count w 0 x = (if x = 0 then (fX1_entries w 2).bind fun v2 => some v2 else if x = 1 then (fX1_questionSize w 2).bind fun v4 => some v4 else if x = 2 then some (w.1 2 6) else if x = 3 then (fJ13_bitCount_95d88 w (w.2.1 2)).bind fun v7 => some v7 else if x = 4 then (fX1_wantedSize w 2).bind fun v9 => some v9 else if x = 5 then (fX5_oneIf w (bz (w.1 8 0))).bind fun v11 => some v11 else if x = 6 then some (w.1 1 2) else if x = 7 then some (w.1 1 3) else if x = 8 then some (w.1 17 1) else if x = 9 then some (w.1 99 1) else some (-2)) := rfl
  have hc6 : fX6_count w 111 x = (if x < 0 then some (-2) else if x ≤ 9 then (if x = 0 then (fX6_entries w 111).bind fun v4 => some v4 else if x = 1 then (fX6_asked w 111).bind fun v6 => some v6 else if x = 2 then (ldI 706 w 112 558).bind fun v8 => some v8 else if x = 3 then lX6_count_87 111 4096 w 0 0 else if x = 4 then (fX6_wantedMany w 111).bind fun v13 => some v13 else if x = 5 then (ldI 706 w 112 559).bind fun v15 => some v15 else if x = 6 then (ldI 706 w 112 566).bind fun v17 => some v17 else if x = 7 then (ldI 706 w 112 567).bind fun v19 => some v19 else if x = 8 then some (w.1 111 5) else some (w.1 111 8)) else some (-2)) := rfl
  rw [hc5, hc6]
  have h559 := I.2.2.2.2.2.2
  rcases what_cases x 9 (by omega) with ⟨q, hq, rfl⟩ | hy | ⟨hy, hy2, hy3⟩
  · have g1 : ¬ nI q < 0 := nI_pos (by omega)
    have g2 : nI q ≤ 9 := by rw [show (9 : Int32) = nI 9 from rfl, nI_le_ (by omega) (by omega)]; exact hq
    rw [if_neg g1, if_pos g2]
    obtain rfl | rfl | rfl | rfl | rfl | rfl | rfl | rfl | rfl | rfl : q = 0 ∨ q = 1 ∨ q = 2 ∨ q = 3 ∨ q = 4 ∨ q = 5 ∨ q = 6 ∨ q = 7 ∨ q = 8 ∨ q = 9 := by omega
    · exact ⟨nI (ent a), by rw [if_pos (show nI 0 = 0 from rfl), C_entries O, ob_some], by rw [if_pos (show nI 0 = 0 from rfl), M_entries Z, ob_some]⟩
    · exact ⟨nI (qs a), by rw [if_neg (show ¬ nI 1 = 0 by decide), if_pos (show nI 1 = 1 from rfl), C_questionSize O I, ob_some], by rw [if_neg (show ¬ nI 1 = 0 by decide), if_pos (show nI 1 = 1 from rfl), M_asked Z I, ob_some]⟩
    · exact ⟨nI (a 558), by rw [if_neg (show ¬ nI 2 = 0 by decide), if_neg (show ¬ nI 2 = 1 by decide), if_pos (show nI 2 = 2 from rfl), O.2.2.2.2.2.2], by rw [if_neg (show ¬ nI 2 = 0 by decide), if_neg (show ¬ nI 2 = 1 by decide), if_pos (show nI 2 = 2 from rfl), n558, zl Z (by omega) (by omega), ob_some]⟩
    · exact ⟨nI (gct a), by rw [if_neg (show ¬ nI 3 = 0 by decide), if_neg (show ¬ nI 3 = 1 by decide), if_neg (show ¬ nI 3 = 2 by decide), if_pos (show nI 3 = 3 from rfl), C_gct O I, ob_some], by rw [if_neg (show ¬ nI 3 = 0 by decide), if_neg (show ¬ nI 3 = 1 by decide), if_neg (show ¬ nI 3 = 2 by decide), if_pos (show nI 3 = 3 from rfl), M_count_87 Z]⟩
    · exact ⟨nI (min (wmany a) (a 558)), by rw [if_neg (show ¬ nI 4 = 0 by decide), if_neg (show ¬ nI 4 = 1 by decide), if_neg (show ¬ nI 4 = 2 by decide), if_neg (show ¬ nI 4 = 3 by decide), if_pos (show nI 4 = 4 from rfl), C_wantedSize O I, ob_some], by rw [if_neg (show ¬ nI 4 = 0 by decide), if_neg (show ¬ nI 4 = 1 by decide), if_neg (show ¬ nI 4 = 2 by decide), if_neg (show ¬ nI 4 = 3 by decide), if_pos (show nI 4 = 4 from rfl), M_wantedMany Z I, ob_some]⟩
    · refine ⟨nI (a 559), ?_, by rw [if_neg (show ¬ nI 5 = 0 by decide), if_neg (show ¬ nI 5 = 1 by decide), if_neg (show ¬ nI 5 = 2 by decide), if_neg (show ¬ nI 5 = 3 by decide), if_neg (show ¬ nI 5 = 4 by decide), if_pos (show nI 5 = 5 from rfl), n559, zl Z (by omega) (by omega), ob_some]⟩
      have e8 : bz (w.1 8 0) = nI (a 559) := C.1.2.1
      rw [if_neg (show ¬ nI 5 = 0 by decide), if_neg (show ¬ nI 5 = 1 by decide), if_neg (show ¬ nI 5 = 2 by decide), if_neg (show ¬ nI 5 = 3 by decide), if_neg (show ¬ nI 5 = 4 by decide), if_pos (show nI 5 = 5 from rfl), e8]
      obtain h0 | h0 : a 559 = 0 ∨ a 559 = 1 := by omega
      · rw [h0]; rfl
      · rw [h0]; rfl
    · exact ⟨nI (a 566), by rw [if_neg (show ¬ nI 6 = 0 by decide), if_neg (show ¬ nI 6 = 1 by decide), if_neg (show ¬ nI 6 = 2 by decide), if_neg (show ¬ nI 6 = 3 by decide), if_neg (show ¬ nI 6 = 4 by decide), if_neg (show ¬ nI 6 = 5 by decide), if_pos (show nI 6 = 6 from rfl), C.1.2.2.1], by rw [if_neg (show ¬ nI 6 = 0 by decide), if_neg (show ¬ nI 6 = 1 by decide), if_neg (show ¬ nI 6 = 2 by decide), if_neg (show ¬ nI 6 = 3 by decide), if_neg (show ¬ nI 6 = 4 by decide), if_neg (show ¬ nI 6 = 5 by decide), if_pos (show nI 6 = 6 from rfl), n566, zl Z (by omega) (by omega), ob_some]⟩
    · exact ⟨nI (a 567), by rw [if_neg (show ¬ nI 7 = 0 by decide), if_neg (show ¬ nI 7 = 1 by decide), if_neg (show ¬ nI 7 = 2 by decide), if_neg (show ¬ nI 7 = 3 by decide), if_neg (show ¬ nI 7 = 4 by decide), if_neg (show ¬ nI 7 = 5 by decide), if_neg (show ¬ nI 7 = 6 by decide), if_pos (show nI 7 = 7 from rfl), C.1.2.2.2.1], by rw [if_neg (show ¬ nI 7 = 0 by decide), if_neg (show ¬ nI 7 = 1 by decide), if_neg (show ¬ nI 7 = 2 by decide), if_neg (show ¬ nI 7 = 3 by decide), if_neg (show ¬ nI 7 = 4 by decide), if_neg (show ¬ nI 7 = 5 by decide), if_neg (show ¬ nI 7 = 6 by decide), if_pos (show nI 7 = 7 from rfl), n567, zl Z (by omega) (by omega), ob_some]⟩
    · exact ⟨nI h, by rw [if_neg (show ¬ nI 8 = 0 by decide), if_neg (show ¬ nI 8 = 1 by decide), if_neg (show ¬ nI 8 = 2 by decide), if_neg (show ¬ nI 8 = 3 by decide), if_neg (show ¬ nI 8 = 4 by decide), if_neg (show ¬ nI 8 = 5 by decide), if_neg (show ¬ nI 8 = 6 by decide), if_neg (show ¬ nI 8 = 7 by decide), if_pos (show nI 8 = 8 from rfl), C.2.1.1], by rw [if_neg (show ¬ nI 8 = 0 by decide), if_neg (show ¬ nI 8 = 1 by decide), if_neg (show ¬ nI 8 = 2 by decide), if_neg (show ¬ nI 8 = 3 by decide), if_neg (show ¬ nI 8 = 4 by decide), if_neg (show ¬ nI 8 = 5 by decide), if_neg (show ¬ nI 8 = 6 by decide), if_neg (show ¬ nI 8 = 7 by decide), if_pos (show nI 8 = 8 from rfl), R.2.1.1]⟩
    · exact ⟨nI n, by rw [if_neg (show ¬ nI 9 = 0 by decide), if_neg (show ¬ nI 9 = 1 by decide), if_neg (show ¬ nI 9 = 2 by decide), if_neg (show ¬ nI 9 = 3 by decide), if_neg (show ¬ nI 9 = 4 by decide), if_neg (show ¬ nI 9 = 5 by decide), if_neg (show ¬ nI 9 = 6 by decide), if_neg (show ¬ nI 9 = 7 by decide), if_neg (show ¬ nI 9 = 8 by decide), if_pos (show nI 9 = 9 from rfl), C.2.2.2.2.1], by rw [if_neg (show ¬ nI 9 = 0 by decide), if_neg (show ¬ nI 9 = 1 by decide), if_neg (show ¬ nI 9 = 2 by decide), if_neg (show ¬ nI 9 = 3 by decide), if_neg (show ¬ nI 9 = 4 by decide), if_neg (show ¬ nI 9 = 5 by decide), if_neg (show ¬ nI 9 = 6 by decide), if_neg (show ¬ nI 9 = 7 by decide), if_neg (show ¬ nI 9 = 8 by decide), R.2.2.2.2.1]⟩
  · refine ⟨-2, ?_, by rw [if_pos hy]⟩
    rw [if_neg (show ¬ x = 0 from neg_ne hy 0 (by omega)), if_neg (show ¬ x = 1 from neg_ne hy 1 (by omega)), if_neg (show ¬ x = 2 from neg_ne hy 2 (by omega)), if_neg (show ¬ x = 3 from neg_ne hy 3 (by omega)), if_neg (show ¬ x = 4 from neg_ne hy 4 (by omega)), if_neg (show ¬ x = 5 from neg_ne hy 5 (by omega)), if_neg (show ¬ x = 6 from neg_ne hy 6 (by omega)), if_neg (show ¬ x = 7 from neg_ne hy 7 (by omega)), if_neg (show ¬ x = 8 from neg_ne hy 8 (by omega)), if_neg (show ¬ x = 9 from neg_ne hy 9 (by omega))]
  · refine ⟨-2, ?_, by rw [if_neg hy, if_neg (show ¬ x ≤ 9 from hy2)]⟩
    rw [if_neg (show ¬ x = 0 from hy3 0 (by omega)), if_neg (show ¬ x = 1 from hy3 1 (by omega)), if_neg (show ¬ x = 2 from hy3 2 (by omega)), if_neg (show ¬ x = 3 from hy3 3 (by omega)), if_neg (show ¬ x = 4 from hy3 4 (by omega)), if_neg (show ¬ x = 5 from hy3 5 (by omega)), if_neg (show ¬ x = 6 from hy3 6 (by omega)), if_neg (show ¬ x = 7 from hy3 7 (by omega)), if_neg (show ¬ x = 8 from hy3 8 (by omega)), if_neg (show ¬ x = 9 from hy3 9 (by omega))]
end QRY
