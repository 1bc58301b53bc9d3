/-! PURE PART: add, drop -/
section KADD
variable {w w1 w2 w3 : Wd} {a a' : Nat → Nat}
theorem Rs_office (R : Rs w 1 a) (F : Fr 2 8 w w1) (O : OC w1 2 a') (h0 : a 559 = 0) (e1 : a' 559 = a 559) (e2 : a' 566 = a 566) (e3 : a' 567 = a 567) : Rs w1 1 a' := by
  refine ⟨O, ?_, ?_, ?_, fun z => by omega⟩
  · rw [F.1 _ (by omega), e1]; exact R.2.1
  · rw [F.1 _ (by omega), e2]; exact R.2.2.1
  · rw [F.1 _ (by omega), e3]; exact R.2.2.2.1
theorem C_putInT (O : OC w 2 a) (I : IO a) {l d s q pp : Nat} (hl : l < 6) (hd : d < 60) (hs1 : 1 ≤ s) (hs : s ≤ 999) (hq : q < a (480 + l)) (hqd : a (40 * l + q) = d) (T : TK a (tkA a l q) l q) (hp : pp ≤ tkA a l q (480 + l)) (ha : ∀ i, i < tkA a l q (480 + l) → (aho (tkA a l q) l d s i ↔ i < pp)) : ∃ w', fX1_putIn w 2 (nI l) (nI d) (nI s) = some (nI pp, w') ∧ Fr 2 8 w w' ∧ ∀ a', PT (tkA a l q) a' l pp d s → OC w' 2 a' := by
  have hz := (I.1 l hl).1
  obtain ⟨w1, e1, F1, k1⟩ := C_takeOut O I hl hd hq hqd
  have O1 := k1 _ T
  have I1 := TK_IO T I hl hq
  have hn : ∀ i, i < tkA a l q (480 + l) → tkA a l q (40 * l + i) ≠ d := fun i hi => by rw [← hqd]; exact TK_scr0 T I hl hq i hi
  have h40 : tkA a l q (480 + l) < 40 := by have := T.1; omega
  obtain ⟨w2, e2, F2, k2⟩ := C_ins O1 I1 hl hd hs1 hs h40 hp ha hn
  refine ⟨w2, ?_, F1.trans F2, k2⟩
  unfold fX1_putIn
  rw [e1, ob_some, at_n hl (by omega), O1.1 l hl, ob_some, e2]
theorem C_putInN (O : OC w 2 a) (I : IO a) {l d s pp : Nat} (hl : l < 6) (hd : d < 60) (hs1 : 1 ≤ s) (hs : s ≤ 999) (h0 : scr a l d = 0) (h40 : a (480 + l) < 40) (hn : ∀ i, i < a (480 + l) → a (40 * l + i) ≠ d) (hp : pp ≤ a (480 + l)) (ha : ∀ i, i < a (480 + l) → (aho a l d s i ↔ i < pp)) : ∃ w', fX1_putIn w 2 (nI l) (nI d) (nI s) = some (nI pp, w') ∧ Fr 2 8 w w' ∧ ∀ a', PT a a' l pp d s → OC w' 2 a' := by
  obtain ⟨w2, e2, F2, k2⟩ := C_ins O I hl hd hs1 hs h40 hp ha hn
  refine ⟨w2, ?_, F2, k2⟩
  unfold fX1_putIn
  rw [C_takeOut0 O hl hd h0, ob_some, at_n hl (by omega), O.1 l hl, ob_some, e2]
theorem TK_ex (I : IO a) {l q : Nat} (hl : l < 6) (hq : q < a (480 + l)) : TK a (tkA a l q) l q := by
  obtain ⟨wz, Z⟩ := Zex a
  obtain ⟨-, -, -, -, T, -, rfl⟩ := M_takeOut Z I hl hq
  exact T
theorem PT_ex (I : IO a) {l d s p : Nat} (hl : l < 6) (hd : d < 60) (hs : s ≤ 999) (hz : a (480 + l) < 40) (hp : p ≤ a (480 + l)) (ha : ∀ i, i < a (480 + l) → (aho a l d s i ↔ i < p)) : PT a (ptA a l p d s) l p d s := by
  obtain ⟨wz, Z⟩ := Zex a
  obtain ⟨-, -, -, -, T, -, rfl⟩ := M_putIn Z I hl hd hs hz hp ha
  exact T
/-- one list changed, and nothing else of the row -/
def UP (a a' : Nat → Nat) (l : Nat) : Prop := (∀ m, m < 6 → m ≠ l → a' (480 + m) = a (480 + m) ∧ ∀ e, scr a' m e = scr a m e) ∧ ∀ k, k < 706 → 486 ≤ k → a' k = a k
theorem UP_SC {l : Nat} (S : SC a a' l) (I : IO a) (hl : l < 6) : UP a a' l := ⟨fun m hm h => ⟨SC_size S hl hm h, fun e => SC_scr S I hl hm h⟩, fun k hk h => SC_far S hl hk h⟩
theorem UP_trans {b c : Nat → Nat} {l : Nat} (h : UP a b l) (h2 : UP b c l) : UP a c l := ⟨fun m hm hn => ⟨(h2.1 m hm hn).1.trans (h.1 m hm hn).1, fun e => ((h2.1 m hm hn).2 e).trans ((h.1 m hm hn).2 e)⟩, fun k hk hk2 => (h2.2 k hk hk2).trans (h.2 k hk hk2)⟩
theorem UP_GD {l : Nat} (U : UP a a' l) (I' : IO a') (h0 : a 559 = 0) : GD a' := ⟨I', fun z => by rw [U.2 559 (by omega) (by omega)] at z; omega⟩
theorem c5_add {l d : Nat} (hl : l < 6) (hd : d < 60) (z : Int32) : fX5_add LY w 0 (nI l) (nI d) z = (if z < 1 then some ((-2), w) else if z ≤ 999 then (if (bz (w.1 8 0)) = 0 then (fX1_scoreOf w 2 (nI l) (nI d)).bind fun v8 => (if v8 = 0 then (fX1_sizeOf w 2 (nI l)).bind fun v14 => (if v14 < 40 then (if v8 = z then some ((-5), w) else (fX0_record LY w 17 1).bind fun w17 => ob2 (fX1_putIn w17 2 (nI l) (nI d) z) fun v18 w19 => some (v18, w19)) else some ((-3), w)) else (if v8 = z then some ((-5), w) else (fX0_record LY w 17 1).bind fun w11 => ob2 (fX1_putIn w11 2 (nI l) (nI d) z) fun v12 w13 => some (v12, w13))) else some ((-4), w)) else some ((-2), w)) := by
  unfold fX5_add
  rw [isList_y hl, ob_some, if_neg (by decide), isDoc_y hd, ob_some, if_neg (by decide)]
theorem sco_1 {s : Nat} (h1 : 1 ≤ s) (h2 : s ≤ 999) : ¬ nI s < 1 ∧ nI s ≤ 999 := ⟨by rw [n1, nI_lt_ (by omega) (by omega)]; omega, by rw [show (999 : Int32) = nI 999 from rfl, nI_le_ (by omega) (by omega)]; exact h2⟩
theorem K_addOff (K : KW w a) (ho : a 559 = 1) {l d s : Nat} (hl : l < 6) (hd : d < 60) (hs1 : 1 ≤ s) (hs9 : s ≤ 999) : fX5_add LY w 0 (nI l) (nI d) (nI s) = some (-4, w) := by
  have h := sco_1 hs1 hs9
  rw [c5_add hl hd, if_neg h.1, if_pos h.2, if_neg ((on_0 K.1 K.2.1.1).2 (by omega)).2]
theorem K_addS (K : KW w a) (ho : a 559 = 0) {l d s : Nat} (hl : l < 6) (hd : d < 60) (hs1 : 1 ≤ s) (hs9 : s ≤ 999) (he : scr a l d = s) : fX5_add LY w 0 (nI l) (nI d) (nI s) = some (-5, w) := by
  have h := sco_1 hs1 hs9
  have hv8 : ¬ nI (scr a l d) = 0 := by rw [l0, nI_eq_ (by omega) (by omega)]; omega
  rw [c5_add hl hd, if_neg h.1, if_pos h.2, if_pos ((on_0 K.1 K.2.1.1).1 ho), C_scoreOf K.1.1 hl hd, ob_some, if_neg hv8, if_pos (by rw [he])]
theorem K_add (K : KW w a) (ho : a 559 = 0) {l d s : Nat} (hl : l < 6) (hd : d < 60) (hs1 : 1 ≤ s) (hs9 : s ≤ 999) (hne : scr a l d ≠ s) (h40 : a (480 + l) < 40) : ∃ w' a' pp, fX5_add LY w 0 (nI l) (nI d) (nI s) = some (nI pp, w') ∧ KW w' a' ∧ Fr 1 83 w w' ∧ UP a a' l ∧ a' (480 + l) = a (480 + l) + (if scr a l d = 0 then 1 else 0) ∧ (∀ e, scr a' l e = if e = d then s else scr a l e) ∧ pp < a' (480 + l) ∧ a' (40 * l + pp) = d ∧ a' (240 + 40 * l + pp) = s := by
  have h := sco_1 hs1 hs9
  have I := K.2.1.1
  have O : OC w 2 a := K.1.1
  have hb0 := (on_0 K.1 I).1 ho
  obtain ⟨w1, e1, R1, H1, F1⟩ := KREC K
  have O1 : OC w1 2 a := R1.1
  have hsl := scr_le I (l := l) (d := d) hl
  have hnn : ¬ nI (scr a l d) = nI s := by rw [nI_eq_ (by omega) (by omega)]; exact hne
  rcases pl_cases I (d := d) hl with ⟨q, hq, hqd, epl, esc⟩ | ⟨hn, epl, esc⟩
  · have hb := I.2.1 l q hl hq
    have hv8 : ¬ nI (scr a l d) = 0 := by rw [l0, nI_eq_ (by omega) (by omega)]; omega
    have T := TK_ex I hl hq
    have I1 := TK_IO T I hl hq
    obtain ⟨pp, hpp, hpa⟩ := aho_p (a := tkA a l q) I1 (d := d) (s := s) hl
    obtain ⟨w2, e2, F2, k2⟩ := C_putInT O1 I hl hd hs1 hs9 hq hqd T hpp hpa
    have h40' : tkA a l q (480 + l) < 40 := by have := T.1; omega
    have hnd : ∀ i, i < tkA a l q (480 + l) → tkA a l q (40 * l + i) ≠ d := fun i hi => by rw [← hqd]; exact TK_scr0 T I hl hq i hi
    have P := PT_ex I1 hl hd hs9 h40' hpp hpa
    have I5 := PT_IO P I1 hl hd hs1 hs9 h40' hpp hpa hnd
    have U := UP_trans (UP_SC T.2.1 I hl) (UP_SC P.2.1 I1 hl)
    have R2 := Rs_office R1 F2 (k2 _ P) ho (U.2 _ (by omega) (by omega)) (U.2 _ (by omega) (by omega)) (U.2 _ (by omega) (by omega))
    have s1 := PT_scr P I1 I5 hl hpp
    have p1 := P.2.2 pp (by have := P.1; omega)
    rw [if_neg (by omega), if_pos rfl, if_neg (by omega), if_pos rfl] at p1
    refine ⟨w2, _, pp, ?_, ⟨R2, UP_GD U I5 ho, HH_fr H1 F2 (by omega)⟩, (F1.wide (by omega) (by omega)).trans (F2.wide (by omega) (by omega)), U, ?_, fun e => ?_, by have := P.1; omega, p1.1, p1.2⟩
    · rw [c5_add hl hd, if_neg h.1, if_pos h.2, if_pos hb0, C_scoreOf O hl hd, ob_some, if_neg hv8, if_neg hnn, e1, ob_some, e2, ob2_some]
    · rw [if_neg (by omega), P.1]
      exact T.1
    · by_cases he : e = d
      · rw [if_pos he, he]; exact s1.1
      · rw [if_neg he, s1.2 e he]
        exact TK_scr T I hl hq (by rw [hqd]; exact he)
  · have hv8 : nI (scr a l d) = 0 := by rw [esc]; rfl
    obtain ⟨pp, hpp, hpa⟩ := aho_p (a := a) I (d := d) (s := s) hl
    obtain ⟨w2, e2, F2, k2⟩ := C_putInN O1 I hl hd hs1 hs9 esc h40 hn hpp hpa
    have P := PT_ex I hl hd hs9 h40 hpp hpa
    have I5 := PT_IO P I hl hd hs1 hs9 h40 hpp hpa hn
    have U := UP_SC P.2.1 I hl
    have R2 := Rs_office R1 F2 (k2 _ P) ho (U.2 _ (by omega) (by omega)) (U.2 _ (by omega) (by omega)) (U.2 _ (by omega) (by omega))
    have s1 := PT_scr P I I5 hl hpp
    have p1 := P.2.2 pp (by have := P.1; omega)
    rw [if_neg (by omega), if_pos rfl, if_neg (by omega), if_pos rfl] at p1
    refine ⟨w2, _, pp, ?_, ⟨R2, UP_GD U I5 ho, HH_fr H1 F2 (by omega)⟩, (F1.wide (by omega) (by omega)).trans (F2.wide (by omega) (by omega)), U, ?_, fun e => ?_, by have := P.1; omega, p1.1, p1.2⟩
    · rw [c5_add hl hd, if_neg h.1, if_pos h.2, if_pos hb0, C_scoreOf O hl hd, ob_some, if_pos hv8, C_sizeOf O hl, ob_some, if_pos (by rw [n40, nI_lt_ (by omega) (by omega)]; exact h40), if_neg hnn, e1, ob_some, e2, ob2_some]
    · rw [if_pos esc]; exact P.1
    · by_cases he : e = d
      · rw [if_pos he, he]; exact s1.1
      · rw [if_neg he]; exact s1.2 e he
theorem c5_drop {l d : Nat} (hl : l < 6) (hd : d < 60) : fX5_drop LY w 0 (nI l) (nI d) = ((fX1_scoreOf w 2 (nI l) (nI d)).bind fun v5 => if v5 = 0 then some ((-1), w) else if (bz (w.1 8 0)) = 0 then (fX0_record LY w 17 1).bind fun w8 => (fX1_takeOut w8 2 (nI l) (nI d)).bind fun w9 => (fX1_sizeOf w9 2 (nI l)).bind fun v10 => some (v10, w9) else some ((-4), w)) := by
  unfold fX5_drop
  rw [isList_y hl, ob_some, if_neg (by decide), isDoc_y hd, ob_some, if_neg (by decide)]
theorem K_drop0 (K : KW w a) {l d : Nat} (hl : l < 6) (hd : d < 60) (h0 : scr a l d = 0) : fX5_drop LY w 0 (nI l) (nI d) = some (-1, w) := by
  rw [c5_drop hl hd, C_scoreOf K.1.1 hl hd, ob_some, if_pos (by rw [h0]; rfl)]
theorem K_drop (K : KW w a) (ho : a 559 = 0) {l d : Nat} (hl : l < 6) (hd : d < 60) (h0 : scr a l d ≠ 0) : ∃ w' a', fX5_drop LY w 0 (nI l) (nI d) = some (nI (a' (480 + l)), w') ∧ KW w' a' ∧ Fr 1 83 w w' ∧ UP a a' l ∧ a' (480 + l) + 1 = a (480 + l) ∧ (∀ e, scr a' l e = if e = d then 0 else scr a l e) := by
  have I := K.2.1.1
  have O : OC w 2 a := K.1.1
  have hb0 := (on_0 K.1 I).1 ho
  obtain ⟨w1, e1, R1, H1, F1⟩ := KREC K
  have O1 : OC w1 2 a := R1.1
  have hsl := scr_le I (l := l) (d := d) hl
  have hv8 : ¬ nI (scr a l d) = 0 := by rw [l0, nI_eq_ (by omega) (by omega)]; exact h0
  rcases pl_cases I (d := d) hl with ⟨q, hq, hqd, epl, esc⟩ | ⟨hn, epl, esc⟩
  rotate_left
  · exact absurd esc h0
  have T := TK_ex I hl hq
  have I1 := TK_IO T I hl hq
  obtain ⟨w2, e2, F2, k2⟩ := C_takeOut O1 I hl hd hq hqd
  have U := UP_SC T.2.1 I hl
  have R2 := Rs_office R1 F2 (k2 _ T) ho (U.2 _ (by omega) (by omega)) (U.2 _ (by omega) (by omega)) (U.2 _ (by omega) (by omega))
  refine ⟨w2, _, ?_, ⟨R2, UP_GD U I1 ho, HH_fr H1 F2 (by omega)⟩, (F1.wide (by omega) (by omega)).trans (F2.wide (by omega) (by omega)), U, T.1, fun e => ?_⟩
  · rw [c5_drop hl hd, C_scoreOf O hl hd, ob_some, if_neg hv8, if_pos hb0, e1, ob_some, e2, ob_some, C_sizeOf (k2 _ T) hl, ob_some]
  · by_cases he : e = d
    · rw [if_pos he, he]
      exact scr_none (fun i hi => by rw [← hqd]; exact TK_scr0 T I hl hq i hi)
    · rw [if_neg he]
      exact TK_scr T I hl hq (by rw [hqd]; exact he)
end KADD
