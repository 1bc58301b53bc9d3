/-! PURE PART: delete, bring, weight, bribe, want, end, undo, keep, restore -/
section SETS
variable {w w1 w2 w3 : Wd} {a a' : Nat → Nat} {h : Nat} {p : Nat → Nat → Nat} {c : Nat} {ks : Nat → Nat} {n : Nat} {t : Nat → Nat}
theorem sL_1 (w : Wd) (k : Nat) (x : Int64) : (sL w k x).1 = w.1 := rfl
theorem sL_21 (w : Wd) (k : Nat) (x : Int64) (i : Nat) : (sL w k x).2.1 i = if i = k then x else w.2.1 i := rfl
/-- one number of the office changes that no list speaks of -/
theorem IO_up (I : IO a) {k v : Nat} (hk : 486 ≤ k) (hv : (k < 492 → v ≤ 9) ∧ (492 ≤ k → k < 498 → v ≤ 500) ∧ (498 ≤ k → k < 558 → v ≤ 1) ∧ (k = 558 → 1 ≤ v ∧ v ≤ 10) ∧ (k = 559 → v ≤ 1)) : IO (up a k v) := by
  refine ⟨fun l hl => ⟨?_, ?_, ?_⟩, fun l q hl hq => ?_, fun l q r hl hqr hr => ?_, fun l q r hl hqr hr => ?_, fun d hd => ?_, ?_, ?_⟩
  · rw [up_n _ _ (by omega)]; exact (I.1 l hl).1
  · by_cases h : 486 + l = k
    · rw [h, up_s]; exact hv.1 (by omega)
    · rw [up_n _ _ h]; exact (I.1 l hl).2.1
  · by_cases h : 492 + l = k
    · rw [h, up_s]; exact hv.2.1 (by omega) (by omega)
    · rw [up_n _ _ h]; exact (I.1 l hl).2.2
  · have h40 := (I.1 l hl).1
    rw [up_n _ _ (by omega)] at hq
    rw [up_n _ _ (by omega), up_n _ _ (by omega)]; exact I.2.1 l q hl hq
  · have h40 := (I.1 l hl).1
    rw [up_n _ _ (by omega)] at hr
    simp (disch := omega) only [up_n]
    exact I.2.2.1 l q r hl hqr hr
  · have h40 := (I.1 l hl).1
    rw [up_n _ _ (by omega)] at hr
    simp (disch := omega) only [up_n]
    exact I.2.2.2.1 l q r hl hqr hr
  · by_cases h : 498 + d = k
    · rw [h, up_s]; exact hv.2.2.1 (by omega) (by omega)
    · rw [up_n _ _ h]; exact I.2.2.2.2.1 d hd
  · by_cases h : 558 = k
    · rw [h, up_s]; exact hv.2.2.2.1 h.symm
    · rw [up_n _ _ h]; exact I.2.2.2.2.2.1
  · by_cases h : 559 = k
    · rw [h, up_s]; exact hv.2.2.2.2 h.symm
    · rw [up_n _ _ h]; exact I.2.2.2.2.2.2
theorem scr_up (I : IO a) {k v l d : Nat} (hk : 486 ≤ k) (hl : l < 6) : scr (up a k v) l d = scr a l d := by
  have h40 := (I.1 l hl).1
  unfold scr
  rw [up_n _ _ (by omega)]
  exact sm_cong (fun q hq => by rw [up_n _ _ (by omega), up_n _ _ (by omega)])
theorem sim_gone (x : Int32) (b : Nat) (hb : b ≤ 1) : SimT (fun w => fX5_setDeleted LY w 0 x (nI b)) (fun w => fX6_gone w 111 x (nI b)) := by
  rintro w ⟨a, h, p, c, ks, n, t, C, R, V⟩
  have hMR : MR w := ⟨a, h, p, c, ks, n, t, C, R, V⟩
  have I := V.1.1
  have Rs1 := C.1
  have O : OC w 2 a := Rs1.1
  have Z := R.1
  show ∃ v w1, fX5_setDeleted LY w 0 x (nI b) = some (v, w1) ∧ w1.1 111 = w.1 111 ∧ w1.1 117 = w.1 117 ∧ ∀ q, FT w1 q → ∃ w2, fX6_gone q 111 x (nI b) = some (v, w2) ∧ MR w2
  have stay : ∀ v, fX5_setDeleted LY w 0 x (nI b) = some (v, w) → (∀ q, ZA (q.1 112) a → fX6_gone q 111 x (nI b) = some (v, q)) → ∃ v w1, fX5_setDeleted LY w 0 x (nI b) = some (v, w1) ∧ w1.1 111 = w.1 111 ∧ w1.1 117 = w.1 117 ∧ ∀ q, FT w1 q → ∃ w2, fX6_gone q 111 x (nI b) = some (v, w2) ∧ MR w2 := fun v e1 e2 => ⟨v, w, e1, rfl, rfl, fun q hq => ⟨q, e2 q (by rw [hq.1 112 (by omega) (by omega) (by omega) (by omega)]; exact Z), MR_ft hMR hq⟩⟩
  rcases doc_cases x with ⟨d, hd, rfl⟩ | hx
  rotate_left
  · apply stay (-1)
    · unfold fX5_setDeleted
      rw [isDoc_n hx, ob_some, if_pos rfl]
    · intro w Z
      unfold fX6_gone
      rw [X6_isDoc, isDoc_n hx, ob_some, if_pos rfl]
  have hc5 : ∀ w', fX5_setDeleted LY w' 0 (nI d) (nI b) = (if (bz (w'.1 8 0)) = 0 then (fX1_isDeleted w' 2 (nI d)).bind fun v4 => (if v4 = nI b then some ((-5 : Int32), w') else (fX0_record LY w' 17 1).bind fun w6 => (pL w6 2 ((w6.2.1 2) ^^^ (1 <<< (Int32.toInt64 (nI d) &&& 63)))).bind fun w7 => (fX1_listsWith w7 2 (nI d)).bind fun v8 => (fJ6_bitCount_0f7a4 w7 v8).bind fun v9 => some (v9, w7)) else some ((-4 : Int32), w')) := by
    intro w'
    unfold fX5_setDeleted
    rw [isDoc_y hd, ob_some, if_neg (by decide)]
  have hc6 : ∀ w', fX6_gone w' 111 (nI d) (nI b) = ((ldI 706 w' 112 559).bind fun v3 => if v3 = 1 then some ((-4), w') else (ldI 706 w' 112 (498 + nI d)).bind fun v5 => if v5 = nI b then some ((-5), w') else (fX6_record w' 111).bind fun w7 => (stI 706 w7 112 (498 + nI d) (nI b)).bind fun w8 => (fX6_listsOf w8 111 (nI d)).bind fun v9 => (fX6_bits w8 v9).bind fun v10 => some (v10, w8)) := by
    intro w'
    unfold fX6_gone
    rw [X6_isDoc, isDoc_y hd, ob_some, if_neg (by decide)]
  have hon := on_0 Rs1 I
  have zon : ∀ w', ZA (w'.1 112) a → ldI 706 w' 112 559 = some (nI (a 559)) := fun w' Z' => by rw [n559]; exact zl Z' (by omega) (by omega)
  have zg : ∀ w', ZA (w'.1 112) a → ldI 706 w' 112 (498 + nI d) = some (nI (a (498 + d))) := fun w' Z' => by simp (disch := omega) only [Nat.reduceAdd, Nat.reduceMul, Nat.reduceSub, l0, n1, n2, n3, n4, n5, n6, n40, n60, n240, n480, n486, n492, n498, n558, n559, n560, n561, n562, n563, n564, n565, n566, n567, n568, n574, n580, n586, n646, nI_add, nI_mul, Nat.zero_add, Nat.add_zero, ob_some, ob2_some, nI_le_, nI_lt_, nI_eq_, zl Z']
  by_cases ho : a 559 = 0
  rotate_left
  · refine stay (-4) (by rw [hc5, if_neg (hon.2 ho).2]) (fun w Z => ?_)
    rw [hc6, zon w Z, ob_some, (hon.2 ho).1, if_pos (show nI 1 = 1 from rfl)]
  have hb0 := hon.1 ho
  have e559 : ¬ nI (a 559) = 1 := by rw [ho]; decide
  have hg := I.2.2.2.2.1 d hd
  by_cases hs : nI (a (498 + d)) = nI b
  · refine stay (-5) (by rw [hc5, if_pos hb0, C_isDeleted O I hd, ob_some, if_pos hs]) (fun w Z => ?_)
    rw [hc6, zon w Z, ob_some, if_neg e559, zg w Z, ob_some, if_pos hs]
  have hne : a (498 + d) ≠ b := fun z => hs (by rw [z])
  have hb1 : b = 1 - a (498 + d) := by omega
  obtain ⟨w1, e1, R1, H1, F1⟩ := REC_C C V
  have O1 : OC w1 2 a := R1.1
  have I' : IO (up a (498 + d) b) := IO_up I (by omega) ⟨fun _ => by omega, fun _ _ => by omega, fun _ _ => by omega, fun _ => by omega, fun _ => by omega⟩
  obtain ⟨w2, hw2⟩ : ∃ y, y = sL w1 2 (lN (gs (up a (498 + d) b) 60)) := ⟨_, rfl⟩
  have F2 : Fr 2 8 w1 w2 := by rw [hw2]; exact Fr.rfl'.sL (by omega) (by omega)
  have hx1 : (w1.2.1 2) ^^^ (1 <<< (Int32.toInt64 (nI d) &&& 63)) = lN (gs (up a (498 + d) b) 60) := by
    rw [O1.2.2.2.2.2.1, show (1 : Int64) = lN 1 from rfl, wb_shl 1 (show d < 64 by omega), Nat.one_mul, lN_xor]
    exact congrArg lN (gs_flip hd I.2.2.2.2.1 (by rw [up_s]; exact hb1) (fun e he => up_n _ _ (by omega)))
  have O2 : OC w2 2 (up a (498 + d) b) := by
    rw [hw2]
    refine ⟨fun l hl => ?_, fun l q hl hq => ?_, fun l e hl he => ?_, fun l hl => ?_, fun l hl => ?_, ?_, ?_⟩
    · rw [up_n _ _ (by omega)]; exact O1.1 l hl
    · have h40 := (I.1 l hl).1
      rw [up_n _ _ (by omega)] at hq
      rw [up_n _ _ (by omega)]; exact O1.2.1 l q hl hq
    · rw [scr_up I (by omega) hl]; exact O1.2.2.1 l e hl he
    · rw [up_n _ _ (by omega)]; exact O1.2.2.2.1 l hl
    · rw [up_n _ _ (by omega)]; exact O1.2.2.2.2.1 l hl
    · rw [sL_21, if_pos rfl]
    · rw [up_n _ _ (by omega)]; exact O1.2.2.2.2.2.2
  have hbs : bs (has (up a (498 + d) b) d) 6 < 64 := bs_lt _ 6 (by omega)
  refine ⟨nI (ppc (bs (has (up a (498 + d) b) d) 6)), w2, ?_, by rw [F2.1 111 (by omega), F1.1 111 (by omega)], by rw [F2.1 117 (by omega), F1.1 117 (by omega)], fun u hu => ?_⟩
  · rw [hc5, if_pos hb0, C_isDeleted O I hd, ob_some, if_neg hs, e1, ob_some]
    unfold pL
    rw [ob_some, hx1, ← hw2, C_listsWith O2 I' hd, ob_some, sb_pop hbs, ob_some]
  have R2 := RR_ft (RR_fr (RR_fr R F1 (by omega)) F2 (by omega)) hu
  obtain ⟨w3, e3, F3, g112, g111, H3⟩ := M_record (w := u) R2.2.1 V.2.1 R2.1
  have Z3 : ZA (w3.1 112) a := by rw [g112]; exact R2.1
  obtain ⟨w4, e4, Z4, F4⟩ := zs2 Z3 (498 + d) b (by omega) (by omega)
  have Rs2 : Rs w2 1 (up a (498 + d) b) := Rs_office R1 F2 O2 ho (up_n _ _ (by omega)) (up_n _ _ (by omega)) (up_n _ _ (by omega))
  have HC2 : HC w2 (rh h) (rp p h a) := HC_fr H1 (fun j hj => (rp_GD V.1 V.2.1 V.2.2.1 j hj).1) F2 (by omega)
  refine ⟨w4, ?_, MR_rec2 hu C R V Rs2 HC2 ((F1.wide (by omega) (by omega)).trans (F2.wide (by omega) (by omega))) F3 g111 H3 F4.fm Z4 ⟨I', fun z => by rw [up_n _ _ (by omega)] at z; omega⟩⟩
  · rw [hc6, zon u R2.1, ob_some, if_neg e559, zg u R2.1, ob_some, if_neg hs, e3, ob_some, n498, nI_add, e4, ob_some, M_listsOf Z4 I' hd, ob_some, sb_bits hbs, ob_some]
theorem sim_setOf (x y : Int32) (k j top : Nat) (hk : (k = 6 ∧ j = 486 ∧ top = 9) ∨ (k = 7 ∧ j = 492 ∧ top = 500)) : SimT (fun w => fX5_setOfList LY w 0 k 6 x y (nI top)) (fun w => fX6_setOf w 111 (nI j) x y (nI top)) := by
  rintro w ⟨a, h, p, c, ks, n, t, C, R, V⟩
  have hMR : MR w := ⟨a, h, p, c, ks, n, t, C, R, V⟩
  have I := V.1.1
  have Rs1 := C.1
  have O : OC w 2 a := Rs1.1
  have Z := R.1
  show ∃ v w1, fX5_setOfList LY w 0 k 6 x y (nI top) = some (v, w1) ∧ w1.1 111 = w.1 111 ∧ w1.1 117 = w.1 117 ∧ ∀ q, FT w1 q → ∃ w2, fX6_setOf q 111 (nI j) x y (nI top) = some (v, w2) ∧ MR w2
  have stay : ∀ v, fX5_setOfList LY w 0 k 6 x y (nI top) = some (v, w) → (∀ q, ZA (q.1 112) a → fX6_setOf q 111 (nI j) x y (nI top) = some (v, q)) → ∃ v w1, fX5_setOfList LY w 0 k 6 x y (nI top) = some (v, w1) ∧ w1.1 111 = w.1 111 ∧ w1.1 117 = w.1 117 ∧ ∀ q, FT w1 q → ∃ w2, fX6_setOf q 111 (nI j) x y (nI top) = some (v, w2) ∧ MR w2 := fun v e1 e2 => ⟨v, w, e1, rfl, rfl, fun q hq => ⟨q, e2 q (by rw [hq.1 112 (by omega) (by omega) (by omega) (by omega)]; exact Z), MR_ft hMR hq⟩⟩
  rcases list_cases x with ⟨l, hl, rfl⟩ | hx
  rotate_left
  · apply stay (-1)
    · unfold fX5_setOfList
      rw [isList_n hx, ob_some, if_pos rfl]
    · intro w Z
      unfold fX6_setOf
      rw [X6_isList, isList_n hx, ob_some, if_pos rfl]
  have hc5 : ∀ w', fX5_setOfList LY w' 0 k 6 (nI l) y (nI top) = (if y < 0 then some ((-2), w') else if y ≤ nI top then (if (bz (w'.1 8 0)) = 0 then (fX5_at w' k 6 (nI l)).bind fun v6 => (if v6 = y then some ((-5), w') else (fX0_record LY w' 17 1).bind fun w8 => (fX5_put w8 k 6 (nI l) y).bind fun w9 => some (v6, w9)) else some ((-4), w')) else some ((-2), w')) := by
    intro w'
    unfold fX5_setOfList
    rw [isList_y hl, ob_some, if_neg (by decide)]
  have hc6 : ∀ w', fX6_setOf w' 111 (nI j) (nI l) y (nI top) = (if y < 0 then some ((-2), w') else if y ≤ nI top then (ldI 706 w' 112 559).bind fun v5 => (if v5 = 1 then some ((-4), w') else (ldI 706 w' 112 (nI j + nI l)).bind fun v7 => if v7 = y then some ((-5), w') else (fX6_record w' 111).bind fun w9 => (stI 706 w9 112 (nI j + nI l) y).bind fun w10 => some (v7, w10)) else some ((-2), w')) := by
    intro w'
    unfold fX6_setOf
    rw [X6_isList, isList_y hl, ob_some, if_neg (by decide)]
  rcases num_cases y with h0 | ⟨s, hs, rfl⟩
  · exact stay (-2) (by rw [hc5, if_pos h0]) (fun _ _ => by rw [hc6, if_pos h0])
  have hn0 : ¬ nI s < 0 := nI_pos (by omega)
  by_cases h2 : nI s ≤ nI top
  rotate_left
  · exact stay (-2) (by rw [hc5, if_neg hn0, if_neg h2]) (fun _ _ => by rw [hc6, if_neg hn0, if_neg h2])
  have hst : s ≤ top := by
    rw [nI_le_ (by omega) (by omega)] at h2
    exact h2
  have hon := on_0 Rs1 I
  have zon : ∀ w', ZA (w'.1 112) a → ldI 706 w' 112 559 = some (nI (a 559)) := fun w' Z' => by rw [n559]; exact zl Z' (by omega) (by omega)
  have zg : ∀ w', ZA (w'.1 112) a → ldI 706 w' 112 (nI j + nI l) = some (nI (a (j + l))) := fun w' Z' => by rw [nI_add]; exact zl Z' (by omega) (by omega)
  by_cases ho : a 559 = 0
  rotate_left
  · refine stay (-4) (by rw [hc5, if_neg hn0, if_pos h2, if_neg (hon.2 ho).2]) (fun w Z => ?_)
    rw [hc6, if_neg hn0, if_pos h2, zon w Z, ob_some, (hon.2 ho).1, if_pos (show nI 1 = 1 from rfl)]
  have hb0 := hon.1 ho
  have e559 : ¬ nI (a 559) = 1 := by rw [ho]; decide
  have row : ∀ w' b, OC w' 2 b → ∀ m, m < 6 → w'.1 k m = nI (b (j + m)) := fun w' b O' m hm => by
    rcases hk with ⟨rfl, rfl, -⟩ | ⟨rfl, rfl, -⟩
    · exact O'.2.2.2.1 m hm
    · exact O'.2.2.2.2.1 m hm
  by_cases hsame : nI (a (j + l)) = nI s
  · refine stay (-5) (by rw [hc5, if_neg hn0, if_pos h2, if_pos hb0, at_n hl (by omega), row w a O l hl, ob_some, if_pos hsame]) (fun w Z => ?_)
    rw [hc6, if_neg hn0, if_pos h2, zon w Z, ob_some, if_neg e559, zg w Z, ob_some, if_pos hsame]
  obtain ⟨w1, e1, R1, H1, F1⟩ := REC_C C V
  have O1 : OC w1 2 a := R1.1
  have I' : IO (up a (j + l) s) := IO_up I (by omega) ⟨fun _ => by omega, fun _ _ => by omega, fun _ _ => by omega, fun _ => by omega, fun _ => by omega⟩
  obtain ⟨w2, hw2⟩ : ∃ y, y = sI w1 k l (nI s) := ⟨_, rfl⟩
  have F2 : Fr 2 8 w1 w2 := by rw [hw2]; exact Fr.rfl'.sI (by omega) (by omega)
  have cell : ∀ i, i ≠ k → w2.1 i = w1.1 i := fun i hi => by rw [hw2, sI_1, if_neg hi]
  have cellk : ∀ m, w2.1 k m = if m = l then nI s else w1.1 k m := fun m => by rw [hw2, sI_1, if_pos rfl, upd_1]
  have O2 : OC w2 2 (up a (j + l) s) := by
    refine ⟨fun m hm => ?_, fun m q hm hq => ?_, fun m e hm he => ?_, fun m hm => ?_, fun m hm => ?_, ?_, ?_⟩
    · rw [cell _ (by omega), up_n _ _ (by omega)]; exact O1.1 m hm
    · have h40 := (I.1 m hm).1
      rw [up_n _ _ (by omega)] at hq
      rw [cell _ (by omega), up_n _ _ (by omega)]; exact O1.2.1 m q hm hq
    · rw [cell _ (by omega), scr_up I (by omega) hm]; exact O1.2.2.1 m e hm he
    · by_cases h6 : k = 6
      · rw [show 2 + 4 = k by omega, cellk]
        by_cases hml : m = l
        · rw [if_pos hml, show 486 + m = j + l by omega, up_s]
        · rw [if_neg hml, up_n _ _ (by omega), row w1 a O1 m hm, show j = 486 by omega]
      · rw [cell _ (by omega), up_n _ _ (by omega)]; exact O1.2.2.2.1 m hm
    · by_cases h7 : k = 7
      · rw [show 2 + 5 = k by omega, cellk]
        by_cases hml : m = l
        · rw [if_pos hml, show 492 + m = j + l by omega, up_s]
        · rw [if_neg hml, up_n _ _ (by omega), row w1 a O1 m hm, show j = 492 by omega]
      · rw [cell _ (by omega), up_n _ _ (by omega)]; exact O1.2.2.2.2.1 m hm
    · have : w2.2.1 2 = w1.2.1 2 := by rw [hw2]; rfl
      rw [this, O1.2.2.2.2.2.1]
      refine congrArg lN ?_
      unfold gs
      exact sm_cong (fun e he => by rw [up_n _ _ (by omega)])
    · rw [cell _ (by omega), up_n _ _ (by omega)]; exact O1.2.2.2.2.2.2
  refine ⟨nI (a (j + l)), w2, ?_, by rw [F2.1 111 (by omega), F1.1 111 (by omega)], by rw [F2.1 117 (by omega), F1.1 117 (by omega)], fun u hu => ?_⟩
  · rw [hc5, if_neg hn0, if_pos h2, if_pos hb0, at_n hl (by omega), row w a O l hl, ob_some, if_neg hsame, e1, ob_some, put_n hl (by omega), ob_some, ← hw2]
  have R2 := RR_ft (RR_fr (RR_fr R F1 (by omega)) F2 (by omega)) hu
  obtain ⟨w3, e3, F3, g112, g111, H3⟩ := M_record (w := u) R2.2.1 V.2.1 R2.1
  have Z3 : ZA (w3.1 112) a := by rw [g112]; exact R2.1
  obtain ⟨w4, e4, Z4, F4⟩ := zs2 Z3 (j + l) s (by omega) (by omega)
  have Rs2 : Rs w2 1 (up a (j + l) s) := Rs_office R1 F2 O2 ho (up_n _ _ (by omega)) (up_n _ _ (by omega)) (up_n _ _ (by omega))
  have HC2 : HC w2 (rh h) (rp p h a) := HC_fr H1 (fun j hj => (rp_GD V.1 V.2.1 V.2.2.1 j hj).1) F2 (by omega)
  refine ⟨w4, ?_, MR_rec2 hu C R V Rs2 HC2 ((F1.wide (by omega) (by omega)).trans (F2.wide (by omega) (by omega))) F3 g111 H3 F4.fm Z4 ⟨I', fun z => by rw [up_n _ _ (by omega)] at z; omega⟩⟩
  · rw [hc6, if_neg hn0, if_pos h2, zon u R2.1, ob_some, if_neg e559, zg u R2.1, ob_some, if_neg hsame, e3, ob_some, nI_add, e4, ob_some]
theorem sim_want (x : Int32) : SimT (fun w => fX5_want LY w 0 x) (fun w => fX6_want w 111 x) := by
  rintro w ⟨a, h, p, c, ks, n, t, C, R, V⟩
  have hMR : MR w := ⟨a, h, p, c, ks, n, t, C, R, V⟩
  have I := V.1.1
  have Rs1 := C.1
  have O : OC w 2 a := Rs1.1
  have Z := R.1
  show ∃ v w1, fX5_want LY w 0 x = some (v, w1) ∧ w1.1 111 = w.1 111 ∧ w1.1 117 = w.1 117 ∧ ∀ q, FT w1 q → ∃ w2, fX6_want q 111 x = some (v, w2) ∧ MR w2
  have stay : ∀ v, fX5_want LY w 0 x = some (v, w) → (∀ q, ZA (q.1 112) a → fX6_want q 111 x = some (v, q)) → ∃ v w1, fX5_want LY w 0 x = some (v, w1) ∧ w1.1 111 = w.1 111 ∧ w1.1 117 = w.1 117 ∧ ∀ q, FT w1 q → ∃ w2, fX6_want q 111 x = some (v, w2) ∧ MR w2 := fun v e1 e2 => ⟨v, w, e1, rfl, rfl, fun q hq => ⟨q, e2 q (by rw [hq.1 112 (by omega) (by omega) (by omega) (by omega)]; exact Z), MR_ft hMR hq⟩⟩
  have hc5 : ∀ w', fX5_want LY w' 0 x = (if x < 1 then some ((-2), w') else if x ≤ 10 then (if (bz (w'.1 8 0)) = 0 then (if (w'.1 2 6) = x then some ((-5), w') else (fX0_record LY w' 17 1).bind fun w5 => (pI w5 2 6 x).bind fun w6 => some (w'.1 2 6, w6)) else some ((-4), w')) else some ((-2), w')) := fun w' => rfl
  have hc6 : ∀ w', fX6_want w' 111 x = (if x < 1 then some ((-2), w') else if x ≤ 10 then (ldI 706 w' 112 559).bind fun v3 => (if v3 = 1 then some ((-4), w') else (ldI 706 w' 112 558).bind fun v5 => if v5 = x then some ((-5), w') else (fX6_record w' 111).bind fun w7 => (stI 706 w7 112 558 x).bind fun w8 => some (v5, w8)) else some ((-2), w')) := fun w' => rfl
  by_cases h1 : x < 1
  · exact stay (-2) (by rw [hc5, if_pos h1]) (fun _ _ => by rw [hc6, if_pos h1])
  rcases num_cases x with h0 | ⟨s, hs, rfl⟩
  · exact absurd (neg_lt1 h0) h1
  by_cases h2 : nI s ≤ 10
  rotate_left
  · exact stay (-2) (by rw [hc5, if_neg h1, if_neg h2]) (fun _ _ => by rw [hc6, if_neg h1, if_neg h2])
  have hs1 : 1 ≤ s := by
    rw [n1, nI_lt_ (by omega) (by omega)] at h1
    omega
  have hs9 : s ≤ 10 := by
    rw [show (10 : Int32) = nI 10 from rfl, nI_le_ (by omega) (by omega)] at h2
    exact h2
  have hon := on_0 Rs1 I
  have zon : ∀ w', ZA (w'.1 112) a → ldI 706 w' 112 559 = some (nI (a 559)) := fun w' Z' => by rw [n559]; exact zl Z' (by omega) (by omega)
  have zw : ∀ w', ZA (w'.1 112) a → ldI 706 w' 112 558 = some (nI (a 558)) := fun w' Z' => by rw [n558]; exact zl Z' (by omega) (by omega)
  by_cases ho : a 559 = 0
  rotate_left
  · refine stay (-4) (by rw [hc5, if_neg h1, if_pos h2, if_neg (hon.2 ho).2]) (fun w Z => ?_)
    rw [hc6, if_neg h1, if_pos h2, zon w Z, ob_some, (hon.2 ho).1, if_pos (show nI 1 = 1 from rfl)]
  have hb0 := hon.1 ho
  have e559 : ¬ nI (a 559) = 1 := by rw [ho]; decide
  have o6 : w.1 2 6 = nI (a 558) := O.2.2.2.2.2.2
  by_cases hsame : nI (a 558) = nI s
  · refine stay (-5) (by rw [hc5, if_neg h1, if_pos h2, if_pos hb0, o6, if_pos hsame]) (fun w Z => ?_)
    rw [hc6, if_neg h1, if_pos h2, zon w Z, ob_some, if_neg e559, zw w Z, ob_some, if_pos hsame]
  obtain ⟨w1, e1, R1, H1, F1⟩ := REC_C C V
  have O1 : OC w1 2 a := R1.1
  have I' : IO (up a 558 s) := IO_up I (by omega) ⟨fun _ => by omega, fun _ _ => by omega, fun _ _ => by omega, fun _ => by omega, fun _ => by omega⟩
  obtain ⟨w2, hw2⟩ : ∃ y, y = sI w1 2 6 (nI s) := ⟨_, rfl⟩
  have F2 : Fr 2 8 w1 w2 := by rw [hw2]; exact Fr.rfl'.sI (by omega) (by omega)
  have cell : ∀ i, i ≠ 2 → w2.1 i = w1.1 i := fun i hi => by rw [hw2, sI_1, if_neg hi]
  have O2 : OC w2 2 (up a 558 s) := by
    refine ⟨fun m hm => ?_, fun m q hm hq => ?_, fun m e hm he => ?_, fun m hm => ?_, fun m hm => ?_, ?_, ?_⟩
    · rw [cell _ (by omega), up_n _ _ (by omega)]; exact O1.1 m hm
    · have h40 := (I.1 m hm).1
      rw [up_n _ _ (by omega)] at hq
      rw [cell _ (by omega), up_n _ _ (by omega)]; exact O1.2.1 m q hm hq
    · rw [cell _ (by omega), scr_up I (by omega) hm]; exact O1.2.2.1 m e hm he
    · rw [cell _ (by omega), up_n _ _ (by omega)]; exact O1.2.2.2.1 m hm
    · rw [cell _ (by omega), up_n _ _ (by omega)]; exact O1.2.2.2.2.1 m hm
    · have : w2.2.1 2 = w1.2.1 2 := by rw [hw2]; rfl
      rw [this, O1.2.2.2.2.2.1]
      refine congrArg lN ?_
      unfold gs
      exact sm_cong (fun e he => by rw [up_n _ _ (by omega)])
    · rw [hw2, sI_1, if_pos rfl, upd_1, if_pos rfl, up_s]
  refine ⟨nI (a 558), w2, ?_, by rw [F2.1 111 (by omega), F1.1 111 (by omega)], by rw [F2.1 117 (by omega), F1.1 117 (by omega)], fun u hu => ?_⟩
  · rw [hc5, if_neg h1, if_pos h2, if_pos hb0, o6, if_neg hsame, e1, ob_some]
    unfold pI
    rw [ob_some, ← hw2]
  have R2 := RR_ft (RR_fr (RR_fr R F1 (by omega)) F2 (by omega)) hu
  obtain ⟨w3, e3, F3, g112, g111, H3⟩ := M_record (w := u) R2.2.1 V.2.1 R2.1
  have Z3 : ZA (w3.1 112) a := by rw [g112]; exact R2.1
  obtain ⟨w4, e4, Z4, F4⟩ := zs2 Z3 558 s (by omega) (by omega)
  have Rs2 : Rs w2 1 (up a 558 s) := Rs_office R1 F2 O2 ho (up_n _ _ (by omega)) (up_n _ _ (by omega)) (up_n _ _ (by omega))
  have HC2 : HC w2 (rh h) (rp p h a) := HC_fr H1 (fun j hj => (rp_GD V.1 V.2.1 V.2.2.1 j hj).1) F2 (by omega)
  refine ⟨w4, ?_, MR_rec2 hu C R V Rs2 HC2 ((F1.wide (by omega) (by omega)).trans (F2.wide (by omega) (by omega))) F3 g111 H3 F4.fm Z4 ⟨I', fun z => by rw [up_n _ _ (by omega)] at z; omega⟩⟩
  · rw [hc6, if_neg h1, if_pos h2, zon u R2.1, ob_some, if_neg e559, zw u R2.1, ob_some, if_neg hsame, e3, ob_some, n558, e4, ob_some]
theorem sim_end : Sim (fun w => fX5_end LY w 0) (fun w => fX6_end w 111) := by
  rintro w ⟨a, h, p, c, ks, n, t, C, R, V⟩
  have hMR : MR w := ⟨a, h, p, c, ks, n, t, C, R, V⟩
  have I := V.1.1
  have Rs1 := C.1
  have Z := R.1
  show ∃ v w1 w2, fX5_end LY w 0 = some (v, w1) ∧ fX6_end w1 111 = some (v, w2) ∧ MR w2
  have hc5 : ∀ w', fX5_end LY w' 0 = (if (bz (w'.1 8 0)) = 0 then some ((-4), w') else (fX0_record LY w' 17 1).bind fun w2 => (stZ w2 8 0 0).bind fun w3 => (fX2_toldSize w3 8 2).bind fun v4 => some (v4, w3)) := fun w' => rfl
  have hc6 : ∀ w', fX6_end w' 111 = ((ldI 706 w' 112 559).bind fun v1 => if v1 = 0 then some ((-4), w') else (fX6_record w' 111).bind fun w3 => (fX6_toldMany w3 111).bind fun v4 => (stI 706 w3 112 559 0).bind fun w5 => some (v4, w5)) := fun w' => rfl
  have hon := on_0 Rs1 I
  have zon : ∀ w', ZA (w'.1 112) a → ldI 706 w' 112 559 = some (nI (a 559)) := fun w' Z' => by rw [n559]; exact zl Z' (by omega) (by omega)
  by_cases ho : a 559 = 0
  · refine ⟨-4, w, w, by rw [hc5, if_pos (hon.1 ho)], ?_, hMR⟩
    rw [hc6, zon w Z, ob_some, ho, if_pos (show nI 0 = 0 from rfl)]
  have ho1 := (hon.2 ho).1
  have hb0 := (hon.2 ho).2
  have J := V.1.2 ho1
  obtain ⟨w1, e1, R1, H1, F1⟩ := REC_C C V
  obtain ⟨f, m, RC1⟩ := R1.2.2.2.2 ho1
  have RC1' : RC w1 8 a f m := RC1
  have O1 : OC w1 2 a := R1.1
  have hm := FR_m RC1'.2.2.2.2.2.2.2.2.2.2.2.2.2.2.2
  obtain ⟨w2, hw2⟩ : ∃ y, y = sI w1 8 0 0 := ⟨_, rfl⟩
  have F2 : Fr 8 9 w1 w2 := by rw [hw2]; exact Fr.rfl'.sI (by omega) (by omega)
  have I' : IO (up a 559 0) := IO_up I (by omega) ⟨fun _ => by omega, fun _ _ => by omega, fun _ _ => by omega, fun _ => by omega, fun _ => by omega⟩
  have O2 : OC w2 2 a := OC_fr O1 I F2 (by omega)
  have O2' : OC w2 2 (up a 559 0) := OC_ag (fun k hk => up_n _ _ (by omega)) I O2
  have R2 := RR_fr (RR_fr R F1 (by omega)) F2 (by omega)
  obtain ⟨w3, e3, F3, g112, g111, H3⟩ := M_record (w := w2) R2.2.1 V.2.1 R2.1
  have Z3 : ZA (w3.1 112) a := by rw [g112]; exact R2.1
  obtain ⟨w4, e4, Z4, F4⟩ := zs2 Z3 559 0 (by omega) (by omega)
  have Rs2 : Rs w2 1 (up a 559 0) := by
    refine ⟨O2', ?_, ?_, ?_, fun z => by rw [up_s] at z; omega⟩
    · rw [show 1 + 7 = 8 from rfl, hw2, sI_1, if_pos rfl, upd_1, if_pos rfl, up_s]; rfl
    · rw [F2.1 1 (by omega), up_n _ _ (by omega)]; exact R1.2.2.1
    · rw [F2.1 1 (by omega), up_n _ _ (by omega)]; exact R1.2.2.2.1
  have HC2 : HC w2 (rh h) (rp p h a) := by
    refine ⟨by rw [F2.1 17 (by omega)]; exact H1.1, H1.2.1, ?_, fun j hj => ?_⟩
    · show (∀ i, i < 4 → ∃ t, t < 4 ∧ w2.2.2 18 i = 19 + 16 * t) ∧ (∀ i j, i < 4 → j < 4 → i ≠ j → w2.2.2 18 i ≠ w2.2.2 18 j)
      rw [F2.2.2 18 (by omega)]
      exact H1.2.2.1
    · rw [F2.2.2 18 (by omega)]
      obtain ⟨t', ht', x'⟩ := H1.2.2.1.1 j (by have := H1.2.1; omega)
      exact Rs_fr (H1.2.2.2 j hj) (rp_GD V.1 V.2.1 V.2.2.1 j hj).1 F2 (by omega)
  refine ⟨nI (min m (a 558)), w2, w4, ?_, ?_, MR_rec C R V Rs2 HC2 ((F1.wide (by omega) (by omega)).trans (F2.wide (by omega) (by omega))) F3 g111 H3 F4.fm Z4 ⟨I', fun z => by rw [up_s] at z; omega⟩⟩
  · have e5 : fX2_toldSize w2 8 2 = some (nI (min m (a 558))) := by
      have h1 := RC1'.2.2.2.2.2.2.2.2.2.2.2.2.2.2.2.1
      have h2 := I.2.2.2.2.2.1
      unfold fX2_toldSize
      rw [O2.2.2.2.2.2.2, show w2.1 8 15 = nI m by rw [hw2, sI_1, if_pos rfl, upd_1, if_neg (by omega)]; exact RC1'.2.2.2.2.2.2.1, imin_n (by omega) (by omega)]
    rw [hc5, if_neg hb0, e1, ob_some, show stZ w1 8 0 0 = some (sI w1 8 0 0) from by unfold stZ; rw [if_pos (Or.inl rfl)], ob_some, ← hw2, e5, ob_some]
  · rw [hc6, zon w2 R2.1, ob_some, ho1, if_neg (show ¬ nI 1 = 0 by decide), e3, ob_some, M_toldMany Z3 I J.1, ob_some, hm, n559, l0, e4, ob_some]
theorem sim_undo : Sim (fun w => fX5_undo LY w 0) (fun w => fX6_undo w 111) := by
  rintro w ⟨a, h, p, c, ks, n, t, C, R, V⟩
  have hMR : MR w := ⟨a, h, p, c, ks, n, t, C, R, V⟩
  show ∃ v w1 w2, fX5_undo LY w 0 = some (v, w1) ∧ fX6_undo w1 111 = some (v, w2) ∧ MR w2
  have hc5 : ∀ w', fX5_undo LY w' 0 = (if (w'.1 17 1) = 0 then some ((-5), w') else (fX0_takeLatest LY w' 17 1).bind fun w2 => some (w2.1 17 1, w2)) := fun w' => rfl
  by_cases h0 : h = 0
  · refine ⟨-5, w, w, ?_, ?_, hMR⟩
    · rw [hc5, C.2.1.1, h0, if_pos (show nI 0 = 0 from rfl)]
    · unfold fX6_undo
      rw [R.2.1.1, h0, if_pos (show nI 0 = 0 from rfl)]
  have h4 := V.2.1
  obtain ⟨w1, e1, H1, R1, F1⟩ := C_take C.2.1 (fun j hj => (V.2.2.1 j hj).1) (by omega)
  have R2 := RR_fr R F1 (by omega)
  obtain ⟨w2, e2, F2, g111, H2, Z2⟩ := M_undo R2.2.1 (by omega) h4
  refine ⟨nI (h - 1), w1, w2, ?_, e2, MR_upd C R V R1 H1 (F1.wide (by omega) (by omega)) Z2 H2 (F2.wide (by omega) (by omega)) (F2.1 114 (by omega)) g111 (V.2.2.1 (h - 1) (by omega)) (by omega) (fun j hj => V.2.2.1 j (by omega))⟩
  rw [hc5, C.2.1.1, if_neg (by rw [l0, nI_eq_ (by omega) (by omega)]; exact h0), e1, ob_some, H1.1]
theorem sim_keep : Sim (fun w => fX5_keep w 0) (fun w => fX6_keep w 111) := by
  rintro w ⟨a, h, p, c, ks, n, t, C, R, V⟩
  have I := V.1.1
  show ∃ v w1 w2, fX5_keep w 0 = some (v, w1) ∧ fX6_keep w1 111 = some (v, w2) ∧ MR w2
  have hc5 : ∀ w', fX5_keep w' 0 = ((fX3_copyFrom w' 83 1).bind fun w1 => (stZ w1 0 3 1).bind fun w2 => (fX1_entries w2 2).bind fun v3 => some (v3, w2)) := fun w' => rfl
  obtain ⟨c1, c2, c3, c4, c5, c6⟩ := C
  obtain ⟨w1, e1, F1, k1⟩ := C_copyS (w := w) (s := 83) (t := 1) (by omega)
  have K1 := k1 a I c1
  obtain ⟨w2, hw2⟩ : ∃ y, y = sI w1 0 3 1 := ⟨_, rfl⟩
  have F2 : Fr 0 1 w1 w2 := by rw [hw2]; exact Fr.rfl'.sI (by omega) (by omega)
  have A2 : Rs w2 1 a := Rs_fr (Rs_fr c1 I F1 (by omega)) I F2 (by omega)
  have R2 := RR_fr (RR_fr R F1 (by omega)) F2 (by omega)
  obtain ⟨w3, e3, F3, g112, g113, g111, Z114⟩ := M_keep R2.1
  have hHC : HC w3 h p := by
    have hp := fun j hj => (V.2.2.1 j hj).1
    have HA : HC w1 h p := HC_fr c2 hp F1 (by omega)
    have HB : HC w2 h p := by
      refine ⟨by rw [F2.1 17 (by omega)]; exact HA.1, HA.2.1, ?_, fun j hj => ?_⟩
      · show (∀ i, i < 4 → ∃ t, t < 4 ∧ w2.2.2 18 i = 19 + 16 * t) ∧ (∀ i j, i < 4 → j < 4 → i ≠ j → w2.2.2 18 i ≠ w2.2.2 18 j)
        rw [F2.2.2 18 (by omega)]
        exact HA.2.2.1
      · rw [F2.2.2 18 (by omega)]
        obtain ⟨t', ht', x'⟩ := HA.2.2.1.1 j (by have := HA.2.1; omega)
        exact Rs_fr (HA.2.2.2 j hj) (hp j hj) F2 (by omega)
    exact HC_fr HB hp F3 (by omega)
  obtain ⟨r1, r2, r3, r4, r5, r6⟩ := R2
  refine ⟨nI (ent a), w2, w3, ?_, e3, a, h, p, 1, a, n, t, ⟨Rs_fr A2 I F3 (by omega), hHC, ?_, fun _ => Rs_fr (Rs_fr K1 I F2 (by omega)) I F3 (by omega), ?_, fun i hi => ?_⟩, ⟨by rw [g112]; exact r1, ⟨by rw [g111, if_neg (by omega)]; exact r2.1, fun j hj => by rw [g113]; exact r2.2 j hj⟩, ?_, fun _ => Z114, ?_, fun i hi => ?_⟩, V.1, V.2.1, V.2.2.1, by omega, fun _ => V.1, V.2.2.2.2.2⟩
  · rw [hc5, e1, ob_some, show stZ w1 0 3 1 = some (sI w1 0 3 1) from by unfold stZ; rw [if_pos (Or.inr rfl)], ob_some, ← hw2, C_entries A2.1, ob_some]
  · rw [F3.1 0 (by omega), hw2, sI_1, if_pos rfl, upd_1, if_pos rfl]; rfl
  · rw [F3.1 99 (by omega), F2.1 99 (by omega), F1.1 99 (by omega)]; exact c5
  · rw [F3.1 100 (by omega), F2.1 100 (by omega), F1.1 100 (by omega)]; exact c6 i hi
  · rw [g111, if_pos rfl]; rfl
  · rw [g111, if_neg (by omega)]; exact r5
  · rw [F3.1 117 (by omega)]; exact r6 i hi
theorem sim_restore : Sim (fun w => fX5_restore LY w 0) (fun w => fX6_restore w 111) := by
  rintro w ⟨a, h, p, c, ks, n, t, C, R, V⟩
  have hMR : MR w := ⟨a, h, p, c, ks, n, t, C, R, V⟩
  show ∃ v w1 w2, fX5_restore LY w 0 = some (v, w1) ∧ fX6_restore w1 111 = some (v, w2) ∧ MR w2
  have hc5 : ∀ w', fX5_restore LY w' 0 = (if (bz (w'.1 0 3)) = 0 then some ((-5), w') else (fX0_record LY w' 17 1).bind fun w2 => (fX3_copyFrom w2 1 83).bind fun w3 => (fX1_entries w3 2).bind fun v4 => some (v4, w3)) := fun w' => rfl
  have hc6 : ∀ w', fX6_restore w' 111 = (if (bz (w'.1 111 6)) = 0 then some ((-5), w') else (fX6_record w' 111).bind fun w2 => lX6_restore_16 111 4096 w2 0) := fun w' => rfl
  have hc1 := V.2.2.2.1
  by_cases hc : c = 0
  · refine ⟨-5, w, w, ?_, ?_, hMR⟩
    · rw [hc5, C.2.2.1, hc, if_pos (show nI 0 = 0 from rfl)]
    · rw [hc6, R.2.2.1, hc, if_pos (show nI 0 = 0 from rfl)]
  have hc1' : c = 1 := by omega
  have hn0 : ¬ nI c = 0 := by rw [hc1']; decide
  have Gk := V.2.2.2.2.1 hc1'
  obtain ⟨w1, e1, R1, H1, F1⟩ := REC_C C V
  have K1 : Rs w1 83 ks := Rs_fr (C.2.2.2.1 hc1') Gk.1 F1 (by omega)
  obtain ⟨w2, e2, F2, k2⟩ := C_copyS (w := w1) (s := 1) (t := 83) (by omega)
  have K2 := k2 ks Gk.1 K1
  have R2 := RR_fr (RR_fr R F1 (by omega)) F2 (by omega)
  obtain ⟨w3, e3, F3, g112, g111, H3⟩ := M_record (w := w2) R2.2.1 V.2.1 R2.1
  have Z114 : ZA (w3.1 114) ks := by rw [F3.1 114 (by omega)]; exact R2.2.2.2.1 hc1'
  obtain ⟨w4, e4, F4, Z4⟩ := M_rest16 Z114
  have HC2 : HC w2 (rh h) (rp p h a) := HC_fr H1 (fun j hj => (rp_GD V.1 V.2.1 V.2.2.1 j hj).1) F2 (by omega)
  refine ⟨nI (ent ks), w2, w4, ?_, ?_, MR_rec C R V K2 HC2 ((F1.wide (by omega) (by omega)).trans (F2.wide (by omega) (by omega))) F3 g111 H3 F4.fm Z4 Gk⟩
  · rw [hc5, C.2.2.1, if_neg hn0, e1, ob_some, e2, ob_some, C_entries K2.1, ob_some]
  · rw [hc6, R2.2.2.1, if_neg hn0, e3, ob_some, e4]
end SETS
