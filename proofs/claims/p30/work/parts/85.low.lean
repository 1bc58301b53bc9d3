/-! PURE PART: the law's small methods: cells, remainders, bits, places, the order of a list -/
section LOW
variable {w w1 w2 : Wd} {a a' : Nat → Nat}
theorem and31 {n : Nat} (hn : n < 2 ^ 32) : nI n &&& 2147483647 = nI (n % 2147483648) := by
  apply Int32.toBitVec_inj.mp
  apply BitVec.eq_of_toNat_eq
  rw [Int32.toBitVec_and, BitVec.toNat_and]
  have e1 : (nI n).toBitVec.toNat = n := by
    show (BitVec.ofNat 32 n).toNat = n
    rw [BitVec.toNat_ofNat, Nat.mod_eq_of_lt hn]
  have e2 : (2147483647 : Int32).toBitVec.toNat = 2 ^ 31 - 1 := by decide
  have e3 : (nI (n % 2147483648)).toBitVec.toNat = n % 2147483648 := by
    show (BitVec.ofNat 32 _).toNat = _
    rw [BitVec.toNat_ofNat, Nat.mod_eq_of_lt (by omega)]
  rw [e1, e2, e3, Nat.and_two_pow_sub_one_eq_mod]
theorem low_ex (g : Int32) {n : Nat} (h1 : 1 ≤ n) (hn : n < 2147483648) : ∃ r, r < n ∧ ∀ w, fL_low w g (nI n) = some (nI r) := by
  obtain ⟨k, hk, rfl⟩ := wb_of32 g
  refine ⟨(k % 2147483648) % n, Nat.mod_lt _ (by omega), fun w => ?_⟩
  unfold fL_low
  rw [if_neg (by rw [l0, nI_eq_ (by omega) (by omega)]; omega), and31 hk, nI_mod (by omega) (by omega) (by omega)]
theorem cell_ex {L : Nat} (xs : Nat → Int32) (hL : L ≤ 260) {k : Nat} (hk : k < 2147483648) : ∃ v, ∀ w, fL_cell w L xs (nI k) = some v := by
  by_cases h : L ≤ k
  · refine ⟨(32452867 * nI k) + 86028121, fun w => ?_⟩
    unfold fL_cell
    rw [if_pos (by rw [nI_le_ (by omega) (by omega)]; exact h)]
  · refine ⟨xs k, fun w => ?_⟩
    unfold fL_cell
    have h0 : ¬ (nI k < 0 ∨ L ≤ (nI k).toNatClampNeg) := by
      rintro (h1 | h1)
      · exact nI_pos (by omega) h1
      · rw [nI_clamp (by omega)] at h1
        omega
    rw [if_neg (by rw [nI_le_ (by omega) (by omega)]; exact h), ldX, if_neg h0, nI_clamp (by omega), ob_some]
theorem bits_ok {x : Nat} (h : x < 64) : fL_bits w (nI x) = some (nI (ppc x)) := by
  refine loopN (fun n i => lL_bits_4 n w (nI x) (nI (sm (fun l => if x.testBit l then 1 else 0) i)) (nI i)) 6 _ (fun n i hi => ?_) (fun n => ?_) 4096 (by omega)
  · show lL_bits_4 (n + 1) w (nI x) _ (nI i) = _
    rw [lL_bits_4, sb_tst x h i hi]
    simp (disch := omega) only [n1, n6, nI_add, nI_le_]
    rw [if_neg (by omega), sm]
  · show lL_bits_4 (n + 1) w (nI x) _ (nI 6) = _
    rw [lL_bits_4]
    simp (disch := omega) only [n6, nI_le_]
    rw [if_pos (by omega), ppc]
theorem K_placeY (K : KW w a) {l q d : Nat} (hl : l < 6) (hq : q < a (480 + l)) (hd : a (40 * l + q) = d) : fL_placeOf w 0 (nI l) (nI d) = some (nI q) := by
  have I := K.2.1.1
  have hz := (I.1 l hl).1
  have hb := I.2.1 l q hl hq
  unfold fL_placeOf
  rw [K_list0 K hl, ob_some]
  refine loopN (fun n i => lL_placeOf_10 0 n w (nI l) (nI d) (nI (a (480 + l))) (nI i)) q _ (fun n i hi => ?_) (fun n => ?_) 4096 (by omega)
  · show lL_placeOf_10 0 (n + 1) w (nI l) (nI d) _ (nI i) = _
    have hbi := I.2.1 l i hl (by omega)
    have hne := I.2.2.2.1 l i q hl hi hq
    rw [lL_placeOf_10, if_neg (by rw [nI_le_ (by omega) (by omega)]; omega), K_ent0 K hl (by omega), ob_some, if_neg (by rw [nI_eq_ (by omega) (by omega)]; omega), n1, nI_add]
  · show lL_placeOf_10 0 (n + 1) w (nI l) (nI d) _ (nI q) = _
    rw [lL_placeOf_10, if_neg (by rw [nI_le_ (by omega) (by omega)]; omega), K_ent0 K hl hq, ob_some, if_pos (by rw [hd])]
theorem K_placeN (K : KW w a) {l d : Nat} (hl : l < 6) (hd : d < 60) (hn : ∀ p, p < a (480 + l) → a (40 * l + p) ≠ d) : fL_placeOf w 0 (nI l) (nI d) = some (-1) := by
  have I := K.2.1.1
  have hz := (I.1 l hl).1
  unfold fL_placeOf
  rw [K_list0 K hl, ob_some]
  refine loopN (fun n i => lL_placeOf_10 0 n w (nI l) (nI d) (nI (a (480 + l))) (nI i)) (a (480 + l)) _ (fun n i hi => ?_) (fun n => ?_) 4096 (by omega)
  · show lL_placeOf_10 0 (n + 1) w (nI l) (nI d) _ (nI i) = _
    have hbi := I.2.1 l i hl hi
    rw [lL_placeOf_10, if_neg (by rw [nI_le_ (by omega) (by omega)]; omega), K_ent0 K hl hi, ob_some, if_neg (by rw [nI_eq_ (by omega) (by omega)]; exact hn i hi), n1, nI_add]
  · show lL_placeOf_10 0 (n + 1) w (nI l) (nI d) _ (nI (a (480 + l))) = _
    rw [lL_placeOf_10, if_pos (by rw [nI_le_ (by omega) (by omega)]; omega)]
/-- the place by the score -/
theorem K_place (K : KW w a) {l d : Nat} (hl : l < 6) (hd : d < 60) : (scr a l d = 0 → fL_placeOf w 0 (nI l) (nI d) = some (-1)) ∧ (scr a l d ≠ 0 → ∃ q, q < a (480 + l) ∧ a (40 * l + q) = d ∧ a (240 + 40 * l + q) = scr a l d ∧ fL_placeOf w 0 (nI l) (nI d) = some (nI q)) := by
  have I := K.2.1.1
  rcases pl_cases I (d := d) hl with ⟨q, hq, hqd, -, e⟩ | ⟨hn, -, e⟩
  · have hb := I.2.1 l q hl hq
    exact ⟨fun z => by omega, fun _ => ⟨q, hq, hqd, e.symm, K_placeY K hl hq hqd⟩⟩
  · exact ⟨fun _ => K_placeN K hl hd hn, fun z => absurd e z⟩
theorem K_inOrder (K : KW w a) {l : Nat} (hl : l < 6) : fL_isInOrder w 0 (nI l) = some 1 := by
  have I := K.2.1.1
  have hz := (I.1 l hl).1
  have loop : lL_isInOrder_52 0 4096 w (nI l) (nI (a (480 + l))) 1 1 = some 1 := by
    by_cases h1 : a (480 + l) ≤ 1
    · show lL_isInOrder_52 0 (4095 + 1) w (nI l) (nI (a (480 + l))) 1 1 = some 1
      rw [lL_isInOrder_52, if_pos (by rw [n1, nI_le_ (by omega) (by omega)]; exact h1)]
      exact rtZ_1
    · refine loopM (fun n i => lL_isInOrder_52 0 n w (nI l) (nI (a (480 + l))) 1 (nI i)) 1 (a (480 + l)) (by omega) _ (fun n i hi hi2 => ?_) (fun n => ?_) 4096 (by omega)
      · show lL_isInOrder_52 0 (n + 1) w (nI l) _ 1 (nI i) = _
        have b1 := I.2.1 l (i - 1) hl (by omega)
        have b2 := I.2.1 l i hl hi2
        have o := I.2.2.1 l (i - 1) i hl (by omega) hi2
        rw [lL_isInOrder_52, if_neg (by rw [nI_le_ (by omega) (by omega)]; omega), if_neg (by decide), n1, nI_sub (by omega)]
        rw [show fX5_entry w 0 (nI l) (nI (i - 1)) (nI 1) = some (nI (a (240 + 40 * l + (i - 1)))) from K_ent1 K hl (by omega), ob_some, show fX5_entry w 0 (nI l) (nI i) (nI 1) = some (nI (a (240 + 40 * l + i))) from K_ent1 K hl hi2, ob_some, nI_sub (by omega)]
        by_cases hlt : a (240 + 40 * l + i) < a (240 + 40 * l + (i - 1))
        · rw [if_pos (by rw [l0, nI_lt_ (by omega) (by omega)]; omega)]
          unfold bL_isInOrder_114
          rw [n1, nI_add]
        · rw [if_neg (by rw [l0, nI_lt_ (by omega) (by omega)]; omega), if_pos (by rw [l0, nI_eq_ (by omega) (by omega)]; omega), K_ent0 K hl (by omega), ob_some, K_ent0 K hl hi2, ob_some, if_neg (by rw [nI_le_ (by omega) (by omega)]; omega)]
          unfold bL_isInOrder_114
          rw [n1, nI_add]
      · show lL_isInOrder_52 0 (n + 1) w (nI l) _ 1 (nI (a (480 + l))) = _
        rw [lL_isInOrder_52, if_pos (by rw [nI_le_ (by omega) (by omega)]; omega)]
        exact rtZ_1
  unfold fL_isInOrder
  rw [K_list0 K hl, ob_some, K_entN K hl, ob_some, if_pos rfl, K_list3 K hl, ob_some]
  by_cases h0 : a (480 + l) = 0
  · rw [if_pos (by rw [h0]; rfl)]
    unfold bL_isInOrder_40
    rw [if_pos (by rw [if_neg (by omega)]; rfl)]
    exact loop
  · rw [if_neg (by rw [l0, nI_eq_ (by omega) (by omega)]; exact h0), show fX5_entry w 0 (nI l) 0 1 = some (nI (a (240 + 40 * l + 0))) from K_ent1 K (q := 0) hl (by omega), ob_some]
    unfold bL_isInOrder_40
    rw [if_pos (by rw [if_pos (by omega)]; rfl)]
    exact loop
end LOW
