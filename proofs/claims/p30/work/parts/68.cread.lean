/-! PURE PART: what the class reads of a reading -/
def turn (a : Nat → Nat) (k : Nat) : Nat := (a 563 + k) % 6
theorem turn_lt (a : Nat → Nat) (k : Nat) : turn a k < 6 := Nat.mod_lt _ (by omega)
theorem nx_first {a : Nat → Nat} {k0 : Nat} (hw : a 560 = 0) (hk : k0 < 6) (hc : canr a (turn a k0)) (hf : ∀ j, j < k0 → ¬ canr a (turn a j)) : nx a 6 = turn a k0 := by
  have ec : ∀ k, cand a k = turn a k := fun k => by unfold cand turn; rw [if_pos hw]
  have h1 : ∀ k, k ≤ k0 → nx a k = 6 := by
    intro k
    induction k with
    | zero => intro _; rfl
    | succ k ih =>
      intro h
      rw [nx_n (by rw [ec]; exact hf k (by omega))]
      exact ih (by omega)
  have h2 : ∀ k, k0 < k → k ≤ 6 → nx a k = turn a k0 := by
    intro k
    induction k with
    | zero => intro h; omega
    | succ k ih =>
      intro h h6
      by_cases hkk : k = k0
      · subst hkk
        rw [nx_y (by rw [ec]; exact hc) (Or.inl (h1 k (Nat.le_refl _))), ec]
      · have h3 := ih (by omega) (by omega)
        have h4 := turn_lt a k0
        by_cases h5 : canr a (cand a k)
        · rw [nx_n2 (by omega) (by
            rintro (z | z) <;> omega)]
          exact h3
        · rw [nx_n h5]; exact h3
  exact h2 6 hk (by omega)
theorem le_m1 {x : Int32} (h : x ≤ -1) : x < 0 := by
  rw [Int32.le_iff_toInt_le] at h
  rw [Int32.lt_iff_toInt_lt]
  have h1 : (-1 : Int32).toInt = -1 := by decide
  have h2 : (0 : Int32).toInt = 0 := by decide
  omega
section CR
variable {w : Wd} {a f : Nat → Nat} {m o r : Nat}
theorem C_hasRest (O : OC w o a) (R : RC w r a f m) (I : IO a) (J : IR0 a) {l : Nat} (hl : l < 6) : fX2_hasRest w r o (nI l) = some (@ite Int32 (canr a l) (Classical.propDecidable _) 1 0) := by
  have h1 := (J.1 l hl).1
  have h2 := (I.1 l hl).1
  unfold fX2_hasRest
  rw [C_isAsked O I hl, ob_some]
  by_cases h : 0 < a (486 + l)
  · rw [if_pos h, if_neg (by decide), at_n hl (by omega), R.2.2.2.2.2.2.2.1 l hl, ob_some, C_sizeOf O hl, ob_some]
    by_cases h3 : a (568 + l) < a (480 + l)
    · rw [if_neg (by rw [nI_le_ (by omega) (by omega)]; omega), if_pos (show canr a l from ⟨h, h3⟩)]; rfl
    · rw [if_pos (by rw [nI_le_ (by omega) (by omega)]; omega), if_neg (show ¬ canr a l from fun z => h3 z.2)]; rfl
  · rw [if_neg h, if_pos rfl, if_neg (show ¬ canr a l from fun z => h z.1)]; rfl
theorem C_turnstep (O : OC w o a) (R : RC w r a f m) (I : IO a) (J : IR0 a) (n i : Nat) (hi : i < 6) : lX2_nextInTurn_2 r o (n + 1) w (nI (i + 1)) = @ite (Option Int32) (canr a (turn a i)) (Classical.propDecidable _) (some (nI (turn a i))) (lX2_nextInTurn_2 r o n w (nI (i + 2))) := by
  have h563 := J.2.2.2.2.2.2.2.2.2.1
  have e1 : w.1 r 3 + nI (i + 1) = nI ((a 563 + 5) % 6 + (i + 1)) := by rw [R.2.2.1, nI_add]
  have e2 : nI ((a 563 + 5) % 6 + (i + 1)) - nI ((a 563 + 5) % 6 + (i + 1)) / nI 6 * nI 6 = nI (turn a i) := by
    rw [nI_mod (by omega) (by omega) (by omega)]
    congr 1
    unfold turn
    omega
  rw [lX2_nextInTurn_2, if_neg (show ¬ (6 : Int32) < nI (i + 1) by rw [n6, nI_lt_ (by omega) (by omega)]; omega), e1, n6, e2, C_hasRest O R I J (turn_lt a i), ob_some]
  by_cases h : canr a (turn a i)
  · rw [if_pos h, if_neg (show ¬ (1 : Int32) = 0 by decide), if_pos h]
  · rw [if_neg h, if_pos (show (0 : Int32) = 0 from rfl), if_neg h, n1, nI_add]
theorem C_turn (O : OC w o a) (R : RC w r a f m) (I : IO a) (J : IR0 a) : ((∃ l, l < 6 ∧ canr a l) → ∃ k, k < 6 ∧ canr a (turn a k) ∧ (∀ j, j < k → ¬ canr a (turn a j)) ∧ fX2_nextInTurn w r o = some (nI (turn a k))) ∧ ((¬ ∃ l, l < 6 ∧ canr a l) → fX2_nextInTurn w r o = some (-5)) := by
  constructor
  · rintro ⟨l, hl, hc⟩
    have h563 := J.2.2.2.2.2.2.2.2.2.1
    obtain ⟨k1, hk1, e⟩ : ∃ k, k < 6 ∧ turn a k = l := ⟨(l + 6 - a 563 % 6) % 6, Nat.mod_lt _ (by omega), by unfold turn; omega⟩
    obtain ⟨k, hk, hck, hf⟩ := least (P := fun k => canr a (turn a k)) k1 (by rw [e]; exact hc)
    refine ⟨k, by omega, hck, hf, ?_⟩
    refine loopN (fun n i => lX2_nextInTurn_2 r o n w (nI (i + 1))) k _ (fun n i hi => ?_) (fun n => ?_) 4096 (by omega)
    · show lX2_nextInTurn_2 r o (n + 1) w (nI (i + 1)) = _
      rw [C_turnstep O R I J n i (by omega), if_neg (hf i hi)]
    · show lX2_nextInTurn_2 r o (n + 1) w (nI (k + 1)) = _
      rw [C_turnstep O R I J n k (by omega), if_pos hck]
  · intro h
    refine loopN (fun n i => lX2_nextInTurn_2 r o n w (nI (i + 1))) 6 _ (fun n i hi => ?_) (fun n => ?_) 4096 (by omega)
    · show lX2_nextInTurn_2 r o (n + 1) w (nI (i + 1)) = _
      rw [C_turnstep O R I J n i (by omega), if_neg (fun z => h ⟨_, turn_lt a i, z⟩)]
    · show lX2_nextInTurn_2 r o (n + 1) w (nI 7) = _
      rw [lX2_nextInTurn_2, if_pos (by decide)]
theorem C_wbd (O : OC w o a) (R : RC w r a f m) : fX2_weighedBounds w r o = some (nI (wbd a)) := by
  refine loopN (fun n i => lX2_weighedBounds_4 r o n w (nI (sm (fun l => a (486 + l) * tb a l) i)) (nI i)) 6 _ (fun n i hi => ?_) (fun n => ?_) 4096 (by omega)
  · show lX2_weighedBounds_4 r o (n + 1) w _ (nI i) = _
    rw [lX2_weighedBounds_4]
    simp (disch := omega) only [Nat.reduceAdd, Nat.reduceMul, Nat.reduceSub, l0, n1, n2, n3, n4, n5, n6, n40, n60, n240, n480, n486, n492, n498, n558, n559, n560, n561, n562, n563, n564, n565, n566, n567, n568, n574, n580, n586, n646, nI_add, nI_mul, Nat.zero_add, Nat.add_zero, ob_some, ob2_some, nI_le_, nI_lt_, nI_eq_, C_weightOf O, at_n, R.2.2.2.2.2.2.2.2.2.2.1]
    rw [if_neg (by omega), sm]
  · show lX2_weighedBounds_4 r o (n + 1) w _ (nI 6) = _
    rw [lX2_weighedBounds_4, if_pos (by decide), wbd]
theorem C_high (O : OC w o a) (R : RC w r a f m) (J : IR0 a) {d : Nat} (hd : d < 60) : fX2_highOf w r o (nI d) = some (nI (high a d)) := by
  have h3 := J.2.1 d hd
  unfold fX2_highOf
  rw [at_n hd (by omega), at_n hd (by omega), R.2.2.2.2.2.2.2.2.2.2.2.1 d hd, R.2.2.2.2.2.2.2.2.2.2.2.2.1 d hd, ob_some, ob_some]
  refine loopN (fun n i => lX2_highOf_22 r o n w (nI (lowk a d + sm (fun l => if (a (646 + d)).testBit l = true then 0 else a (486 + l) * tb a l) i)) (nI (a (646 + d))) (nI i)) 6 _ (fun n i hi => ?_) (fun n => ?_) 4096 (by omega)
  · show lX2_highOf_22 r o (n + 1) w _ _ (nI i) = _
    rw [lX2_highOf_22, if_neg (show ¬ (6 : Int32) ≤ nI i by rw [n6, nI_le_ (by omega) (by omega)]; omega), sb_tst _ h3 i hi, sm]
    by_cases hb : (a (646 + d)).testBit i = true
    · rw [if_pos hb, if_pos hb, if_neg (by decide), n1, nI_add]
      rfl
    · rw [if_neg hb, if_neg hb, if_pos (by decide)]
      simp (disch := omega) only [Nat.reduceAdd, Nat.reduceMul, Nat.reduceSub, l0, n1, n2, n3, n4, n5, n6, n40, n60, n240, n480, n486, n492, n498, n558, n559, n560, n561, n562, n563, n564, n565, n566, n567, n568, n574, n580, n586, n646, nI_add, nI_mul, Nat.zero_add, Nat.add_zero, ob_some, ob2_some, nI_le_, nI_lt_, nI_eq_, C_weightOf O, at_n, R.2.2.2.2.2.2.2.2.2.2.1]
      rw [Nat.add_assoc]
  · show lX2_highOf_22 r o (n + 1) w _ _ (nI 6) = _
    rw [lX2_highOf_22, if_pos (by decide), high]
/-- p's document is safe behind t -/
def safe (a f : Nat → Nat) (t p : Nat) : Prop := high a (f p) < lowk a t ∨ (high a (f p) = lowk a t ∧ t < f p)
theorem C_isOver (O : OC w o a) (R : RC w r a f m) (I : IO a) (J : IR0 a) : fX2_isOver w r o = some (@ite Int32 (ov a) (Classical.propDecidable _) 1 0) := by
  have hw := I.2.2.2.2.2.1
  have F : FR a f m := R.2.2.2.2.2.2.2.2.2.2.2.2.2.2.2
  have hm60 := F.1
  unfold fX2_isOver
  by_cases hc : ∃ l, l < 6 ∧ canr a l
  · obtain ⟨k, hk, -, -, e⟩ := (C_turn O R I J).1 hc
    have hov := ov_iff F I hc
    have ht := turn_lt a k
    rw [e, ob_some, if_neg (fun z => nI_pos (n := turn a k) (by omega) (by rw [z]; decide)), O.2.2.2.2.2.2, R.2.2.2.2.2.2.1]
    by_cases hs : a 558 ≤ m
    · have hlast := F.2.1 (a 558 - 1) (by omega)
      have b1 := wbd_le I
      have b2 := lowk_le I (f (a 558 - 1))
      have e0 : nI (a 558) - 1 = nI (a 558 - 1) := by rw [n1, nI_sub (by omega)]
      rw [if_pos (by rw [nI_le_ (by omega) (by omega)]; exact hs), e0, at_n (by omega) (by omega), R.2.2.2.2.2.2.2.2.2.2.2.2.2.2.1 _ (by omega), ob_some, at_n hlast.1 (by omega), R.2.2.2.2.2.2.2.2.2.2.2.2.1 _ hlast.1, ob_some, C_wbd O R, ob_some]
      by_cases hb : wbd a < lowk a (f (a 558 - 1))
      · rw [if_pos (by rw [nI_lt_ (by omega) (by omega)]; exact hb)]
        have st : ∀ n i, a 558 ≤ i → i < m → lX2_isOver_65 r o (n + 1) w (nI (f (a 558 - 1))) (nI (lowk a (f (a 558 - 1)))) (nI i) = @ite (Option Int32) (safe a f (f (a 558 - 1)) i) (Classical.propDecidable _) (lX2_isOver_65 r o n w (nI (f (a 558 - 1))) (nI (lowk a (f (a 558 - 1)))) (nI (i + 1))) (some 0) := by
          intro n i h1 h2
          have hi60 := (F.2.1 i h2).1
          have hh := high_le I (f i)
          have hne : f i ≠ f (a 558 - 1) := fun z => by have := FR_inj F h2 (by omega) z; omega
          rw [lX2_isOver_65, R.2.2.2.2.2.2.1]
          simp (disch := omega) only [Nat.reduceAdd, Nat.reduceMul, Nat.reduceSub, l0, n1, n2, n3, n4, n5, n6, n40, n60, n240, n480, n486, n492, n498, n558, n559, n560, n561, n562, n563, n564, n565, n566, n567, n568, n574, n580, n586, n646, nI_add, nI_mul, Nat.zero_add, Nat.add_zero, ob_some, ob2_some, nI_le_, nI_lt_, nI_eq_, at_n, R.2.2.2.2.2.2.2.2.2.2.2.2.2.2.1, C_high O R J]
          rw [if_neg (by omega)]
          by_cases c1 : lowk a (f (a 558 - 1)) < high a (f i)
          · rw [if_pos c1, if_neg (show ¬ safe a f (f (a 558 - 1)) i by rintro (z | z) <;> omega)]; rfl
          · rw [if_neg c1]
            by_cases c2 : high a (f i) = lowk a (f (a 558 - 1))
            · rw [if_pos c2]
              by_cases c3 : f (a 558 - 1) ≤ f i
              · rw [if_pos c3, if_pos (show safe a f (f (a 558 - 1)) i from Or.inr ⟨c2, by omega⟩)]
              · rw [if_neg c3, if_neg (show ¬ safe a f (f (a 558 - 1)) i by rintro (z | z) <;> omega)]; rfl
            · rw [if_neg c2, if_pos (show safe a f (f (a 558 - 1)) i from Or.inl (by omega))]
        have conv : ov a ↔ ∀ p, a 558 ≤ p → p < m → safe a f (f (a 558 - 1)) p := by
          rw [hov]
          constructor
          · rintro ⟨-, -, z⟩ p h1 h2
            exact z (f p) (F.2.1 p h2).1 (F.2.1 p h2).2 (by rw [fpl_f F h2]; exact h1)
          · intro z
            refine ⟨hs, hb, fun d hd hsn hf => ?_⟩
            obtain ⟨p, hp, rfl⟩ := F.2.2.2 d hd hsn
            rw [fpl_f F hp] at hf
            exact z p hf hp
        by_cases ho : ov a
        · rw [if_pos ho]
          refine loopM (fun n i => lX2_isOver_65 r o n w (nI (f (a 558 - 1))) (nI (lowk a (f (a 558 - 1)))) (nI i)) (a 558) m hs _ (fun n i h1 h2 => ?_) (fun n => ?_) 4096 (by omega)
          · show lX2_isOver_65 r o (n + 1) w _ _ (nI i) = _
            rw [st n i h1 h2, if_pos (conv.mp ho i h1 h2)]
          · show lX2_isOver_65 r o (n + 1) w _ _ (nI m) = _
            rw [lX2_isOver_65, R.2.2.2.2.2.2.1, if_pos (by rw [nI_le_ (by omega) (by omega)]; omega)]
            rfl
        · rw [if_neg ho]
          obtain ⟨p1, h1, h2, h3⟩ : ∃ p, a 558 ≤ p ∧ p < m ∧ ¬ safe a f (f (a 558 - 1)) p := by
            apply Classical.byContradiction
            intro z
            exact ho (conv.mpr (fun p h1 h2 => Classical.byContradiction fun h3 => z ⟨p, h1, h2, h3⟩))
          obtain ⟨p0, g1, g2, g3⟩ := least (P := fun p => a 558 ≤ p ∧ ¬ safe a f (f (a 558 - 1)) p) p1 ⟨h1, h3⟩
          refine loopM (fun n i => lX2_isOver_65 r o n w (nI (f (a 558 - 1))) (nI (lowk a (f (a 558 - 1)))) (nI i)) (a 558) p0 g2.1 _ (fun n i h1 h2 => ?_) (fun n => ?_) 4096 (by omega)
          · show lX2_isOver_65 r o (n + 1) w _ _ (nI i) = _
            rw [st n i h1 (by omega), if_pos (Classical.byContradiction fun z => g3 i h2 ⟨h1, z⟩)]
          · show lX2_isOver_65 r o (n + 1) w _ _ (nI p0) = _
            rw [st n p0 g2.1 (by omega), if_neg g2.2]
      · rw [if_neg (by rw [nI_lt_ (by omega) (by omega)]; exact hb), if_neg (fun z => hb (hov.mp z).2.1)]
        rfl
    · rw [if_neg (by rw [nI_le_ (by omega) (by omega)]; exact hs), if_neg (fun z => hs (hov.mp z).1)]
      rfl
  · rw [(C_turn O R I J).2 hc, ob_some, if_pos rfl, if_pos (show ov a from Or.inl (fun l hl z => hc ⟨l, hl, z⟩))]
    rfl
theorem C_byBounds (O : OC w o a) (R : RC w r a f m) (I : IO a) (J : IR0 a) (hw : a 560 = 1) : fX2_nextByBounds w r o = some (if nx a 6 = 6 then -5 else nI (nx a 6)) := by
  refine loopN (fun n i => lX2_nextByBounds_8 r o n w (if nx a i = 6 then -5 else nI (nx a i)) (if nx a i = 6 then -1 else nI (a (486 + nx a i) * tb a (nx a i))) (nI i)) 6 _ (fun n i hi => ?_) (fun n => ?_) 4096 (by omega)
  · show lX2_nextByBounds_8 r o (n + 1) w _ _ (nI i) = _
    have hn := nx_le (a := a) (k := i) (by omega)
    have ec : cand a i = i := by unfold cand; rw [if_neg (by omega)]
    have t1 := wtb_le I hi
    rw [lX2_nextByBounds_8, if_neg (show ¬ (6 : Int32) ≤ nI i by rw [n6, nI_le_ (by omega) (by omega)]; omega), C_weightOf O hi, ob_some, at_n hi (by omega), R.2.2.2.2.2.2.2.2.2.2.1 i hi, ob_some, C_hasRest O R I J hi, ob_some, nI_mul]
    by_cases hc : canr a i
    · have hc' : canr a (cand a i) := by rw [ec]; exact hc
      rw [if_pos hc, if_neg (show ¬ (1 : Int32) = 0 by decide)]
      by_cases h6 : nx a i = 6
      · have e := nx_y hc' (Or.inl h6)
        rw [ec] at e
        simp only [if_pos h6, e, if_neg (show ¬ i = 6 by omega)]
        rw [if_neg (fun z => by
          have h0 : ¬ nI (a (486 + i) * tb a i) < 0 := nI_pos (by omega)
          exact h0 (le_m1 z)), n1, nI_add]
      · have hb := (hn.2 h6).1
        have t2 := wtb_le I hb
        by_cases hlt : a (486 + nx a i) * tb a (nx a i) < a (486 + i) * tb a i
        · have e := nx_y hc' (Or.inr (show chs a (cand a i) (nx a i) by rw [ec]; exact Or.inl ⟨hw, hlt⟩))
          rw [ec] at e
          simp only [if_neg h6, e, if_neg (show ¬ i = 6 by omega)]
          rw [if_neg (show ¬ nI (a (486 + i) * tb a i) ≤ nI (a (486 + nx a i) * tb a (nx a i)) by rw [nI_le_ (by omega) (by omega)]; omega), n1, nI_add]
        · have e := nx_n2 h6 (show ¬ chs a (cand a i) (nx a i) by
            rw [ec]
            rintro (z | z)
            · exact hlt z.2
            · omega)
          simp only [e, if_neg h6]
          rw [if_pos (show nI (a (486 + i) * tb a i) ≤ nI (a (486 + nx a i) * tb a (nx a i)) by rw [nI_le_ (by omega) (by omega)]; omega), n1, nI_add]
    · have hc' : ¬ canr a (cand a i) := by rw [ec]; exact hc
      rw [if_neg hc, if_pos (show (0 : Int32) = 0 from rfl), nx_n hc', n1, nI_add]
  · show lX2_nextByBounds_8 r o (n + 1) w _ _ (nI 6) = _
    rw [lX2_nextByBounds_8, if_pos (by decide)]
theorem C_byRest (O : OC w o a) (R : RC w r a f m) (I : IO a) (J : IR0 a) (hw : a 560 = 2) : fX2_nextByRest w r o = some (if nx a 6 = 6 then -5 else nI (nx a 6)) := by
  refine loopN (fun n i => lX2_nextByRest_9 r o n w (if nx a i = 6 then -5 else nI (nx a i)) (if nx a i = 6 then nI 41 else nI (a (480 + nx a i) - a (568 + nx a i))) (nI i)) 6 _ (fun n i hi => ?_) (fun n => ?_) 4096 (by omega)
  · show lX2_nextByRest_9 r o (n + 1) w _ _ (nI i) = _
    have hn := nx_le (a := a) (k := i) (by omega)
    have ec : cand a i = i := by unfold cand; rw [if_neg (by omega)]
    have s1 := (I.1 i hi).1
    have r1 := (J.1 i hi).1
    rw [lX2_nextByRest_9, if_neg (show ¬ (6 : Int32) ≤ nI i by rw [n6, nI_le_ (by omega) (by omega)]; omega), C_sizeOf O hi, ob_some, at_n hi (by omega), R.2.2.2.2.2.2.2.1 i hi, ob_some, C_hasRest O R I J hi, ob_some, nI_sub r1]
    by_cases hc : canr a i
    · have hc' : canr a (cand a i) := by rw [ec]; exact hc
      rw [if_pos hc, if_neg (show ¬ (1 : Int32) = 0 by decide)]
      by_cases h6 : nx a i = 6
      · have e := nx_y hc' (Or.inl h6)
        rw [ec] at e
        simp only [if_pos h6, e, if_neg (show ¬ i = 6 by omega)]
        rw [if_neg (show ¬ nI 41 ≤ nI (a (480 + i) - a (568 + i)) by rw [nI_le_ (by omega) (by omega)]; omega), n1, nI_add]
      · have hb := (hn.2 h6).1
        have s2 := (I.1 _ hb).1
        by_cases hlt : a (480 + i) - a (568 + i) < a (480 + nx a i) - a (568 + nx a i)
        · have e := nx_y hc' (Or.inr (show chs a (cand a i) (nx a i) by rw [ec]; exact Or.inr ⟨hw, hlt⟩))
          rw [ec] at e
          simp only [if_neg h6, e, if_neg (show ¬ i = 6 by omega)]
          rw [if_neg (show ¬ nI (a (480 + nx a i) - a (568 + nx a i)) ≤ nI (a (480 + i) - a (568 + i)) by rw [nI_le_ (by omega) (by omega)]; omega), n1, nI_add]
        · have e := nx_n2 h6 (show ¬ chs a (cand a i) (nx a i) by
            rw [ec]
            rintro (z | z)
            · omega
            · exact hlt z.2)
          simp only [e, if_neg h6]
          rw [if_pos (show nI (a (480 + nx a i) - a (568 + nx a i)) ≤ nI (a (480 + i) - a (568 + i)) by rw [nI_le_ (by omega) (by omega)]; omega), n1, nI_add]
    · have hc' : ¬ canr a (cand a i) := by rw [ec]; exact hc
      rw [if_neg hc, if_pos (show (0 : Int32) = 0 from rfl), nx_n hc', n1, nI_add]
  · show lX2_nextByRest_9 r o (n + 1) w _ _ (nI 6) = _
    rw [lX2_nextByRest_9, if_pos (by decide)]
theorem C_nextList (O : OC w o a) (R : RC w r a f m) (I : IO a) (J : IR0 a) (hc : ∃ l, l < 6 ∧ canr a l) : fX2_nextList w r o = some (nI (nx a 6)) := by
  have hway := J.2.2.2.2.2.2.2.1
  have h6 := (nx_some J.2.2.2.2.2.2.2.2.2.1 hc).1
  unfold fX2_nextList
  rw [R.2.1]
  by_cases h0 : a 560 = 0
  · obtain ⟨k, hk, hck, hf, e⟩ := (C_turn O R I J).1 hc
    rw [if_pos (by rw [h0]; rfl), e, nx_first h0 hk hck hf]
    rfl
  · rw [if_neg (by rw [l0, nI_eq_ (by omega) (by omega)]; exact h0)]
    by_cases h1 : a 560 = 1
    · rw [if_pos (by rw [h1]; rfl), C_byBounds O R I J h1, if_neg (by omega)]
      rfl
    · rw [if_neg (by rw [n1, nI_eq_ (by omega) (by omega)]; exact h1), C_byRest O R I J (by omega), if_neg (by omega)]
      rfl
theorem C_isSeen (R : RC w r a f m) (J : IR0 a) {d : Nat} (hd : d < 60) : fX2_isSeen w r (nI d) = some (@ite Int32 (sn a d) (Classical.propDecidable _) 1 0) := by
  have h3 := J.2.1 d hd
  have h4 := J.2.2.2.1 d hd
  unfold fX2_isSeen
  rw [at_n hd (by omega), R.2.2.2.2.2.2.2.2.2.2.2.1 d hd, ob_some]
  by_cases h : sn a d
  · rw [if_neg (by rw [l0, nI_eq_ (by omega) (by omega)]; exact h4.mp h), if_pos h]; rfl
  · rw [if_pos (by rw [l0, nI_eq_ (by omega) (by omega)]; exact Classical.byContradiction fun z => h (h4.mpr z)), if_neg h]; rfl
end CR
