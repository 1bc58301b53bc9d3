/-! PURE PART, THE OFFICE: counts on both sides -/
theorem n0_ : (nI 0 : Int32) = 0 := by decide
def ent (a : Nat → Nat) : Nat := sm (fun l => a (480 + l)) 6
def asks (a : Nat → Nat) (l : Nat) : Prop := 0 < a (486 + l)
noncomputable def qs (a : Nat → Nat) : Nat := cnt (asks a) 6
def din (a : Nat → Nat) (l : Nat) : Nat := sm (fun p => a (498 + a (40 * l + p))) (a (480 + l))
noncomputable def wmany (a : Nat → Nat) : Nat := cnt (fun d => may a d) 60
theorem imin_n {a b : Nat} (ha : a < 2147483648) (hb : b < 2147483648) : imin (nI a) (nI b) = nI (min a b) := by
  unfold imin
  simp (disch := omega) only [nI_lt_]
  by_cases h : b < a
  · rw [if_pos h, Nat.min_eq_right (by omega)]
  · rw [if_neg h, Nat.min_eq_left (by omega)]
theorem rtZ_n0 : rtZ (nI 0) = some 0 := by decide
theorem rtZ_n1 : rtZ (nI 1) = some 1 := by decide
section MO2
variable {w : Wd} {a : Nat → Nat} {o : Nat}
theorem M_entries (Z : ZA (w.1 112) a) : fX6_entries w 111 = some (nI (ent a)) := by
  refine loopN (fun n i => lX6_entries_4 111 n w (nI (sm (fun l => a (480 + l)) i)) (nI i)) 6 _ (fun n i hi => ?_) (fun n => ?_) 4096 (by omega)
  · show lX6_entries_4 111 (n + 1) w _ (nI i) = _
    rw [lX6_entries_4]
    simp (disch := omega) only [Nat.reduceAdd, Nat.reduceMul, Nat.reduceSub, l0, n1, n2, n3, n4, n5, n6, n40, n60, n240, n480, n486, n492, n498, n558, n559, n560, n561, n562, n563, n564, n565, n566, n567, n568, n574, n580, n586, n646, nI_add, nI_mul, Nat.zero_add, Nat.add_zero, ob_some, ob2_some, nI_le_, nI_lt_, nI_eq_, zl Z]
    rw [if_neg (by omega), sm]
  · show lX6_entries_4 111 (n + 1) w _ (nI 6) = _
    rw [lX6_entries_4]
    simp (disch := omega) only [Nat.reduceAdd, Nat.reduceMul, Nat.reduceSub, l0, n1, n2, n3, n4, n5, n6, n40, n60, n240, n480, n486, n492, n498, n558, n559, n560, n561, n562, n563, n564, n565, n566, n567, n568, n574, n580, n586, n646, nI_add, nI_mul, Nat.zero_add, Nat.add_zero, ob_some, ob2_some, nI_le_, nI_lt_, nI_eq_]
    rw [if_pos (by omega), ent]
theorem C_entries (O : OC w o a) : fX1_entries w o = some (nI (ent a)) := by
  refine loopN (fun n i => lX1_entries_4 o n w (nI (sm (fun l => a (480 + l)) i)) (nI i)) 6 _ (fun n i hi => ?_) (fun n => ?_) 4096 (by omega)
  · show lX1_entries_4 o (n + 1) w _ (nI i) = _
    rw [lX1_entries_4]
    simp (disch := omega) only [Nat.reduceAdd, Nat.reduceMul, Nat.reduceSub, l0, n1, n2, n3, n4, n5, n6, n40, n60, n240, n480, n486, n492, n498, n558, n559, n560, n561, n562, n563, n564, n565, n566, n567, n568, n574, n580, n586, n646, nI_add, nI_mul, Nat.zero_add, Nat.add_zero, ob_some, ob2_some, nI_le_, nI_lt_, nI_eq_, at_n, O.1]
    rw [if_neg (by omega), sm]
  · show lX1_entries_4 o (n + 1) w _ (nI 6) = _
    rw [lX1_entries_4]
    simp (disch := omega) only [Nat.reduceAdd, Nat.reduceMul, Nat.reduceSub, l0, n1, n2, n3, n4, n5, n6, n40, n60, n240, n480, n486, n492, n498, n558, n559, n560, n561, n562, n563, n564, n565, n566, n567, n568, n574, n580, n586, n646, nI_add, nI_mul, Nat.zero_add, Nat.add_zero, ob_some, ob2_some, nI_le_, nI_lt_, nI_eq_]
    rw [if_pos (by omega), ent]
theorem M_isAsked (Z : ZA (w.1 112) a) (I : IO a) {l : Nat} (hl : l < 6) : fX6_isAsked w 111 (nI l) = some (if 0 < a (486 + l) then 1 else 0) := by
  have h1 := I.1 l hl
  unfold fX6_isAsked
  simp (disch := omega) only [Nat.reduceAdd, Nat.reduceMul, Nat.reduceSub, l0, n1, n2, n3, n4, n5, n6, n40, n60, n240, n480, n486, n492, n498, n558, n559, n560, n561, n562, n563, n564, n565, n566, n567, n568, n574, n580, n586, n646, nI_add, nI_mul, Nat.zero_add, Nat.add_zero, ob_some, ob2_some, nI_le_, nI_lt_, nI_eq_, zl Z]
  by_cases h : 0 < a (486 + l)
  · rw [if_neg (by omega), if_pos h]; rfl
  · rw [if_pos (by omega), if_neg h]; rfl
theorem M_asked (Z : ZA (w.1 112) a) (I : IO a) : fX6_asked w 111 = some (nI (qs a)) := by
  refine loopN (fun n i => lX6_asked_4 111 n w (nI (cnt (asks a) i)) (nI i)) 6 _ (fun n i hi => ?_) (fun n => ?_) 4096 (by omega)
  · show lX6_asked_4 111 (n + 1) w _ (nI i) = _
    rw [lX6_asked_4]
    simp (disch := omega) only [Nat.reduceAdd, Nat.reduceMul, Nat.reduceSub, l0, n1, n2, n3, n4, n5, n6, n40, n60, n240, n480, n486, n492, n498, n558, n559, n560, n561, n562, n563, n564, n565, n566, n567, n568, n574, n580, n586, n646, nI_add, nI_mul, Nat.zero_add, Nat.add_zero, ob_some, ob2_some, nI_le_, nI_lt_, nI_eq_, M_isAsked Z I]
    rw [if_neg (by omega)]
    by_cases h : 0 < a (486 + i)
    · rw [if_pos h, if_neg (by decide), cnt_s (P := asks a) h]
    · rw [if_neg h, if_pos (by decide), cnt_n (P := asks a) h]
  · show lX6_asked_4 111 (n + 1) w _ (nI 6) = _
    rw [lX6_asked_4]
    simp (disch := omega) only [Nat.reduceAdd, Nat.reduceMul, Nat.reduceSub, l0, n1, n2, n3, n4, n5, n6, n40, n60, n240, n480, n486, n492, n498, n558, n559, n560, n561, n562, n563, n564, n565, n566, n567, n568, n574, n580, n586, n646, nI_add, nI_mul, Nat.zero_add, Nat.add_zero, ob_some, ob2_some, nI_le_, nI_lt_, nI_eq_]
    rw [if_pos (by omega), qs]
theorem C_questionSize (O : OC w o a) (I : IO a) : fX1_questionSize w o = some (nI (qs a)) := by
  refine loopN (fun n i => lX1_questionSize_4 o n w (nI (cnt (asks a) i)) (nI i)) 6 _ (fun n i hi => ?_) (fun n => ?_) 4096 (by omega)
  · show lX1_questionSize_4 o (n + 1) w _ (nI i) = _
    rw [lX1_questionSize_4]
    simp (disch := omega) only [n6, nI_le_, C_isAsked O I, ob_some]
    rw [if_neg (by omega)]
    by_cases h : 0 < a (486 + i)
    · rw [if_pos h, oneIf_1, ob_some, n1, nI_add, nI_add, cnt_s (P := asks a) h]
    · rw [if_neg h, oneIf_0, ob_some, l0, n1, nI_add, nI_add, cnt_n (P := asks a) h]; rfl
  · show lX1_questionSize_4 o (n + 1) w _ (nI 6) = _
    rw [lX1_questionSize_4]
    simp (disch := omega) only [Nat.reduceAdd, Nat.reduceMul, Nat.reduceSub, l0, n1, n2, n3, n4, n5, n6, n40, n60, n240, n480, n486, n492, n498, n558, n559, n560, n561, n562, n563, n564, n565, n566, n567, n568, n574, n580, n586, n646, nI_add, nI_mul, Nat.zero_add, Nat.add_zero, ob_some, ob2_some, nI_le_, nI_lt_, nI_eq_]
    rw [if_pos (by omega), qs]
theorem M_wantedMany (Z : ZA (w.1 112) a) (I : IO a) : fX6_wantedMany w 111 = some (nI (min (wmany a) (a 558))) := by
  have hc := cnt_le (fun d => may a d) 60
  have hw := I.2.2.2.2.2.1
  refine loopN (fun n i => lX6_wantedMany_4 111 n w (nI (cnt (fun d => may a d) i)) (nI i)) 60 _ (fun n i hi => ?_) (fun n => ?_) 4096 (by omega)
  · show lX6_wantedMany_4 111 (n + 1) w _ (nI i) = _
    rw [lX6_wantedMany_4]
    by_cases h : may a i
    · simp (disch := omega) only [Nat.reduceAdd, Nat.reduceMul, Nat.reduceSub, l0, n1, n2, n3, n4, n5, n6, n40, n60, n240, n480, n486, n492, n498, n558, n559, n560, n561, n562, n563, n564, n565, n566, n567, n568, n574, n580, n586, n646, nI_add, nI_mul, Nat.zero_add, Nat.add_zero, ob_some, ob2_some, nI_le_, nI_lt_, nI_eq_, M_may Z I hi h]
      rw [if_neg (by omega), if_neg (by decide), cnt_s h]
    · simp (disch := omega) only [Nat.reduceAdd, Nat.reduceMul, Nat.reduceSub, l0, n1, n2, n3, n4, n5, n6, n40, n60, n240, n480, n486, n492, n498, n558, n559, n560, n561, n562, n563, n564, n565, n566, n567, n568, n574, n580, n586, n646, nI_add, nI_mul, Nat.zero_add, Nat.add_zero, ob_some, ob2_some, nI_le_, nI_lt_, nI_eq_, M_mayN Z I hi h]
      rw [if_neg (by omega), if_pos (by decide), cnt_n h]
  · show lX6_wantedMany_4 111 (n + 1) w _ (nI 60) = _
    rw [lX6_wantedMany_4]
    simp (disch := omega) only [Nat.reduceAdd, Nat.reduceMul, Nat.reduceSub, l0, n1, n2, n3, n4, n5, n6, n40, n60, n240, n480, n486, n492, n498, n558, n559, n560, n561, n562, n563, n564, n565, n566, n567, n568, n574, n580, n586, n646, nI_add, nI_mul, Nat.zero_add, Nat.add_zero, ob_some, ob2_some, nI_le_, nI_lt_, nI_eq_, zl Z]
    rw [if_pos (by omega), wmany]
    by_cases h : a 558 ≤ cnt (fun d => may a d) 60
    · rw [if_pos h, Nat.min_eq_right h]
    · rw [if_neg h, Nat.min_eq_left (by omega)]
theorem C_isAnswer (O : OC w o a) (I : IO a) {d : Nat} (hd : d < 60) (h : may a d) : fX1_isAnswer w o (nI d) = some 1 := by
  have hv := val_le I d
  unfold fX1_isAnswer
  rw [C_isDeleted O I hd, ob_some, h.1, if_pos (by decide), C_valueOf O I hd, ob_some]
  simp (disch := omega) only [Nat.reduceAdd, Nat.reduceMul, Nat.reduceSub, l0, n1, n2, n3, n4, n5, n6, n40, n60, n240, n480, n486, n492, n498, n558, n559, n560, n561, n562, n563, n564, n565, n566, n567, n568, n574, n580, n586, n646, nI_add, nI_mul, Nat.zero_add, Nat.add_zero, ob_some, ob2_some, nI_le_, nI_lt_, nI_eq_]
  rw [if_neg (by have := h.2; omega)]
  rfl
theorem C_isAnswerN (O : OC w o a) (I : IO a) {d : Nat} (hd : d < 60) (h : ¬ may a d) : fX1_isAnswer w o (nI d) = some 0 := by
  have hv := val_le I d
  have hg := I.2.2.2.2.1 d hd
  unfold fX1_isAnswer
  rw [C_isDeleted O I hd, ob_some]
  simp (disch := omega) only [Nat.reduceAdd, Nat.reduceMul, Nat.reduceSub, l0, n1, n2, n3, n4, n5, n6, n40, n60, n240, n480, n486, n492, n498, n558, n559, n560, n561, n562, n563, n564, n565, n566, n567, n568, n574, n580, n586, n646, nI_add, nI_mul, Nat.zero_add, Nat.add_zero, ob_some, ob2_some, nI_le_, nI_lt_, nI_eq_, C_valueOf O I hd]
  by_cases h0 : a (498 + d) = 0
  · rw [if_pos h0, if_pos (by
      have : ¬ 0 < val a d := fun z => h ⟨h0, z⟩
      omega)]
    rfl
  · rw [if_neg h0]
    rfl
theorem C_wantedSize (O : OC w o a) (I : IO a) : fX1_wantedSize w o = some (nI (min (wmany a) (a 558))) := by
  have hc := cnt_le (fun d => may a d) 60
  have hw := I.2.2.2.2.2.1
  refine loopN (fun n i => lX1_wantedSize_4 o n w (nI (cnt (fun d => may a d) i)) (nI i)) 60 _ (fun n i hi => ?_) (fun n => ?_) 4096 (by omega)
  · show lX1_wantedSize_4 o (n + 1) w _ (nI i) = _
    rw [lX1_wantedSize_4]
    by_cases h : may a i
    · simp (disch := omega) only [n60, nI_le_, C_isAnswer O I hi h, ob_some, oneIf_1]
      rw [if_neg (by omega), n1, nI_add, nI_add, cnt_s h]
    · simp (disch := omega) only [n60, nI_le_, C_isAnswerN O I hi h, ob_some, oneIf_0]
      rw [if_neg (by omega), l0, n1, nI_add, nI_add, cnt_n h, Nat.add_zero]
  · show lX1_wantedSize_4 o (n + 1) w _ (nI 60) = _
    rw [lX1_wantedSize_4, O.2.2.2.2.2.2]
    simp (disch := omega) only [Nat.reduceAdd, Nat.reduceMul, Nat.reduceSub, l0, n1, n2, n3, n4, n5, n6, n40, n60, n240, n480, n486, n492, n498, n558, n559, n560, n561, n562, n563, n564, n565, n566, n567, n568, n574, n580, n586, n646, nI_add, nI_mul, Nat.zero_add, Nat.add_zero, ob_some, ob2_some, nI_le_, nI_lt_, nI_eq_]
    rw [if_pos (by omega), imin_n (by omega) (by omega), wmany]
theorem C_wantedPlaceOf (O : OC w o a) (I : IO a) {d : Nat} (hd : d < 60) : (may a d → wct a d 60 < a 558 → fX1_wantedPlaceOf w o (nI d) = some (nI (wct a d 60))) ∧ (may a d → ¬ wct a d 60 < a 558 → fX1_wantedPlaceOf w o (nI d) = some (-5)) ∧ (¬ may a d → fX1_wantedPlaceOf w o (nI d) = some (-5)) := by
  have key : may a d → fX1_wantedPlaceOf w o (nI d) = if a 558 ≤ wct a d 60 then some (-5) else some (nI (wct a d 60)) := by
    intro hm
    unfold fX1_wantedPlaceOf
    rw [C_isAnswer O I hd hm, C_valueOf O I hd, ob_some, ob_some]
    rw [if_neg (by decide)]
    refine loopN (fun n i => lX1_wantedPlaceOf_22 o n w (nI d) (nI (val a d)) (nI (wct a d i)) (nI i)) 60 _ (fun n i hi => ?_) (fun n => ?_) 4096 (by omega)
    · show lX1_wantedPlaceOf_22 o (n + 1) w (nI d) (nI (val a d)) (nI (wct a d i)) (nI i) = _
      have v1 := val_le I d
      have v2 := val_le I i
      have hg := I.2.2.2.2.1 i hi
      have hpos := hm.2
      rw [lX1_wantedPlaceOf_22, if_neg (by rw [n60, nI_le_ (by omega) (by omega)]; omega), C_isDeleted O I hi, ob_some]
      have e0 : nI (a (498 + i)) = 0 ↔ a (498 + i) = 0 := nI_eq (by omega) (b := 0) (by omega)
      by_cases hz : a (498 + i) = 0
      · rw [if_pos (e0.mpr hz), C_valueOf O I hi, ob_some]
        simp (disch := omega) only [Nat.reduceAdd, Nat.reduceMul, Nat.reduceSub, l0, n1, n2, n3, n4, n5, n6, n40, n60, n240, n480, n486, n492, n498, n558, n559, n560, n561, n562, n563, n564, n565, n566, n567, n568, n574, n580, n586, n646, nI_add, nI_mul, Nat.zero_add, Nat.add_zero, ob_some, ob2_some, nI_le_, nI_lt_, nI_eq_]
        by_cases c1 : val a d < val a i
        · rw [if_pos c1, wct_s ⟨⟨hz, by omega⟩, Or.inl c1⟩]
        · rw [if_neg c1]
          by_cases c2 : val a i = val a d
          · rw [if_pos c2]
            by_cases c3 : d ≤ i
            · rw [if_pos c3, wct_n (by rintro ⟨-, h | h⟩ <;> omega)]
            · rw [if_neg c3, wct_s ⟨⟨hz, by omega⟩, Or.inr ⟨c2, by omega⟩⟩]
          · rw [if_neg c2, wct_n (by rintro ⟨-, h | h⟩ <;> omega)]
      · rw [if_neg (fun z => hz (e0.mp z))]
        simp (disch := omega) only [Nat.reduceAdd, Nat.reduceMul, Nat.reduceSub, l0, n1, n2, n3, n4, n5, n6, n40, n60, n240, n480, n486, n492, n498, n558, n559, n560, n561, n562, n563, n564, n565, n566, n567, n568, n574, n580, n586, n646, nI_add, nI_mul, Nat.zero_add, Nat.add_zero, ob_some, ob2_some, nI_le_, nI_lt_, nI_eq_]
        rw [if_neg (by omega), if_neg (by omega), wct_n (fun h => hz h.1.1)]
    · show lX1_wantedPlaceOf_22 o (n + 1) w (nI d) (nI (val a d)) (nI (wct a d 60)) (nI 60) = _
      have := wct_le a d 60
      have := I.2.2.2.2.2.1
      rw [lX1_wantedPlaceOf_22, O.2.2.2.2.2.2]
      simp (disch := omega) only [Nat.reduceAdd, Nat.reduceMul, Nat.reduceSub, l0, n1, n2, n3, n4, n5, n6, n40, n60, n240, n480, n486, n492, n498, n558, n559, n560, n561, n562, n563, n564, n565, n566, n567, n568, n574, n580, n586, n646, nI_add, nI_mul, Nat.zero_add, Nat.add_zero, ob_some, ob2_some, nI_le_, nI_lt_, nI_eq_]
      rw [if_pos (by omega)]
  refine ⟨fun hm h => ?_, fun hm h => ?_, fun hm => ?_⟩
  · rw [key hm, if_neg (by omega)]
  · rw [key hm, if_pos (by omega)]
  · unfold fX1_wantedPlaceOf
    rw [C_isAnswerN O I hd hm]
    rfl
end MO2
