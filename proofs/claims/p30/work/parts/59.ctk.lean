/-! PURE PART: taking out and putting in, in the class -/
theorem put_n' {q : Nat} {w : Wd} {k j : Nat} {x : Int32} (h : j < q) (hq : q < 2147483648) : fX5_put w k q (nI j) x = some (sI w k j x) := put_n h hq
section CTK
variable {w : Wd} {a : Nat → Nat} {o : Nat}
theorem C_takeOut0 (O : OC w o a) {l d : Nat} (hl : l < 6) (hd : d < 60) (h : scr a l d = 0) : fX1_takeOut w o (nI l) (nI d) = some w := by
  unfold fX1_takeOut
  rw [C_scoreOf O hl hd, ob_some, h, if_pos (by decide)]
theorem C_takeOut (O : OC w o a) (I : IO a) {l d p : Nat} (hl : l < 6) (hd : d < 60) (hp : p < a (480 + l)) (hpd : a (40 * l + p) = d) : ∃ w', fX1_takeOut w o (nI l) (nI d) = some w' ∧ Fr o (o + 6) w w' ∧ ∀ a', TK a a' l p → OC w' o a' := by
  have hz := (I.1 l hl).1
  have hb := I.2.1 l p hl hp
  have hsc := scr_in I hl hp hpd
  have e0 : ¬ nI (scr a l d) = 0 := fun z => by have := (nI_eq (a := scr a l d) (b := 0) (by omega) (by omega)).mp z; omega
  unfold fX1_takeOut
  rw [C_scoreOf O hl hd, ob_some, if_neg e0]
  simp (disch := omega) only [Nat.reduceAdd, Nat.reduceMul, Nat.reduceSub, l0, n1, n2, n3, n4, n5, n6, n40, n60, n240, n480, n486, n492, n498, n558, n559, n560, n561, n562, n563, n564, n565, n566, n567, n568, n574, n580, n586, n646, nI_add, nI_mul, Nat.zero_add, Nat.add_zero, ob_some, ob2_some, nI_le_, nI_lt_, nI_eq_, at_n, O.1]
  have s1 : lX1_takeOut_28 o 4096 w (nI l) (nI d) (nI (a (480 + l))) (nI (l * 40)) (nI 0) = lX1_takeOut_62 o 4096 w (nI l) (nI d) (nI (a (480 + l))) (nI (l * 40)) (nI (p + 1)) := by
    refine loopN (fun n i => lX1_takeOut_28 o n w (nI l) (nI d) (nI (a (480 + l))) (nI (l * 40)) (nI i)) p _ (fun n i hi => ?_) (fun n => ?_) 4096 (by omega)
    · show lX1_takeOut_28 o (n + 1) w (nI l) (nI d) (nI (a (480 + l))) (nI (l * 40)) (nI i) = _
      have hx : ¬ a (40 * l + i) = d := fun z => I.2.2.2.1 l i p hl hi hp (z.trans hpd.symm)
      have hb2 := I.2.1 l i hl (by omega)
      rw [lX1_takeOut_28]
      simp (disch := omega) only [Nat.reduceAdd, Nat.reduceMul, Nat.reduceSub, l0, n1, n2, n3, n4, n5, n6, n40, n60, n240, n480, n486, n492, n498, n558, n559, n560, n561, n562, n563, n564, n565, n566, n567, n568, n574, n580, n586, n646, nI_add, nI_mul, Nat.zero_add, Nat.add_zero, ob_some, ob2_some, nI_le_, nI_lt_, nI_eq_, at_n, O.2.1]
      rw [if_neg (by omega), if_neg hx]
    · show lX1_takeOut_28 o (n + 1) w (nI l) (nI d) (nI (a (480 + l))) (nI (l * 40)) (nI p) = _
      rw [lX1_takeOut_28]
      simp (disch := omega) only [Nat.reduceAdd, Nat.reduceMul, Nat.reduceSub, l0, n1, n2, n3, n4, n5, n6, n40, n60, n240, n480, n486, n492, n498, n558, n559, n560, n561, n562, n563, n564, n565, n566, n567, n568, n574, n580, n586, n646, nI_add, nI_mul, Nat.zero_add, Nat.add_zero, ob_some, ob2_some, nI_le_, nI_lt_, nI_eq_, at_n, O.2.1]
      rw [if_neg (by omega), if_pos hpd]
  rw [s1]
  refine loopI (fun n w' i => lX1_takeOut_62 o n w' (nI l) (nI d) (nI (a (480 + l))) (nI (l * 40)) (nI i)) (fun i w' => Fr (o + 2) (o + 3) w w' ∧ (∀ q, q < 40 → w'.1 (o + 2) (l * 40 + q) = w.1 (o + 2) (l * 40 + (if p ≤ q ∧ q + 1 < i then q + 1 else q))) ∧ (∀ m q, m < 6 → m ≠ l → q < 40 → w'.1 (o + 2) (m * 40 + q) = w.1 (o + 2) (m * 40 + q))) (p + 1) (a (480 + l)) (by omega) (fun r => ∃ w', r = some w' ∧ Fr o (o + 6) w w' ∧ ∀ a', TK a a' l p → OC w' o a') (fun n i w' hi hi2 hI => ?_) (fun n w' hI => ?_) 4096 w (by omega) ⟨Fr.rfl', fun q hq => by rw [if_neg (by omega)], fun m q _ _ _ => rfl⟩
  · obtain ⟨F, h1, h2⟩ := hI
    refine ⟨sI w' (o + 2) (l * 40 + (i - 1)) (w.1 (o + 2) (l * 40 + i)), ⟨F.sI (by omega) (by omega), fun q hq => ?_, fun m q hm hml hq => ?_⟩, ?_⟩
    · rw [sI_1, if_pos rfl, upd_1]
      by_cases hqi : q = i - 1
      · rw [if_pos (by omega), if_pos (by omega), show q + 1 = i by omega]
      · rw [if_neg (by omega), h1 q hq]
        by_cases hq2 : p ≤ q ∧ q + 1 < i
        · rw [if_pos hq2, if_pos (by omega)]
        · rw [if_neg hq2, if_neg (by omega)]
    · rw [sI_1, if_pos rfl, upd_1, if_neg (by omega), h2 m q hm hml hq]
    · show lX1_takeOut_62 o (n + 1) w' (nI l) (nI d) (nI (a (480 + l))) (nI (l * 40)) (nI i) = _
      have e1 : nI (l * 40 + i) - nI 1 = nI (l * 40 + (i - 1)) := by rw [nI_sub (by omega)]; congr 1; omega
      have e2 := h1 i (by omega)
      rw [if_neg (by omega)] at e2
      rw [lX1_takeOut_62]
      simp (disch := omega) only [Nat.reduceAdd, Nat.reduceMul, Nat.reduceSub, l0, n1, n2, n3, n4, n5, n6, n40, n60, n240, n480, n486, n492, n498, n558, n559, n560, n561, n562, n563, n564, n565, n566, n567, n568, n574, n580, n586, n646, nI_add, nI_mul, Nat.zero_add, Nat.add_zero, ob_some, ob2_some, nI_le_, nI_lt_, nI_eq_, at_n, e1, put_n, e2]
      rw [if_neg (by omega)]
  · obtain ⟨F, h1, h2⟩ := hI
    show ∃ w'', lX1_takeOut_62 o (n + 1) w' (nI l) (nI d) (nI (a (480 + l))) (nI (l * 40)) (nI (a (480 + l))) = _ ∧ _
    have e1 : nI (a (480 + l)) - nI 1 = nI (a (480 + l) - 1) := by rw [nI_sub (by omega)]
    rw [lX1_takeOut_62]
    simp (disch := omega) only [Nat.reduceAdd, Nat.reduceMul, Nat.reduceSub, l0, n1, n2, n3, n4, n5, n6, n40, n60, n240, n480, n486, n492, n498, n558, n559, n560, n561, n562, n563, n564, n565, n566, n567, n568, n574, n580, n586, n646, nI_add, nI_mul, Nat.zero_add, Nat.add_zero, ob_some, ob2_some, nI_le_, nI_lt_, nI_eq_, e1, put_n]
    rw [if_pos (by omega)]
    have F' : Fr (o + 1) (o + 4) w (sI (sI w' (o + 3) l (nI (a (480 + l) - 1))) (o + 1) (l * 60 + d) (nI 0)) := ((F.wide (by omega) (by omega)).sI (by omega) (by omega)).sI (by omega) (by omega)
    refine ⟨_, rfl, F'.wide (by omega) (by omega), fun a' T => ?_⟩
    have hn := TK_scr0 T I hl hp
    have hne := fun e he => TK_scr (e := e) T I hl hp he
    obtain ⟨t1, t2, t3⟩ := T
    have c3 : ∀ j, (sI (sI w' (o + 3) l (nI (a (480 + l) - 1))) (o + 1) (l * 60 + d) (nI 0)).1 (o + 3) j = if j = l then nI (a (480 + l) - 1) else w.1 (o + 3) j := by
      intro j
      rw [sI_1, if_neg (by omega), sI_1, if_pos rfl, upd_1, F.1 (o + 3) (by omega)]
    have c2 : ∀ j, (sI (sI w' (o + 3) l (nI (a (480 + l) - 1))) (o + 1) (l * 60 + d) (nI 0)).1 (o + 2) j = w'.1 (o + 2) j := by
      intro j
      rw [sI_1, if_neg (by omega), sI_1, if_neg (by omega)]
    have c1 : ∀ j, (sI (sI w' (o + 3) l (nI (a (480 + l) - 1))) (o + 1) (l * 60 + d) (nI 0)).1 (o + 1) j = if j = l * 60 + d then nI 0 else w.1 (o + 1) j := by
      intro j
      rw [sI_1, if_pos rfl, upd_1, sI_1, if_neg (show ¬ o + 1 = o + 3 by omega), F.1 (o + 1) (by omega)]
    refine OC_upd O I t2 hl F' ?_ (fun m hm hml => ?_) (fun q hq => ?_) (fun m q hm hml hq => ?_) (fun e he => ?_) (fun m e hm hml he => ?_)
    · rw [c3, if_pos rfl]; congr 1; omega
    · rw [c3, if_neg hml]
    · rw [c2, h1 q (by omega), O.2.1 l _ hl (by split <;> omega), (t3 q hq).1]
      congr 2
      by_cases hqp : q < p
      · rw [if_pos hqp, if_neg (by omega)]
      · rw [if_neg hqp, if_pos (by omega)]
    · rw [c2, h2 m q hm hml hq]
    · rw [c1]
      by_cases hed : e = d
      · rw [if_pos (by omega), hed, ← hpd, scr_none hn]
      · rw [if_neg (by omega), O.2.2.1 l e hl he, hne e (by rw [hpd]; exact hed)]
    · rw [c1, if_neg (by omega)]
theorem C_stands (O : OC w o a) (I : IO a) {l d s i : Nat} (hl : l < 6) (hd : d < 60) (hs : s ≤ 999) (hi : i < a (480 + l)) : fX1_standsAhead w o (nI l) (nI i) (nI d) (nI s) = some (@ite Int32 (aho a l d s i) (Classical.propDecidable _) 1 0) := by
  have hz := (I.1 l hl).1
  have hb := I.2.1 l i hl hi
  unfold fX1_standsAhead
  rw [C_scoreAt O I hl (by omega), if_pos hi, ob_some]
  simp (disch := omega) only [Nat.reduceAdd, Nat.reduceMul, Nat.reduceSub, l0, n1, n2, n3, n4, n5, n6, n40, n60, n240, n480, n486, n492, n498, n558, n559, n560, n561, n562, n563, n564, n565, n566, n567, n568, n574, n580, n586, n646, nI_add, nI_mul, Nat.zero_add, Nat.add_zero, ob_some, ob2_some, nI_le_, nI_lt_, nI_eq_, C_documentAt O I]
  by_cases c1 : s < a (240 + 40 * l + i)
  · rw [if_pos c1, if_pos (show aho a l d s i from Or.inl c1)]; rfl
  · rw [if_neg c1]
    by_cases c2 : a (240 + 40 * l + i) = s
    · rw [if_pos c2]
      by_cases c3 : d ≤ a (40 * l + i)
      · rw [if_pos c3, if_neg (show ¬ aho a l d s i by rintro (z | z) <;> omega)]; rfl
      · rw [if_neg c3, if_pos (show aho a l d s i from Or.inr ⟨c2, by omega⟩)]; rfl
    · rw [if_neg c2, if_neg (show ¬ aho a l d s i by rintro (z | z) <;> omega)]; rfl
theorem C_ins (O : OC w o a) (I : IO a) {l d s p : Nat} (hl : l < 6) (hd : d < 60) (hs1 : 1 ≤ s) (hs : s ≤ 999) (hz : a (480 + l) < 40) (hp : p ≤ a (480 + l)) (ha : ∀ i, i < a (480 + l) → (aho a l d s i ↔ i < p)) (hn : ∀ i, i < a (480 + l) → a (40 * l + i) ≠ d) : ∃ w', lX1_putIn_19 o 4096 w (nI l) (nI d) (nI s) (nI (a (480 + l))) 0 = some (nI p, w') ∧ Fr o (o + 6) w w' ∧ ∀ a', PT a a' l p d s → OC w' o a' := by
  have s1 : lX1_putIn_19 o 4096 w (nI l) (nI d) (nI s) (nI (a (480 + l))) 0 = lX1_putIn_54 o 4096 w (nI l) (nI d) (nI s) (nI (a (480 + l))) (nI p) (nI (l * 40)) (nI (a (480 + l))) := by
    refine loopN (fun n i => lX1_putIn_19 o n w (nI l) (nI d) (nI s) (nI (a (480 + l))) (nI i)) p _ (fun n i hi => ?_) (fun n => ?_) 4096 (by omega)
    · show lX1_putIn_19 o (n + 1) w (nI l) (nI d) (nI s) (nI (a (480 + l))) (nI i) = _
      rw [lX1_putIn_19, C_stands O I hl hd hs (by omega), if_pos ((ha i (by omega)).mpr hi), ob_some, if_neg (show ¬ (1 : Int32) = 0 by decide)]
      simp (disch := omega) only [Nat.reduceAdd, Nat.reduceMul, Nat.reduceSub, l0, n1, n2, n3, n4, n5, n6, n40, n60, n240, n480, n486, n492, n498, n558, n559, n560, n561, n562, n563, n564, n565, n566, n567, n568, n574, n580, n586, n646, nI_add, nI_mul, Nat.zero_add, Nat.add_zero, ob_some, ob2_some, nI_le_, nI_lt_, nI_eq_]
      rw [if_neg (by omega)]
    · show lX1_putIn_19 o (n + 1) w (nI l) (nI d) (nI s) (nI (a (480 + l))) (nI p) = _
      rw [lX1_putIn_19]
      by_cases hpz : p = a (480 + l)
      · simp (disch := omega) only [Nat.reduceAdd, Nat.reduceMul, Nat.reduceSub, l0, n1, n2, n3, n4, n5, n6, n40, n60, n240, n480, n486, n492, n498, n558, n559, n560, n561, n562, n563, n564, n565, n566, n567, n568, n574, n580, n586, n646, nI_add, nI_mul, Nat.zero_add, Nat.add_zero, ob_some, ob2_some, nI_le_, nI_lt_, nI_eq_]
        rw [if_pos (by omega)]
      · rw [C_stands O I hl hd hs (by omega), if_neg (show ¬ aho a l d s p from fun z => by have := (ha p (by omega)).mp z; omega), ob_some, if_pos (show (0 : Int32) = 0 from rfl)]
        simp (disch := omega) only [Nat.reduceAdd, Nat.reduceMul, Nat.reduceSub, l0, n1, n2, n3, n4, n5, n6, n40, n60, n240, n480, n486, n492, n498, n558, n559, n560, n561, n562, n563, n564, n565, n566, n567, n568, n574, n580, n586, n646, nI_add, nI_mul, Nat.zero_add, Nat.add_zero, ob_some, ob2_some, nI_le_, nI_lt_, nI_eq_]
        rw [if_neg (by omega)]
  rw [s1]
  refine loopD (fun n w' i => lX1_putIn_54 o n w' (nI l) (nI d) (nI s) (nI (a (480 + l))) (nI p) (nI (l * 40)) (nI i)) (fun i w' => Fr (o + 2) (o + 3) w w' ∧ (∀ q, q < 40 → w'.1 (o + 2) (l * 40 + q) = w.1 (o + 2) (l * 40 + (if i < q ∧ q ≤ a (480 + l) then q - 1 else q))) ∧ (∀ m q, m < 6 → m ≠ l → q < 40 → w'.1 (o + 2) (m * 40 + q) = w.1 (o + 2) (m * 40 + q))) p (a (480 + l)) hp (fun r => ∃ w', r = some (nI p, w') ∧ Fr o (o + 6) w w' ∧ ∀ a', PT a a' l p d s → OC w' o a') (fun n i w' hi hi2 hI => ?_) (fun n w' hI => ?_) 4096 w (by omega) ⟨Fr.rfl', fun q hq => by rw [if_neg (by omega)], fun m q _ _ _ => rfl⟩
  · obtain ⟨F, h1, h2⟩ := hI
    refine ⟨sI w' (o + 2) (l * 40 + (i + 1)) (w.1 (o + 2) (l * 40 + i)), ⟨F.sI (by omega) (by omega), fun q hq => ?_, fun m q hm hml hq => ?_⟩, ?_⟩
    · rw [sI_1, if_pos rfl, upd_1]
      by_cases hqi : q = i + 1
      · rw [if_pos (by omega), if_pos (by omega), show q - 1 = i by omega]
      · rw [if_neg (by omega), h1 q hq]
        by_cases hq2 : i + 1 < q ∧ q ≤ a (480 + l)
        · rw [if_pos hq2, if_pos (by omega)]
        · rw [if_neg hq2, if_neg (by omega)]
    · rw [sI_1, if_pos rfl, upd_1, if_neg (by omega), h2 m q hm hml hq]
    · show lX1_putIn_54 o (n + 1) w' (nI l) (nI d) (nI s) (nI (a (480 + l))) (nI p) (nI (l * 40)) (nI (i + 1)) = _
      have e1 : nI (l * 40 + (i + 1)) - nI 1 = nI (l * 40 + i) := by rw [nI_sub (by omega)]; congr 1
      have e6 : nI (i + 1) + -nI 1 = nI i := by rw [← Int32.sub_eq_add_neg, nI_sub (by omega)]; congr 1
      have e2 := h1 i (by omega)
      rw [if_neg (by omega)] at e2
      rw [lX1_putIn_54]
      simp (disch := omega) only [Nat.reduceAdd, Nat.reduceMul, Nat.reduceSub, l0, n1, n2, n3, n4, n5, n6, n40, n60, n240, n480, n486, n492, n498, n558, n559, n560, n561, n562, n563, n564, n565, n566, n567, n568, n574, n580, n586, n646, nI_add, nI_mul, Nat.zero_add, Nat.add_zero, ob_some, ob2_some, nI_le_, nI_lt_, nI_eq_, at_n, e1, put_n, e2, e6]
      rw [if_neg (by omega)]
  · obtain ⟨F, h1, h2⟩ := hI
    show ∃ w'', lX1_putIn_54 o (n + 1) w' (nI l) (nI d) (nI s) (nI (a (480 + l))) (nI p) (nI (l * 40)) (nI p) = _ ∧ _
    rw [lX1_putIn_54]
    simp (disch := omega) only [Nat.reduceAdd, Nat.reduceMul, Nat.reduceSub, l0, n1, n2, n3, n4, n5, n6, n40, n60, n240, n480, n486, n492, n498, n558, n559, n560, n561, n562, n563, n564, n565, n566, n567, n568, n574, n580, n586, n646, nI_add, nI_mul, Nat.zero_add, Nat.add_zero, ob_some, ob2_some, nI_le_, nI_lt_, nI_eq_, put_n]
    rw [if_pos (by omega)]
    have F0 : Fr (o + 2) (o + 3) w (sI w' (o + 2) (l * 40 + p) (nI d)) := F.sI (by omega) (by omega)
    have F' : Fr (o + 1) (o + 4) w (sI (sI (sI w' (o + 2) (l * 40 + p) (nI d)) (o + 3) l (nI (a (480 + l) + 1))) (o + 1) (l * 60 + d) (nI s)) := ((F0.wide (by omega) (by omega)).sI (by omega) (by omega)).sI (by omega) (by omega)
    refine ⟨_, rfl, F'.wide (by omega) (by omega), fun a' T => ?_⟩
    have I' := PT_IO T I hl hd hs1 hs hz hp ha hn
    have hsc := PT_scr T I I' hl hp
    obtain ⟨t1, t2, t3⟩ := T
    have c3 : ∀ j, (sI (sI (sI w' (o + 2) (l * 40 + p) (nI d)) (o + 3) l (nI (a (480 + l) + 1))) (o + 1) (l * 60 + d) (nI s)).1 (o + 3) j = if j = l then nI (a (480 + l) + 1) else w.1 (o + 3) j := by
      intro j
      rw [sI_1, if_neg (by omega), sI_1, if_pos rfl, upd_1, F0.1 (o + 3) (by omega)]
    have c2 : ∀ j, (sI (sI (sI w' (o + 2) (l * 40 + p) (nI d)) (o + 3) l (nI (a (480 + l) + 1))) (o + 1) (l * 60 + d) (nI s)).1 (o + 2) j = if j = l * 40 + p then nI d else w'.1 (o + 2) j := by
      intro j
      rw [sI_1, if_neg (by omega), sI_1, if_neg (by omega), sI_1, if_pos rfl, upd_1]
    have c1 : ∀ j, (sI (sI (sI w' (o + 2) (l * 40 + p) (nI d)) (o + 3) l (nI (a (480 + l) + 1))) (o + 1) (l * 60 + d) (nI s)).1 (o + 1) j = if j = l * 60 + d then nI s else w.1 (o + 1) j := by
      intro j
      rw [sI_1, if_pos rfl, upd_1, sI_1, if_neg (show ¬ o + 1 = o + 3 by omega), F0.1 (o + 1) (by omega)]
    refine OC_upd O I t2 hl F' ?_ (fun m hm hml => ?_) (fun q hq => ?_) (fun m q hm hml hq => ?_) (fun e he => ?_) (fun m e hm hml he => ?_)
    · rw [c3, if_pos rfl, t1]
    · rw [c3, if_neg hml]
    · rw [c2, (t3 q hq).1]
      by_cases hqp : q < p
      · rw [if_neg (by omega), h1 q (by omega), if_neg (by omega), O.2.1 l _ hl (by omega), if_pos hqp]
      · rw [if_neg hqp]
        by_cases hq2 : q = p
        · rw [if_pos (by omega), if_pos hq2]
        · rw [if_neg (by omega), if_neg hq2, h1 q (by omega), if_pos (by omega), O.2.1 l _ hl (by omega)]
    · rw [c2, if_neg (by omega), h2 m q hm hml hq]
    · rw [c1]
      by_cases hed : e = d
      · rw [if_pos (by omega), hed, hsc.1]
      · rw [if_neg (by omega), O.2.2.1 l e hl he, hsc.2 e hed]
    · rw [c1, if_neg (by omega)]
end CTK
