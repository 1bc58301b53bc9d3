/-! PURE PART, THE OFFICE: wanted at a place, lists with a document, deleted ones in a list -/
theorem wct_cnt (a : Nat → Nat) (d n : Nat) : wct a d n = cnt (wah a d) n := by
  induction n with
  | zero => rfl
  | succ n ih =>
    by_cases h : wah a d n
    · rw [wct_s h, cnt_s h, ih]
    · rw [wct_n h, cnt_n h, ih]
theorem wct_lt {a : Nat → Nat} {d e : Nat} (he : e < 60) (h : wah a d e) : wct a e 60 < wct a d 60 := by
  rw [wct_cnt, wct_cnt]
  refine cnt_lt he (fun z => ?_) h (fun i hi z => ⟨z.1, ?_⟩)
  · rcases z.2 with z | z <;> omega
  · rcases z.2 with z | z <;> rcases h.2 with y | y <;> first | (left; omega) | (right; omega)
theorem wct_inj {a : Nat → Nat} {d e : Nat} (hd : d < 60) (he : e < 60) (md : may a d) (me : may a e) (h : wct a d 60 = wct a e 60) : d = e := by
  by_cases hde : d = e
  · exact hde
  · have : wah a d e ∨ wah a e d := by
      by_cases h1 : val a d < val a e
      · exact Or.inl ⟨me, Or.inl h1⟩
      · by_cases h2 : val a e < val a d
        · exact Or.inr ⟨md, Or.inl h2⟩
        · by_cases h3 : e < d
          · exact Or.inl ⟨me, Or.inr ⟨by omega, h3⟩⟩
          · exact Or.inr ⟨md, Or.inr ⟨by omega, by omega⟩⟩
    rcases this with z | z
    · have := wct_lt he z; omega
    · have := wct_lt hd z; omega
/-- d is the one that is wanted at place p -/
def wat (a : Nat → Nat) (p d : Nat) : Prop := may a d ∧ wct a d 60 < a 558 ∧ wct a d 60 = p
theorem wat_inj {a : Nat → Nat} {p d e : Nat} (hd : d < 60) (he : e < 60) (h : wat a p d) (h2 : wat a p e) : d = e := wct_inj hd he h.1 h2.1 (h.2.2.trans h2.2.2.symm)
section MO3
variable {w : Wd} {a : Nat → Nat} {o : Nat}
theorem C_wantedAt (O : OC w o a) (I : IO a) {p : Nat} (hp : p < 2147483648) : (∀ d, d < 60 → wat a p d → fX1_wantedAt w o (nI p) = some (nI d)) ∧ ((∀ d, d < 60 → ¬ wat a p d) → fX1_wantedAt w o (nI p) = some (-5)) := by
  have st : ∀ n i, i < 60 → ¬ wat a p i → lX1_wantedAt_2 o (n + 1) w (nI p) (nI i) = lX1_wantedAt_2 o n w (nI p) (nI (i + 1)) := by
    intro n i hi h
    have hw := I.2.2.2.2.2.1
    have hc := wct_le a i 60
    rw [lX1_wantedAt_2]
    have hx : ∃ x, fX1_wantedPlaceOf w o (nI i) = some x ∧ x ≠ nI p := by
      by_cases hm : may a i
      · by_cases hl : wct a i 60 < a 558
        · refine ⟨_, (C_wantedPlaceOf O I hi).1 hm hl, fun z => h ⟨hm, hl, (nI_eq (by omega) (by omega)).mp z⟩⟩
        · exact ⟨_, (C_wantedPlaceOf O I hi).2.1 hm hl, fun z => nI_pos (n := p) (by omega) (by rw [← z]; decide)⟩
      · exact ⟨_, (C_wantedPlaceOf O I hi).2.2 hm, fun z => nI_pos (n := p) (by omega) (by rw [← z]; decide)⟩
    obtain ⟨x, e, hx⟩ := hx
    simp (disch := omega) only [n60, n1, nI_le_, e, ob_some, nI_add]
    rw [if_neg (by omega), if_neg hx]
  constructor
  · intro d hd hw
    have hc := wct_le a d 60
    refine loopN (fun n i => lX1_wantedAt_2 o n w (nI p) (nI i)) d _ (fun n i hi => st n i (by omega) (fun z => ?_)) (fun n => ?_) 4096 (by omega)
    · have := wat_inj (by omega) hd z hw; omega
    · show lX1_wantedAt_2 o (n + 1) w (nI p) (nI d) = _
      rw [lX1_wantedAt_2]
      have e := (C_wantedPlaceOf O I hd).1 hw.1 hw.2.1
      simp (disch := omega) only [n60, n1, nI_le_, e, ob_some, nI_add]
      rw [if_neg (by omega), if_pos (by rw [hw.2.2])]
  · intro h
    refine loopN (fun n i => lX1_wantedAt_2 o n w (nI p) (nI i)) 60 _ (fun n i hi => st n i hi (h i hi)) (fun n => ?_) 4096 (by omega)
    show lX1_wantedAt_2 o (n + 1) w (nI p) (nI 60) = _
    rw [lX1_wantedAt_2, if_pos (by decide)]
theorem M_wanted (Z : ZA (w.1 112) a) (I : IO a) {p : Nat} (hp : p < 2147483648) : (∀ d, d < 60 → wat a p d → fX6_wanted w 111 (nI p) = some (nI d)) ∧ ((∀ d, d < 60 → ¬ wat a p d) → fX6_wanted w 111 (nI p) = some (-5)) := by
  have hx : ∀ i, i < 60 → ∃ x, fX6_wantedPlace w 111 (nI i) = some x ∧ (x = nI p ↔ wat a p i) := by
    intro i hi
    have hc := wct_le a i 60
    by_cases hm : may a i
    · by_cases hl : wct a i 60 < a 558
      · refine ⟨_, (M_wantedPlace Z I hi).1 hm hl, fun z => ⟨hm, hl, (nI_eq (by omega) (by omega)).mp z⟩, fun z => by rw [z.2.2]⟩
      · exact ⟨_, (M_wantedPlace Z I hi).2.1 hm hl, fun z => absurd (show nI p < 0 by rw [← z]; decide) (nI_pos (n := p) (by omega)), fun z => absurd z.2.1 hl⟩
    · exact ⟨_, (M_wantedPlace Z I hi).2.2 hm, fun z => absurd (show nI p < 0 by rw [← z]; decide) (nI_pos (n := p) (by omega)), fun z => absurd z.1 hm⟩
  have st : ∀ n i (y : Int32), i < 60 → lX6_wanted_12 111 (n + 1) w (nI p) y (nI i) = lX6_wanted_12 111 n w (nI p) (@ite Int32 (wat a p i) (Classical.propDecidable _) (nI i) y) (nI (i + 1)) := by
    intro n i y hi
    obtain ⟨x, e, hx⟩ := hx i hi
    rw [lX6_wanted_12]
    simp (disch := omega) only [n60, n1, nI_le_, e, ob_some, nI_add]
    rw [if_neg (by omega)]
    by_cases h : wat a p i
    · rw [if_pos (hx.mpr h), if_pos h]
    · rw [if_neg (fun z => h (hx.mp z)), if_neg h]
  have en : ∀ n (y : Int32), lX6_wanted_12 111 (n + 1) w (nI p) y (nI 60) = some y := by
    intro n y
    rw [lX6_wanted_12, if_pos (by decide)]
  have h0 : fX6_wanted w 111 (nI p) = lX6_wanted_12 111 4096 w (nI p) (-5) 0 := by
    unfold fX6_wanted
    rw [if_pos (by rw [l0, nI_le_ (by omega) (by omega)]; omega)]
  constructor
  · intro d hd hw
    rw [h0]
    refine loopN (fun n i => lX6_wanted_12 111 n w (nI p) (if d < i then nI d else -5) (nI i)) 60 _ (fun n i hi => ?_) (fun n => ?_) 4096 (by omega)
    · show lX6_wanted_12 111 (n + 1) w (nI p) _ (nI i) = _
      rw [st n i _ hi]
      by_cases h : wat a p i
      · have := wat_inj hi hd h hw
        subst this
        rw [if_pos h, if_pos (show i < i + 1 by omega)]
      · rw [if_neg h]
        have hne : i ≠ d := fun z => h (z ▸ hw)
        by_cases hdi : d < i
        · rw [if_pos hdi, if_pos (show d < i + 1 by omega)]
        · rw [if_neg hdi, if_neg (show ¬ d < i + 1 by omega)]
    · show lX6_wanted_12 111 (n + 1) w (nI p) _ (nI 60) = _
      rw [en, if_pos hd]
  · intro h
    rw [h0]
    refine loopN (fun n i => lX6_wanted_12 111 n w (nI p) (-5) (nI i)) 60 _ (fun n i hi => ?_) (fun n => en n _) 4096 (by omega)
    show lX6_wanted_12 111 (n + 1) w (nI p) _ (nI i) = _
    rw [st n i _ hi, if_neg (h i hi)]
/-- the list has the document -/
def has (a : Nat → Nat) (d l : Nat) : Prop := 0 < scr a l d
theorem C_listsWith (O : OC w o a) (I : IO a) {d : Nat} (hd : d < 60) : fX1_listsWith w o (nI d) = some (nI (bs (has a d) 6)) := by
  refine loopN (fun n i => lX1_listsWith_4 o n w (nI d) (nI (bs (has a d) i)) (nI i)) 6 _ (fun n i hi => ?_) (fun n => ?_) 4096 (by omega)
  · show lX1_listsWith_4 o (n + 1) w (nI d) _ (nI i) = _
    have hs := scr_le I (d := d) hi
    have hb := bs_lt (has a d) i (by omega)
    have e : nI (scr a i d) ≤ 0 ↔ scr a i d ≤ 0 := nI_leI (by omega) (b := 0) (by omega)
    rw [lX1_listsWith_4]
    simp (disch := omega) only [n6, nI_le_, C_scoreOf O, ob_some, oneIf_0, oneIf_1]
    rw [if_neg (by omega)]
    by_cases h : has a d i
    · rw [if_neg (fun z => by have := e.mp z; unfold has at h; omega), bs_y h, sb_or _ hb i hi, n1, nI_add]
    · rw [if_pos (e.mpr (by unfold has at h; omega)), bs_n h, sb_sh0 i hi, sb_or0, n1, nI_add]
  · show lX1_listsWith_4 o (n + 1) w (nI d) _ (nI 6) = _
    rw [lX1_listsWith_4, if_pos (by decide)]
theorem M_listsOf (Z : ZA (w.1 112) a) (I : IO a) {d : Nat} (hd : d < 60) : fX6_listsOf w 111 (nI d) = some (nI (bs (has a d) 6)) := by
  refine loopN (fun n i => lX6_listsOf_4 111 n w (nI d) (nI (bs (has a d) i)) (nI i)) 6 _ (fun n i hi => ?_) (fun n => ?_) 4096 (by omega)
  · show lX6_listsOf_4 111 (n + 1) w (nI d) _ (nI i) = _
    have hs := (I.1 i hi).1
    have hb := bs_lt (has a d) i (by omega)
    rw [lX6_listsOf_4]
    simp (disch := omega) only [n6, nI_le_, M_placeOf Z I, ob_some]
    rw [if_neg (by omega)]
    rcases pl_cases I (d := d) hi with ⟨p, hp, -, e1, e2⟩ | ⟨-, e1, e2⟩
    · have h : has a d i := by
        unfold has
        rw [e2]
        exact (I.2.1 i p hi hp).2.1
      rw [e1, if_neg (nI_pos (by omega)), bs_y h, sb_or _ hb i hi, n1, nI_add]
    · have h : ¬ has a d i := by unfold has; omega
      rw [e1, if_pos (by decide), bs_n h, sb_or0, n1, nI_add]
  · show lX6_listsOf_4 111 (n + 1) w (nI d) _ (nI 6) = _
    rw [lX6_listsOf_4, if_pos (by decide)]
theorem C_deletedIn (O : OC w o a) (I : IO a) {l : Nat} (hl : l < 6) : fX1_deletedIn w o (nI l) = some (nI (din a l)) := by
  have hs := (I.1 l hl).1
  unfold fX1_deletedIn
  rw [at_n hl (by decide), O.1 l hl, ob_some]
  refine loopN (fun n i => lX1_deletedIn_14 o n w (nI l) (nI (sm (fun p => a (498 + a (40 * l + p))) i)) (nI (a (480 + l))) (nI i)) (a (480 + l)) _ (fun n i hi => ?_) (fun n => ?_) 4096 (by omega)
  · show lX1_deletedIn_14 o (n + 1) w (nI l) _ _ (nI i) = _
    have h2 := I.2.1 l i hl hi
    have h3 := I.2.2.2.2.1 _ h2.1
    have e : fX5_oneIf w (nI (a (498 + a (40 * l + i)))) = some (nI (a (498 + a (40 * l + i)))) := by
      obtain h0 | h0 : a (498 + a (40 * l + i)) = 0 ∨ a (498 + a (40 * l + i)) = 1 := by omega
      · rw [h0]; rfl
      · rw [h0]; rfl
    rw [lX1_deletedIn_14]
    simp (disch := omega) only [Nat.reduceAdd, Nat.reduceMul, Nat.reduceSub, l0, n1, n2, n3, n4, n5, n6, n40, n60, n240, n480, n486, n492, n498, n558, n559, n560, n561, n562, n563, n564, n565, n566, n567, n568, n574, n580, n586, n646, nI_add, nI_mul, Nat.zero_add, Nat.add_zero, ob_some, ob2_some, nI_le_, nI_lt_, nI_eq_, C_documentAt O I, C_isDeleted O I, e]
    rw [if_neg (by omega), sm]
  · show lX1_deletedIn_14 o (n + 1) w (nI l) _ _ (nI (a (480 + l))) = _
    rw [lX1_deletedIn_14]
    simp (disch := omega) only [Nat.reduceAdd, Nat.reduceMul, Nat.reduceSub, l0, n1, n2, n3, n4, n5, n6, n40, n60, n240, n480, n486, n492, n498, n558, n559, n560, n561, n562, n563, n564, n565, n566, n567, n568, n574, n580, n586, n646, nI_add, nI_mul, Nat.zero_add, Nat.add_zero, ob_some, ob2_some, nI_le_, nI_lt_, nI_eq_]
    rw [if_pos (by omega), din]
theorem M_list_99 (Z : ZA (w.1 112) a) (I : IO a) {l : Nat} (hl : l < 6) : lX6_list_99 111 4096 w (nI l) 0 0 = some (nI (din a l)) := by
  have hs := (I.1 l hl).1
  refine loopN (fun n i => lX6_list_99 111 n w (nI l) (nI (sm (fun p => a (498 + a (40 * l + p))) i)) (nI i)) (a (480 + l)) _ (fun n i hi => ?_) (fun n => ?_) 4096 (by omega)
  · show lX6_list_99 111 (n + 1) w (nI l) _ (nI i) = _
    have h2 := I.2.1 l i hl hi
    rw [lX6_list_99]
    simp (disch := omega) only [Nat.reduceAdd, Nat.reduceMul, Nat.reduceSub, l0, n1, n2, n3, n4, n5, n6, n40, n60, n240, n480, n486, n492, n498, n558, n559, n560, n561, n562, n563, n564, n565, n566, n567, n568, n574, n580, n586, n646, nI_add, nI_mul, Nat.zero_add, Nat.add_zero, ob_some, ob2_some, nI_le_, nI_lt_, nI_eq_, zl Z]
    rw [if_neg (by omega), sm]
  · show lX6_list_99 111 (n + 1) w (nI l) _ (nI (a (480 + l))) = _
    rw [lX6_list_99]
    simp (disch := omega) only [Nat.reduceAdd, Nat.reduceMul, Nat.reduceSub, l0, n1, n2, n3, n4, n5, n6, n40, n60, n240, n480, n486, n492, n498, n558, n559, n560, n561, n562, n563, n564, n565, n566, n567, n568, n574, n580, n586, n646, nI_add, nI_mul, Nat.zero_add, Nat.add_zero, ob_some, ob2_some, nI_le_, nI_lt_, nI_eq_, zl Z]
    rw [if_pos (by omega), din]
def gct (a : Nat → Nat) : Nat := sm (fun d => a (498 + d)) 60
theorem M_count_87 (Z : ZA (w.1 112) a) : lX6_count_87 111 4096 w 0 0 = some (nI (gct a)) := by
  refine loopN (fun n i => lX6_count_87 111 n w (nI (sm (fun d => a (498 + d)) i)) (nI i)) 60 _ (fun n i hi => ?_) (fun n => ?_) 4096 (by omega)
  · show lX6_count_87 111 (n + 1) w _ (nI i) = _
    rw [lX6_count_87]
    simp (disch := omega) only [Nat.reduceAdd, Nat.reduceMul, Nat.reduceSub, l0, n1, n2, n3, n4, n5, n6, n40, n60, n240, n480, n486, n492, n498, n558, n559, n560, n561, n562, n563, n564, n565, n566, n567, n568, n574, n580, n586, n646, nI_add, nI_mul, Nat.zero_add, Nat.add_zero, ob_some, ob2_some, nI_le_, nI_lt_, nI_eq_, zl Z]
    rw [if_neg (by omega), sm]
  · show lX6_count_87 111 (n + 1) w _ (nI 60) = _
    rw [lX6_count_87, if_pos (by decide), gct]
end MO3
