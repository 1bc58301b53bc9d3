/-! PURE PART: what the reference reads of a reading -/
theorem fpl_f {a f : Nat → Nat} {m p : Nat} (F : FR a f m) (hp : p < m) : fpl a (f p) = p := by
  obtain ⟨F1, F2, F3, F4⟩ := F
  have asym : ∀ q r, ahd a q r → ahd a r q → False := by
    intro q r h1 h2
    unfold ahd at h1 h2
    omega
  have e : fpl a (f p) = cnt (fun d => ∃ q, q < p ∧ f q = d) 60 := by
    refine cnt_cong (fun d hd => ⟨?_, ?_⟩)
    · rintro ⟨h1, h2⟩
      obtain ⟨q, hq, rfl⟩ := F4 d hd h1
      refine ⟨q, ?_, rfl⟩
      apply Decidable.byContradiction
      intro hc
      by_cases hqp : q = p
      · subst hqp; exact asym _ _ h2 h2
      · exact asym _ _ h2 (F3 p q (by omega) hq)
    · rintro ⟨q, hq, rfl⟩
      exact ⟨(F2 q (by omega)).2, F3 q p hq hp⟩
  rw [e]
  refine cnt_row (fun q hq => (F2 q (by omega)).1) (fun q r hqr hr z => ?_)
  have := F3 q r hqr (by omega)
  rw [z] at this
  exact asym _ _ this this
theorem FR_m {a f : Nat → Nat} {m : Nat} (F : FR a f m) : smany a = m := by
  obtain ⟨F1, F2, F3, F4⟩ := F
  have e : smany a = cnt (fun d => ∃ q, q < m ∧ f q = d) 60 := by
    refine cnt_cong (fun d hd => ⟨fun h => F4 d hd h, ?_⟩)
    rintro ⟨q, hq, rfl⟩
    exact (F2 q hq).2
  rw [e]
  refine cnt_row (fun q hq => (F2 q hq).1) (fun q r hqr hr z => ?_)
  have := F3 q r hqr hr
  rw [z] at this
  unfold ahd at this
  omega
theorem FR_inj {a f : Nat → Nat} {m p q : Nat} (F : FR a f m) (hp : p < m) (hq : q < m) (h : f p = f q) : p = q := by rw [← fpl_f F hp, ← fpl_f F hq, h]
theorem ov_iff {a f : Nat → Nat} {m : Nat} (F : FR a f m) (I : IO a) (hc : ∃ l, l < 6 ∧ canr a l) : ov a ↔ a 558 ≤ m ∧ wbd a < lowk a (f (a 558 - 1)) ∧ ∀ d, d < 60 → sn a d → a 558 ≤ fpl a d → high a d < lowk a (f (a 558 - 1)) ∨ (high a d = lowk a (f (a 558 - 1)) ∧ f (a 558 - 1) < d) := by
  have hw := I.2.2.2.2.2.1
  have hm := FR_m F
  constructor
  · rintro (h | ⟨h1, t, h2, h3, h4, h5, h6⟩)
    · obtain ⟨l, hl, hcl⟩ := hc
      exact absurd hcl (h l hl)
    · rw [hm] at h1
      obtain ⟨q, hq, rfl⟩ := F.2.2.2 t h2 h3
      rw [fpl_f F hq] at h4
      have : a 558 - 1 = q := by omega
      rw [this]
      exact ⟨h1, h5, h6⟩
  · rintro ⟨h1, h2, h3⟩
    right
    refine ⟨by rw [hm]; exact h1, f (a 558 - 1), (F.2.1 _ (by omega)).1, (F.2.1 _ (by omega)).2, ?_, h2, h3⟩
    rw [fpl_f F (by omega)]
    omega
def LW (w : Wd) (a : Nat → Nat) : Prop := ∀ d, d < 60 → w.1 116 d = nI (lowk a d)
section MR
variable {w : Wd} {a f : Nat → Nat} {m : Nat}
theorem bd_le (I : IO a) {l : Nat} (hl : l < 6) : bd a l ≤ 999 := by
  unfold bd
  split
  · exact (I.2.1 l _ hl (by assumption)).2.2
  · omega
theorem tb_le (I : IO a) {l : Nat} (hl : l < 6) : tb a l ≤ 999 := by
  have := bd_le I hl
  unfold tb
  split <;> omega
theorem wtb_le (I : IO a) {l : Nat} (hl : l < 6) : a (486 + l) * tb a l ≤ 9000 := by
  have h1 := (I.1 l hl).2.1
  have h2 := tb_le I hl
  calc a (486 + l) * tb a l ≤ 9 * 999 := Nat.mul_le_mul h1 h2
    _ ≤ 9000 := by omega
theorem wsc_le (I : IO a) {l : Nat} (d : Nat) (hl : l < 6) : a (486 + l) * scr a l d ≤ 9000 := by
  have h1 := (I.1 l hl).2.1
  have h2 := scr_le I (d := d) hl
  calc a (486 + l) * scr a l d ≤ 9 * 999 := Nat.mul_le_mul h1 h2
    _ ≤ 9000 := by omega
theorem lowk_le (I : IO a) (d : Nat) : lowk a d ≤ 54000 := by
  have : lowk a d ≤ 6 * 9000 := sm_le (fun l hl => by
    have := wsc_le I d hl
    split <;> omega)
  omega
theorem wbd_le (I : IO a) : wbd a ≤ 54000 := by
  have : wbd a ≤ 6 * 9000 := sm_le (fun l hl => wtb_le I hl)
  omega
theorem high_le (I : IO a) (d : Nat) : high a d ≤ 108000 := by
  have h1 := lowk_le I d
  have : sm (fun l => if (a (646 + d)).testBit l = true then 0 else a (486 + l) * tb a l) 6 ≤ 6 * 9000 := sm_le (fun l hl => by
    have := wtb_le I hl
    split <;> omega)
  unfold high
  omega
theorem M_left (Z : ZA (w.1 112) a) (J : IR0 a) {l : Nat} (hl : l < 6) : fX6_left w 111 (nI l) = some (nI (a (480 + l) - a (568 + l))) := by
  have h1 := (J.1 l hl).1
  unfold fX6_left
  simp (disch := omega) only [Nat.reduceAdd, Nat.reduceMul, Nat.reduceSub, l0, n1, n2, n3, n4, n5, n6, n40, n60, n240, n480, n486, n492, n498, n558, n559, n560, n561, n562, n563, n564, n565, n566, n567, n568, n574, n580, n586, n646, nI_add, nI_mul, Nat.zero_add, Nat.add_zero, ob_some, ob2_some, nI_le_, nI_lt_, nI_eq_, zl Z]
  rw [nI_sub h1]
theorem M_bound (Z : ZA (w.1 112) a) (I : IO a) (J : IR0 a) {l : Nat} (hl : l < 6) : fX6_bound w 111 (nI l) = some (nI (bd a l)) := by
  have h1 := (J.1 l hl).1
  have h2 := (I.1 l hl).1
  unfold fX6_bound
  rw [M_left Z J hl]
  simp (disch := omega) only [Nat.reduceAdd, Nat.reduceMul, Nat.reduceSub, l0, n1, n2, n3, n4, n5, n6, n40, n60, n240, n480, n486, n492, n498, n558, n559, n560, n561, n562, n563, n564, n565, n566, n567, n568, n574, n580, n586, n646, nI_add, nI_mul, Nat.zero_add, Nat.add_zero, ob_some, ob2_some, nI_le_, nI_lt_, nI_eq_, zl Z]
  unfold bd
  by_cases h : a (568 + l) < a (480 + l)
  · rw [if_neg (by omega), if_pos h]
  · rw [if_pos (by omega), if_neg h]
theorem M_tb (Z : ZA (w.1 112) a) (I : IO a) (J : IR0 a) {l : Nat} (hl : l < 6) : fX6_toldBound w 111 (nI l) = some (nI (tb a l)) := by
  have h1 := (J.1 l hl).2
  have h2 := bd_le I hl
  have h3 := (I.1 l hl).2.2
  unfold fX6_toldBound
  rw [M_bound Z I J hl]
  simp (disch := omega) only [Nat.reduceAdd, Nat.reduceMul, Nat.reduceSub, l0, n1, n2, n3, n4, n5, n6, n40, n60, n240, n480, n486, n492, n498, n558, n559, n560, n561, n562, n563, n564, n565, n566, n567, n568, n574, n580, n586, n646, nI_add, nI_mul, Nat.zero_add, Nat.add_zero, ob_some, ob2_some, nI_le_, nI_lt_, nI_eq_, zl Z]
  unfold tb
  by_cases h : a (492 + l) ≤ bd a l
  · rw [if_pos h]
    by_cases hc : a (574 + l) = 1
    · rw [if_pos hc, if_pos hc]
    · rw [if_neg hc, if_neg hc, nI_sub h]
  · rw [if_neg h]
    by_cases hc : a (574 + l) = 1
    · rw [if_pos hc, if_pos hc]
    · rw [if_neg hc, if_neg hc, show bd a l - a (492 + l) = 0 by omega]
theorem M_wbd (Z : ZA (w.1 112) a) (I : IO a) (J : IR0 a) : fX6_boundsTogether w 111 = some (nI (wbd a)) := by
  refine loopN (fun n i => lX6_boundsTogether_4 111 n w (nI (sm (fun l => a (486 + l) * tb a l) i)) (nI i)) 6 _ (fun n i hi => ?_) (fun n => ?_) 4096 (by omega)
  · show lX6_boundsTogether_4 111 (n + 1) w _ (nI i) = _
    rw [lX6_boundsTogether_4]
    simp (disch := omega) only [Nat.reduceAdd, Nat.reduceMul, Nat.reduceSub, l0, n1, n2, n3, n4, n5, n6, n40, n60, n240, n480, n486, n492, n498, n558, n559, n560, n561, n562, n563, n564, n565, n566, n567, n568, n574, n580, n586, n646, nI_add, nI_mul, Nat.zero_add, Nat.add_zero, ob_some, ob2_some, nI_le_, nI_lt_, nI_eq_, zl Z, M_tb Z I J]
    rw [if_neg (by omega), sm]
  · show lX6_boundsTogether_4 111 (n + 1) w _ (nI 6) = _
    rw [lX6_boundsTogether_4, if_pos (by decide), wbd]
theorem M_canr (Z : ZA (w.1 112) a) (I : IO a) (J : IR0 a) {l : Nat} (hl : l < 6) : fX6_canBeRead w 111 (nI l) = some (@ite Int32 (canr a l) (Classical.propDecidable _) 1 0) := by
  have h1 := (J.1 l hl).1
  have h2 := (I.1 l hl).1
  unfold fX6_canBeRead
  rw [M_isAsked Z I hl, ob_some]
  by_cases h : 0 < a (486 + l)
  · rw [if_pos h, if_neg (by decide), M_left Z J hl, ob_some]
    by_cases h3 : a (568 + l) < a (480 + l)
    · rw [if_neg (by rw [l0, nI_le_ (by omega) (by omega)]; omega), if_pos (show canr a l from ⟨h, h3⟩)]; rfl
    · rw [if_pos (by rw [l0, nI_le_ (by omega) (by omega)]; omega), if_neg (show ¬ canr a l from fun z => h3 z.2)]; rfl
  · rw [if_neg h, if_pos rfl, if_neg (show ¬ canr a l from fun z => h z.1)]; rfl
theorem sn_lt (J : IR0 a) (I : IO a) {d : Nat} (hd : d < 60) : a (586 + d) ≤ 240 := by
  have h1 := J.2.2.2.2.2.2.2.2.2.2 d hd
  have h2 := J.2.2.2.2.2.2.1
  have h3 : sm (fun l => a (568 + l)) 6 ≤ 6 * 40 := sm_le (fun l hl => by
    have := (J.1 l hl).1
    have := (I.1 l hl).1
    omega)
  omega
theorem M_isSeen (Z : ZA (w.1 112) a) (I : IO a) (J : IR0 a) {d : Nat} (hd : d < 60) : fX6_isSeen w 111 (nI d) = some (@ite Int32 (sn a d) (Classical.propDecidable _) 1 0) := by
  have h1 := sn_lt J I hd
  unfold fX6_isSeen
  simp (disch := omega) only [Nat.reduceAdd, Nat.reduceMul, Nat.reduceSub, l0, n1, n2, n3, n4, n5, n6, n40, n60, n240, n480, n486, n492, n498, n558, n559, n560, n561, n562, n563, n564, n565, n566, n567, n568, n574, n580, n586, n646, nI_add, nI_mul, Nat.zero_add, Nat.add_zero, ob_some, ob2_some, nI_le_, nI_lt_, nI_eq_, zl Z]
  by_cases h : sn a d
  · rw [if_neg (by unfold sn at h; omega), if_pos h]; rfl
  · rw [if_pos (by unfold sn at h; omega), if_neg h]; rfl
theorem M_smany (Z : ZA (w.1 112) a) (I : IO a) (J : IR0 a) : fX6_seenMany w 111 = some (nI (smany a)) := by
  refine loopN (fun n i => lX6_seenMany_4 111 n w (nI (cnt (sn a) i)) (nI i)) 60 _ (fun n i hi => ?_) (fun n => ?_) 4096 (by omega)
  · show lX6_seenMany_4 111 (n + 1) w _ (nI i) = _
    rw [lX6_seenMany_4, M_isSeen Z I J hi, ob_some]
    by_cases h : sn a i
    · rw [if_pos h]
      simp (disch := omega) only [Nat.reduceAdd, Nat.reduceMul, Nat.reduceSub, l0, n1, n2, n3, n4, n5, n6, n40, n60, n240, n480, n486, n492, n498, n558, n559, n560, n561, n562, n563, n564, n565, n566, n567, n568, n574, n580, n586, n646, nI_add, nI_mul, Nat.zero_add, Nat.add_zero, ob_some, ob2_some, nI_le_, nI_lt_, nI_eq_]
      rw [if_neg (by omega), if_neg (by decide), cnt_s h]
    · rw [if_neg h]
      simp (disch := omega) only [Nat.reduceAdd, Nat.reduceMul, Nat.reduceSub, l0, n1, n2, n3, n4, n5, n6, n40, n60, n240, n480, n486, n492, n498, n558, n559, n560, n561, n562, n563, n564, n565, n566, n567, n568, n574, n580, n586, n646, nI_add, nI_mul, Nat.zero_add, Nat.add_zero, ob_some, ob2_some, nI_le_, nI_lt_, nI_eq_]
      rw [if_neg (by omega), if_pos (by decide), cnt_n h]
  · show lX6_seenMany_4 111 (n + 1) w _ (nI 60) = _
    rw [lX6_seenMany_4, if_pos (by decide), smany]
theorem M_isKnown (Z : ZA (w.1 112) a) (I : IO a) (J : IR0 a) {l d : Nat} (hl : l < 6) (hd : d < 60) : fX6_isKnown w 111 (nI l) (nI d) = some (if a (480 + l) - a (568 + l) = 0 ∨ (a (646 + d)).testBit l = true then 1 else 0) := by
  have h2 := (I.1 l hl).1
  have h3 := J.2.1 d hd
  unfold fX6_isKnown
  rw [M_left Z J hl, ob_some]
  by_cases h : a (480 + l) - a (568 + l) = 0
  · rw [h, if_pos (by decide), if_pos (Or.inl rfl)]; rfl
  · rw [if_neg (by rw [l0, nI_eq_ (by omega) (by omega)]; exact h), n646, nI_add, zl Z (by omega) (by omega), ob_some, sb_tst _ h3 l hl]
    by_cases hb : (a (646 + d)).testBit l = true
    · rw [if_pos hb, if_pos (Or.inr hb)]; rfl
    · have hk : ¬ (a (480 + l) - a (568 + l) = 0 ∨ (a (646 + d)).testBit l = true) := by
        rintro (z | z)
        · exact h z
        · exact hb z
      rw [if_neg hb, if_neg hk]; rfl
/-- a score that counts -/
theorem low_term (I : IO a) (J : IR0 a) {l d : Nat} (hl : l < 6) (hd : d < 60) (hg : a (498 + d) = 0) : (0 < a (486 + l) → (a (480 + l) - a (568 + l) = 0 ∨ (a (646 + d)).testBit l = true) → (if (a (646 + d)).testBit l = true then a (486 + l) * scr a l d else 0) = a (486 + l) * scr a l d) ∧ (¬ (0 < a (486 + l) ∧ (a (480 + l) - a (568 + l) = 0 ∨ (a (646 + d)).testBit l = true)) → (if (a (646 + d)).testBit l = true then a (486 + l) * scr a l d else 0) = 0) := by
  refine ⟨fun h1 h2 => ?_, fun h => ?_⟩
  · by_cases hb : (a (646 + d)).testBit l = true
    · rw [if_pos hb]
    · rw [if_neg hb]
      have h3 : a (480 + l) - a (568 + l) = 0 := by
        rcases h2 with z | z
        · exact z
        · exact absurd z hb
      rw [scr_none (fun p hp e => ?_), Nat.mul_zero]
      apply hb
      have := J.2.2.2.2.2.1 l p hl (by omega) (by rw [e]; exact hg)
      rw [e] at this
      exact this
  · by_cases hb : (a (646 + d)).testBit l = true
    · exact absurd ⟨J.2.2.1 d l hd hl hb, Or.inr hb⟩ h
    · rw [if_neg hb]
theorem M_low (Z : ZA (w.1 112) a) (I : IO a) (J : IR0 a) {d : Nat} (hd : d < 60) (hg : a (498 + d) = 0) : fX6_low w 111 (nI d) = some (nI (lowk a d)) := by
  refine loopN (fun n i => lX6_low_4 111 n w (nI d) (nI (sm (fun l => if (a (646 + d)).testBit l = true then a (486 + l) * scr a l d else 0) i)) (nI i)) 6 _ (fun n i hi => ?_) (fun n => ?_) 4096 (by omega)
  · show lX6_low_4 111 (n + 1) w (nI d) _ (nI i) = _
    have ht := low_term I J hi hd hg
    rw [lX6_low_4, M_isAsked Z I hi, ob_some, sm]
    by_cases h : 0 < a (486 + i)
    · rw [if_pos h, if_neg (show ¬ (1 : Int32) = 0 by decide), M_isKnown Z I J hi hd, ob_some]
      by_cases hk : a (480 + i) - a (568 + i) = 0 ∨ (a (646 + d)).testBit i = true
      · rw [if_pos hk, if_neg (show ¬ (1 : Int32) = 0 by decide)]
        simp (disch := omega) only [Nat.reduceAdd, Nat.reduceMul, Nat.reduceSub, l0, n1, n2, n3, n4, n5, n6, n40, n60, n240, n480, n486, n492, n498, n558, n559, n560, n561, n562, n563, n564, n565, n566, n567, n568, n574, n580, n586, n646, nI_add, nI_mul, Nat.zero_add, Nat.add_zero, ob_some, ob2_some, nI_le_, nI_lt_, nI_eq_, zl Z, M_scoreOf Z I]
        rw [if_neg (by omega), ht.1 h hk]
      · rw [if_neg hk, if_pos (show (0 : Int32) = 0 from rfl), ht.2 (fun z => hk z.2)]
        simp (disch := omega) only [Nat.reduceAdd, Nat.reduceMul, Nat.reduceSub, l0, n1, n2, n3, n4, n5, n6, n40, n60, n240, n480, n486, n492, n498, n558, n559, n560, n561, n562, n563, n564, n565, n566, n567, n568, n574, n580, n586, n646, nI_add, nI_mul, Nat.zero_add, Nat.add_zero, ob_some, ob2_some, nI_le_, nI_lt_, nI_eq_]
        rw [if_neg (by omega)]
    · rw [if_neg h, if_pos (show (0 : Int32) = 0 from rfl), ht.2 (fun z => h z.1)]
      simp (disch := omega) only [Nat.reduceAdd, Nat.reduceMul, Nat.reduceSub, l0, n1, n2, n3, n4, n5, n6, n40, n60, n240, n480, n486, n492, n498, n558, n559, n560, n561, n562, n563, n564, n565, n566, n567, n568, n574, n580, n586, n646, nI_add, nI_mul, Nat.zero_add, Nat.add_zero, ob_some, ob2_some, nI_le_, nI_lt_, nI_eq_]
      rw [if_neg (by omega)]
  · show lX6_low_4 111 (n + 1) w (nI d) _ (nI 6) = _
    rw [lX6_low_4, if_pos (by decide), lowk]
theorem M_reckon (Z : ZA (w.1 112) a) (I : IO a) (J : IR0 a) : ∃ w', fX6_reckon w 111 = some w' ∧ Fr 116 117 w w' ∧ LW w' a := by
  refine loopI (fun n w' i => lX6_reckon_2 111 n w' (nI i)) (fun i w' => Fr 116 117 w w' ∧ ∀ d, d < i → w'.1 116 d = nI (lowk a d)) 0 60 (by omega) (fun q => ∃ w', q = some w' ∧ Fr 116 117 w w' ∧ LW w' a) (fun n i w' hi hi2 hI => ?_) (fun n w' hI => ?_) 4096 w (by omega) ⟨Fr.rfl', fun d hd => by omega⟩
  · obtain ⟨F, c⟩ := hI
    have Z' : ZA (w'.1 112) a := by rw [F.1 112 (by omega)]; exact Z
    refine ⟨sI w' 116 i (nI (lowk a i)), ⟨F.sI (by omega) (by omega), fun d hd => ?_⟩, ?_⟩
    · rw [sI_1, if_pos rfl, upd_1]
      by_cases h1 : d = i
      · rw [if_pos h1, h1]
      · rw [if_neg h1]; exact c d (by omega)
    · show lX6_reckon_2 111 (n + 1) w' (nI i) = _
      rw [lX6_reckon_2, M_isSeen Z' I J hi2, ob_some]
      by_cases h : sn a i
      · rw [if_pos h, if_neg (show ¬ (1 : Int32) = 0 by decide), M_low Z' I J hi2 (J.2.2.2.2.1 i hi2 h), ob_some, stI_n hi2 (by omega)]
        simp (disch := omega) only [Nat.reduceAdd, Nat.reduceMul, Nat.reduceSub, l0, n1, n2, n3, n4, n5, n6, n40, n60, n240, n480, n486, n492, n498, n558, n559, n560, n561, n562, n563, n564, n565, n566, n567, n568, n574, n580, n586, n646, nI_add, nI_mul, Nat.zero_add, Nat.add_zero, ob_some, ob2_some, nI_le_, nI_lt_, nI_eq_]
        rw [if_neg (by omega)]
      · rw [if_neg h, if_pos (show (0 : Int32) = 0 from rfl), stI_n hi2 (by omega)]
        have h0 : a (646 + i) = 0 := Classical.byContradiction fun z => h ((J.2.2.2.1 i hi2).mpr z)
        have h1 : lowk a i = 0 := sm_zero (fun l hl => by rw [h0, if_neg (by simp)])
        rw [h1]
        simp (disch := omega) only [Nat.reduceAdd, Nat.reduceMul, Nat.reduceSub, l0, n1, n2, n3, n4, n5, n6, n40, n60, n240, n480, n486, n492, n498, n558, n559, n560, n561, n562, n563, n564, n565, n566, n567, n568, n574, n580, n586, n646, nI_add, nI_mul, Nat.zero_add, Nat.add_zero, ob_some, ob2_some, nI_le_, nI_lt_, nI_eq_]
        rw [if_neg (by omega)]
  · obtain ⟨F, c⟩ := hI
    refine ⟨w', ?_, F, c⟩
    show lX6_reckon_2 111 (n + 1) w' (nI 60) = _
    rw [lX6_reckon_2, if_pos (by decide)]
theorem M_high (Z : ZA (w.1 112) a) (I : IO a) (J : IR0 a) (L : LW w a) {d : Nat} (hd : d < 60) : fX6_high w 111 (nI d) = some (nI (high a d)) := by
  have hs : ∀ i, i ≤ 6 → sm (fun l => if (a (646 + d)).testBit l = true then 0 else a (486 + l) * tb a l) i ≤ 6 * 9000 := fun i hi => Nat.le_trans (sm_mono hi) (sm_le (fun l hl => by
    have := wtb_le I hl
    split <;> omega))
  unfold fX6_high
  rw [ldI_n hd (by omega), L d hd, ob_some]
  refine loopN (fun n i => lX6_high_9 111 n w (nI d) (nI (lowk a d + sm (fun l => if (a (646 + d)).testBit l = true then 0 else a (486 + l) * tb a l) i)) (nI i)) 6 _ (fun n i hi => ?_) (fun n => ?_) 4096 (by omega)
  · show lX6_high_9 111 (n + 1) w (nI d) _ (nI i) = _
    rw [lX6_high_9, M_isAsked Z I hi, ob_some, sm]
    by_cases h : 0 < a (486 + i)
    · rw [if_pos h, if_neg (show ¬ (1 : Int32) = 0 by decide), M_isKnown Z I J hi hd, ob_some]
      by_cases hb : (a (646 + d)).testBit i = true
      · rw [if_pos (Or.inr hb), if_neg (show ¬ (1 : Int32) = 0 by decide), if_pos hb]
        simp (disch := omega) only [Nat.reduceAdd, Nat.reduceMul, Nat.reduceSub, l0, n1, n2, n3, n4, n5, n6, n40, n60, n240, n480, n486, n492, n498, n558, n559, n560, n561, n562, n563, n564, n565, n566, n567, n568, n574, n580, n586, n646, nI_add, nI_mul, Nat.zero_add, Nat.add_zero, ob_some, ob2_some, nI_le_, nI_lt_, nI_eq_]
        rw [if_neg (by omega)]
      · rw [if_neg hb]
        by_cases hz : a (480 + i) - a (568 + i) = 0
        · have ht : tb a i = 0 := by
            have : bd a i = 0 := by unfold bd; rw [if_neg (by omega)]
            unfold tb
            rw [this]
            split <;> omega
          rw [if_pos (Or.inl hz), if_neg (show ¬ (1 : Int32) = 0 by decide), ht, Nat.mul_zero]
          simp (disch := omega) only [Nat.reduceAdd, Nat.reduceMul, Nat.reduceSub, l0, n1, n2, n3, n4, n5, n6, n40, n60, n240, n480, n486, n492, n498, n558, n559, n560, n561, n562, n563, n564, n565, n566, n567, n568, n574, n580, n586, n646, nI_add, nI_mul, Nat.zero_add, Nat.add_zero, ob_some, ob2_some, nI_le_, nI_lt_, nI_eq_]
          rw [if_neg (by omega)]
        · have hk : ¬ (a (480 + i) - a (568 + i) = 0 ∨ (a (646 + d)).testBit i = true) := by
            rintro (z | z)
            · exact hz z
            · exact hb z
          rw [if_neg hk, if_pos (show (0 : Int32) = 0 from rfl)]
          simp (disch := omega) only [Nat.reduceAdd, Nat.reduceMul, Nat.reduceSub, l0, n1, n2, n3, n4, n5, n6, n40, n60, n240, n480, n486, n492, n498, n558, n559, n560, n561, n562, n563, n564, n565, n566, n567, n568, n574, n580, n586, n646, nI_add, nI_mul, Nat.zero_add, Nat.add_zero, ob_some, ob2_some, nI_le_, nI_lt_, nI_eq_, zl Z, M_tb Z I J]
          rw [if_neg (by omega), Nat.add_assoc]
    · have h0 : a (486 + i) = 0 := by omega
      rw [if_neg h, if_pos (show (0 : Int32) = 0 from rfl), h0, Nat.zero_mul]
      simp (disch := omega) only [Nat.reduceAdd, Nat.reduceMul, Nat.reduceSub, l0, n1, n2, n3, n4, n5, n6, n40, n60, n240, n480, n486, n492, n498, n558, n559, n560, n561, n562, n563, n564, n565, n566, n567, n568, n574, n580, n586, n646, nI_add, nI_mul, Nat.zero_add, Nat.add_zero, ob_some, ob2_some, nI_le_, nI_lt_, nI_eq_]
      rw [if_neg (by omega), show (if (a (646 + d)).testBit i = true then 0 else 0) = 0 by split <;> rfl]
      rfl
  · show lX6_high_9 111 (n + 1) w (nI d) _ (nI 6) = _
    rw [lX6_high_9, if_pos (by decide), high]
theorem M_fpl (Z : ZA (w.1 112) a) (I : IO a) (J : IR0 a) (L : LW w a) {d : Nat} (hd : d < 60) : fX6_frontPlace w 111 (nI d) = some (nI (fpl a d)) := by
  unfold fX6_frontPlace
  rw [ldI_n hd (by omega), L d hd, ob_some]
  refine loopN (fun n i => lX6_frontPlace_12 111 n w (nI d) (nI (lowk a d)) (nI (cnt (fun e => sn a e ∧ ahd a d e) i)) (nI i)) 60 _ (fun n i hi => ?_) (fun n => ?_) 4096 (by omega)
  · show lX6_frontPlace_12 111 (n + 1) w (nI d) _ _ (nI i) = _
    have l1 := lowk_le I d
    have l2 := lowk_le I i
    rw [lX6_frontPlace_12, ldI_n hi (by omega), L i hi, ob_some, ob_some, M_isSeen Z I J hi, ob_some]
    simp (disch := omega) only [Nat.reduceAdd, Nat.reduceMul, Nat.reduceSub, l0, n1, n2, n3, n4, n5, n6, n40, n60, n240, n480, n486, n492, n498, n558, n559, n560, n561, n562, n563, n564, n565, n566, n567, n568, n574, n580, n586, n646, nI_add, nI_mul, Nat.zero_add, Nat.add_zero, ob_some, ob2_some, nI_le_, nI_lt_, nI_eq_]
    rw [if_neg (by omega)]
    by_cases c1 : lowk a d < lowk a i
    · rw [if_pos c1]
      by_cases h : sn a i
      · rw [if_pos h, if_neg (by decide), cnt_s (P := fun e => sn a e ∧ ahd a d e) ⟨h, Or.inl c1⟩]
      · rw [if_neg h, if_pos rfl, cnt_n (P := fun e => sn a e ∧ ahd a d e) (fun z => h z.1)]
    · rw [if_neg c1]
      by_cases c2 : lowk a i = lowk a d
      · rw [if_pos c2]
        by_cases c3 : d ≤ i
        · rw [if_pos c3, ite_self, cnt_n (P := fun e => sn a e ∧ ahd a d e) (by rintro ⟨-, z | z⟩ <;> omega)]
        · rw [if_neg c3]
          by_cases h : sn a i
          · rw [if_pos h, if_neg (by decide), cnt_s (P := fun e => sn a e ∧ ahd a d e) ⟨h, Or.inr ⟨c2, by omega⟩⟩]
          · rw [if_neg h, if_pos rfl, cnt_n (P := fun e => sn a e ∧ ahd a d e) (fun z => h z.1)]
      · rw [if_neg c2, ite_self, cnt_n (P := fun e => sn a e ∧ ahd a d e) (by rintro ⟨-, z | z⟩ <;> omega)]
  · show lX6_frontPlace_12 111 (n + 1) w (nI d) _ _ (nI 60) = _
    rw [lX6_frontPlace_12, if_pos (by decide), fpl]
theorem M_frontAt (Z : ZA (w.1 112) a) (I : IO a) (J : IR0 a) (L : LW w a) (F : FR a f m) {p : Nat} (hp : p < m) : fX6_frontAt w 111 (nI p) = some (nI (f p)) := by
  have hm := F.1
  have hb := F.2.1 p hp
  refine loopN (fun n i => lX6_frontAt_4 111 n w (nI p) (if f p < i then nI (f p) else -1) (nI i)) 60 _ (fun n i hi => ?_) (fun n => ?_) 4096 (by omega)
  · show lX6_frontAt_4 111 (n + 1) w (nI p) _ (nI i) = _
    rw [lX6_frontAt_4, M_isSeen Z I J hi, ob_some]
    have e : ¬ (60 : Int32) ≤ nI i := by rw [n60, nI_le_ (by omega) (by omega)]; omega
    rw [if_neg e]
    by_cases h : sn a i
    · rw [if_pos h, if_neg (show ¬ (1 : Int32) = 0 by decide), M_fpl Z I J L hi, ob_some]
      obtain ⟨q, hq, rfl⟩ := F.2.2.2 i hi h
      rw [fpl_f F hq]
      by_cases hqp : q = p
      · subst hqp
        rw [if_pos rfl, if_pos (show f q < f q + 1 by omega), n1, nI_add]
      · have hne : f q ≠ f p := fun z => hqp (FR_inj F hq hp z)
        rw [if_neg (by rw [nI_eq_ (by omega) (by omega)]; exact hqp), n1, nI_add]
        by_cases hlt : f p < f q
        · rw [if_pos hlt, if_pos (show f p < f q + 1 by omega)]
        · rw [if_neg hlt, if_neg (show ¬ f p < f q + 1 by omega)]
    · have hne : i ≠ f p := fun z => h (z ▸ hb.2)
      rw [if_neg h, if_pos (show (0 : Int32) = 0 from rfl), n1, nI_add]
      by_cases hlt : f p < i
      · rw [if_pos hlt, if_pos (show f p < i + 1 by omega)]
      · rw [if_neg hlt, if_neg (show ¬ f p < i + 1 by omega)]
  · show lX6_frontAt_4 111 (n + 1) w (nI p) _ (nI 60) = _
    rw [lX6_frontAt_4, if_pos (by decide), if_pos hb.1]
theorem M_toldMany (Z : ZA (w.1 112) a) (I : IO a) (J : IR0 a) : fX6_toldMany w 111 = some (nI (min (smany a) (a 558))) := by
  have h1 : smany a ≤ 60 := cnt_le _ _
  have h2 := I.2.2.2.2.2.1
  unfold fX6_toldMany
  rw [M_smany Z I J, ob_some]
  simp (disch := omega) only [Nat.reduceAdd, Nat.reduceMul, Nat.reduceSub, l0, n1, n2, n3, n4, n5, n6, n40, n60, n240, n480, n486, n492, n498, n558, n559, n560, n561, n562, n563, n564, n565, n566, n567, n568, n574, n580, n586, n646, nI_add, nI_mul, Nat.zero_add, Nat.add_zero, ob_some, ob2_some, nI_le_, nI_lt_, nI_eq_, zl Z]
  by_cases h : a 558 ≤ smany a
  · rw [if_pos h, Nat.min_eq_right h]
  · rw [if_neg h, Nat.min_eq_left (by omega)]
end MR
