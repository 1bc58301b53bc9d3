/-! PURE PART: the class sees a document -/
def lo (a : Nat → Nat) (d x : Nat) : Nat := sm (fun l => if x.testBit l = true then a (486 + l) * scr a l d else 0) 6
theorem lo_has {x l : Nat} (hx : x < 64) (hl : l < 6) (h : x.testBit l = true) : x ||| 2 ^ l = x := by
  refine sb_ext _ (sb_lt x hx l hl) x hx (fun k hk => ?_)
  rw [sb_tb x hx l hl k hk]
  by_cases hkl : k = l
  · subst hkl; rw [h]; rfl
  · simp [hkl]
theorem lo_add {a : Nat → Nat} {d x l : Nat} (hx : x < 64) (hl : l < 6) (h : ¬ x.testBit l = true) : lo a d (x ||| 2 ^ l) = lo a d x + a (486 + l) * scr a l d := by
  have := sm_chg (f := fun k => if (x ||| 2 ^ l).testBit k = true then a (486 + k) * scr a k d else 0) (g := fun k => if x.testBit k = true then a (486 + k) * scr a k d else 0) hl (fun k hk hne => by
    rw [sb_tb x hx l hl k hk]
    simp [hne])
  have e1 : (x ||| 2 ^ l).testBit l = true := by rw [sb_tb x hx l hl l hl]; simp
  simp only [e1, if_pos, if_neg h] at this
  unfold lo
  omega
theorem lo_le {a : Nat → Nat} (I : IO a) (d x : Nat) : lo a d x ≤ 54000 := by
  have : lo a d x ≤ 6 * 9000 := sm_le (fun l hl => by
    have := wsc_le I d hl
    split <;> omega)
  omega
/-- x stands ahead of y, by the lows L -/
def aL (L : Nat → Nat) (x y : Nat) : Prop := L y < L x ∨ (L x = L y ∧ x < y)
def ins (g : Nat → Nat) (d q p0 : Nat) : Nat → Nat := fun p => if p < q then g p else if p = q then d else if p ≤ p0 then g (p - 1) else g p
theorem FR_ins {b g : Nat → Nat} {m d q p0 : Nat} (hm : m ≤ 60) (h1 : ∀ p, p < m → g p < 60 ∧ sn b (g p)) (h2 : ∀ e, e < 60 → sn b e → ∃ p, p < m ∧ g p = e) (h3 : ∀ p r, p < r → r < m → p ≠ p0 → r ≠ p0 → ahd b (g r) (g p)) (h4 : ∀ p, p0 < p → p < m → ahd b (g p) d) (hd : g p0 = d) (hp0 : p0 < m) (hq : q ≤ p0) (h5 : ∀ p, q < p → p ≤ p0 → ahd b (g (p - 1)) d) (h6 : q = 0 ∨ ¬ ahd b (g (q - 1)) d) (hi : ∀ p, p < m → p ≠ p0 → g p ≠ d) : FR b (ins g d q p0) m := by
  have tr : ∀ x y z, ahd b x y → ahd b y z → ahd b x z := by
    intro x y z u v
    unfold ahd at u v ⊢
    omega
  have h7 : ∀ p, p < q → ahd b d (g p) := by
    intro p hp
    have h8 : ahd b d (g (q - 1)) := by
      have n1 : ¬ ahd b (g (q - 1)) d := by
        rcases h6 with z | z
        · omega
        · exact z
      have n2 := hi (q - 1) (by omega) (by omega)
      unfold ahd at n1 ⊢
      omega
    by_cases hpq : p = q - 1
    · rw [hpq]; exact h8
    · exact tr _ _ _ h8 (h3 p (q - 1) (by omega) (by omega) (by omega) (by omega))
  refine ⟨hm, fun p hp => ?_, fun p r hpr hr => ?_, fun e he hs => ?_⟩
  · unfold ins
    split
    · exact h1 p hp
    · split
      · rw [← hd]; exact h1 p0 hp0
      · split
        · exact h1 _ (by omega)
        · exact h1 p hp
  · unfold ins
    by_cases a1 : p < q
    · rw [if_pos a1]
      by_cases b1 : r < q
      · rw [if_pos b1]; exact h3 p r hpr hr (by omega) (by omega)
      · rw [if_neg b1]
        by_cases b2 : r = q
        · rw [if_pos b2]; exact h7 p a1
        · rw [if_neg b2]
          by_cases b3 : r ≤ p0
          · rw [if_pos b3]; exact h3 p (r - 1) (by omega) (by omega) (by omega) (by omega)
          · rw [if_neg b3]; exact h3 p r hpr hr (by omega) (by omega)
    · rw [if_neg a1, if_neg (show ¬ r < q by omega), if_neg (show ¬ r = q by omega)]
      by_cases a2 : p = q
      · rw [if_pos a2]
        by_cases b3 : r ≤ p0
        · rw [if_pos b3]; exact h5 r (by omega) b3
        · rw [if_neg b3]; exact h4 r (by omega) hr
      · rw [if_neg a2]
        by_cases a3 : p ≤ p0
        · rw [if_pos a3]
          by_cases b3 : r ≤ p0
          · rw [if_pos b3]; exact h3 (p - 1) (r - 1) (by omega) (by omega) (by omega) (by omega)
          · rw [if_neg b3]; exact h3 (p - 1) r (by omega) hr (by omega) (by omega)
        · rw [if_neg a3, if_neg (show ¬ r ≤ p0 by omega)]; exact h3 p r hpr hr (by omega) (by omega)
  · obtain ⟨p, hp, e1⟩ := h2 e he hs
    by_cases c0 : p = p0
    · refine ⟨q, by omega, ?_⟩
      unfold ins
      rw [if_neg (by omega), if_pos rfl, ← hd, ← c0, e1]
    · by_cases c1 : p < q
      · refine ⟨p, hp, ?_⟩
        unfold ins
        rw [if_pos c1, e1]
      · by_cases c2 : p < p0
        · refine ⟨p + 1, by omega, ?_⟩
          unfold ins
          rw [if_neg (by omega), if_neg (by omega), if_pos (by omega), Nat.add_sub_cancel, e1]
        · refine ⟨p, hp, ?_⟩
          unfold ins
          rw [if_neg (by omega), if_neg (by omega), if_neg (by omega), e1]
section CS
variable {w : Wd} {a : Nat → Nat} {m o r : Nat}
theorem C_learn (O : OC w o a) (I : IO a) {l d x : Nat} (hl : l < 6) (hd : d < 60) (hx : x < 64) (hk : w.1 (r + 5) d = nI x) (hlo : w.1 (r + 6) d = nI (lo a d x)) : ∃ w', fX2_learn w r o (nI l) (nI d) = some w' ∧ Fr (r + 5) (r + 7) w w' ∧ (∀ e, w'.1 (r + 5) e = if e = d then nI (x ||| 2 ^ l) else w.1 (r + 5) e) ∧ (∀ e, w'.1 (r + 6) e = if e = d then nI (lo a d (x ||| 2 ^ l)) else w.1 (r + 6) e) ∧ w'.2 = w.2 := by
  unfold fX2_learn
  rw [at_n hd (by omega), hk, ob_some, sb_tst x hx l hl]
  by_cases hb : x.testBit l = true
  · rw [if_pos hb, if_neg (by decide), lo_has hx hl hb]
    refine ⟨w, rfl, Fr.rfl', fun e => ?_, fun e => ?_, rfl⟩
    · by_cases h : e = d
      · rw [if_pos h, h, hk]
      · rw [if_neg h]
    · by_cases h : e = d
      · rw [if_pos h, h, hlo]
      · rw [if_neg h]
  · rw [if_neg hb, if_pos (by decide), C_weightOf O hl, C_scoreOf O hl hd, ob_some, ob_some, sb_or x hx l hl, put_n hd (by omega), ob_some, at_n hd (by omega), sI_1, if_neg (by omega), hlo, ob_some, nI_mul, nI_add, put_n hd (by omega), ob_some]
    refine ⟨_, rfl, (Fr.rfl'.sI (by omega) (by omega)).sI (by omega) (by omega), fun e => ?_, fun e => ?_, rfl⟩
    · rw [sI_1, if_neg (by omega), sI_1, if_pos rfl, upd_1]
    · rw [sI_1, if_pos rfl, upd_1, sI_1, if_neg (show ¬ r + 6 = r + 5 by omega), lo_add hx hl hb]
theorem C_fpo {g : Nat → Nat} {d p0 : Nat} (h15 : w.1 r 15 = nI m) (hm : m ≤ 60) (hg : ∀ p, p < m → w.1 (r + 8) p = nI (g p)) (hb : ∀ p, p < m → g p < 60) (hd : d < 60) (hp : p0 < m) (h0 : g p0 = d) (hf : ∀ p, p < p0 → g p ≠ d) : fX2_frontPlaceOf w r (nI d) = some (nI p0) := by
  refine loopN (fun n i => lX2_frontPlaceOf_2 r n w (nI d) (nI i)) p0 _ (fun n i hi => ?_) (fun n => ?_) 4096 (by omega)
  · show lX2_frontPlaceOf_2 r (n + 1) w (nI d) (nI i) = _
    have := hb i (by omega)
    rw [lX2_frontPlaceOf_2, h15, if_neg (by rw [nI_le_ (by omega) (by omega)]; omega), at_n (by omega) (by omega), hg i (by omega), ob_some, if_neg (by rw [nI_eq_ (by omega) (by omega)]; exact hf i hi), n1, nI_add]
  · show lX2_frontPlaceOf_2 r (n + 1) w (nI d) (nI p0) = _
    rw [lX2_frontPlaceOf_2, h15, if_neg (by rw [nI_le_ (by omega) (by omega)]; omega), at_n (by omega) (by omega), hg p0 hp, ob_some, if_pos (by rw [h0])]
theorem C_isAhead {L : Nat → Nat} {d e : Nat} (hL : ∀ e, e < 60 → w.1 (r + 6) e = nI (L e)) (hLb : ∀ e, L e ≤ 54000) (hd : d < 60) (he : e < 60) : fX2_isAhead w r (nI d) (nI e) = some (@ite Int32 (aL L d e) (Classical.propDecidable _) 1 0) := by
  have b1 := hLb d
  have b2 := hLb e
  unfold fX2_isAhead
  rw [at_n hd (by omega), at_n he (by omega), hL d hd, hL e he, ob_some, ob_some]
  by_cases c1 : L e < L d
  · rw [if_pos (by rw [nI_lt_ (by omega) (by omega)]; exact c1), if_pos (show aL L d e from Or.inl c1)]; rfl
  · rw [if_neg (by rw [nI_lt_ (by omega) (by omega)]; exact c1)]
    by_cases c2 : L d = L e
    · rw [if_pos (by rw [c2])]
      by_cases c3 : e ≤ d
      · rw [if_pos (by rw [nI_le_ (by omega) (by omega)]; exact c3), if_neg (show ¬ aL L d e by rintro (z | z) <;> omega)]; rfl
      · rw [if_neg (by rw [nI_le_ (by omega) (by omega)]; exact c3), if_pos (show aL L d e from Or.inr ⟨c2, by omega⟩)]; rfl
    · rw [if_neg (by rw [nI_eq_ (by omega) (by omega)]; exact c2), if_neg (show ¬ aL L d e by rintro (z | z) <;> omega)]; rfl
theorem C_moveAhead {g L : Nat → Nat} {d p0 : Nat} (h15 : w.1 r 15 = nI m) (hm : m ≤ 60) (hg : ∀ p, p < m → w.1 (r + 8) p = nI (g p)) (hb : ∀ p, p < m → g p < 60) (hp : p0 < m) (h0 : g p0 = d) (hf : ∀ p, p < m → p ≠ p0 → g p ≠ d) (hL : ∀ e, e < 60 → w.1 (r + 6) e = nI (L e)) (hLb : ∀ e, L e ≤ 54000) : ∃ w' q, fX2_moveAhead w r (nI d) = some w' ∧ Fr (r + 8) (r + 9) w w' ∧ q ≤ p0 ∧ (∀ p, p < m → w'.1 (r + 8) p = nI (ins g d q p0 p)) ∧ (∀ p, q < p → p ≤ p0 → aL L d (g (p - 1))) ∧ (q = 0 ∨ ¬ aL L d (g (q - 1))) := by
  have hd : d < 60 := by rw [← h0]; exact hb p0 hp
  obtain ⟨k, hk, hk1, hk2⟩ := least (P := fun k => k = p0 ∨ ¬ aL L d (g (p0 - k - 1))) p0 (Or.inl rfl)
  obtain ⟨q, hq⟩ : ∃ q, q = p0 - k := ⟨_, rfl⟩
  have hA : ∀ p, q < p → p ≤ p0 → aL L d (g (p - 1)) := by
    intro p h1 h2
    have := hk2 (p0 - p) (by omega)
    have h3 : ¬ (p0 - p = p0) := by omega
    have h4 : aL L d (g (p0 - (p0 - p) - 1)) := Classical.byContradiction fun z => this (Or.inr z)
    rw [show p0 - (p0 - p) - 1 = p - 1 by omega] at h4
    exact h4
  have hB : q = 0 ∨ ¬ aL L d (g (q - 1)) := by
    rcases hk1 with z | z
    · exact Or.inl (by omega)
    · right
      rw [hq]
      exact z
  unfold fX2_moveAhead
  rw [C_fpo h15 hm hg hb hd hp h0 (fun p hp' => hf p (by omega) (by omega)), ob_some]
  have key := loopD (fun n w' j => lX2_moveAhead_6 r n w' (nI d) (nI j)) (fun j w' => Fr (r + 8) (r + 9) w w' ∧ ∀ p, p < m → w'.1 (r + 8) p = nI (ins g d j p0 p)) q p0 (by omega) (fun z => ∃ w', z = some w' ∧ Fr (r + 8) (r + 9) w w' ∧ ∀ p, p < m → w'.1 (r + 8) p = nI (ins g d q p0 p)) (fun n j w' hj hj2 hI => ?_) (fun n w' hI => ?_) 4096 w (by omega) ⟨Fr.rfl', fun p hp' => by
    rw [hg p hp']
    unfold ins
    by_cases c1 : p < p0
    · rw [if_pos c1]
    · rw [if_neg c1]
      by_cases c2 : p = p0
      · rw [if_pos c2, c2, h0]
      · rw [if_neg c2, if_neg (by omega)]⟩
  · obtain ⟨w', e, F, c⟩ := key
    exact ⟨w', q, e, F, by omega, c, hA, hB⟩
  · obtain ⟨F, c⟩ := hI
    have cj : w'.1 (r + 8) j = nI (g j) := by
      rw [c j (by omega)]
      unfold ins
      rw [if_pos (by omega)]
    have gj := hb j (by omega)
    have e1 : nI (j + 1) - nI 1 = nI j := by rw [nI_sub (by omega)]; congr 1
    have e6 : nI (j + 1) + -nI 1 = nI j := by rw [← Int32.sub_eq_add_neg, nI_sub (by omega)]; congr 1
    have L' : ∀ e, e < 60 → w'.1 (r + 6) e = nI (L e) := fun e he => by rw [F.1 _ (by omega)]; exact hL e he
    have ha : aL L d (g j) := by
      have := hA (j + 1) (by omega) (by omega)
      rw [Nat.add_sub_cancel] at this
      exact this
    refine ⟨sI (sI w' (r + 8) (j + 1) (nI (g j))) (r + 8) j (nI d), ⟨(F.sI (by omega) (by omega)).sI (by omega) (by omega), fun p hp' => ?_⟩, ?_⟩
    · rw [sI_1, if_pos rfl, upd_1, sI_1, if_pos rfl, upd_1, c p hp']
      unfold ins
      by_cases c1 : p = j
      · rw [if_pos c1, if_neg (by omega), if_pos c1]
      · rw [if_neg c1]
        by_cases c2 : p = j + 1
        · rw [if_pos c2, if_neg (by omega), if_neg (by omega), if_pos (by omega), c2, Nat.add_sub_cancel]
        · rw [if_neg c2]
          by_cases c3 : p < j
          · rw [if_pos (by omega), if_pos c3]
          · rw [if_neg (show ¬ p < j + 1 by omega), if_neg c2, if_neg c3, if_neg c1]
    · show lX2_moveAhead_6 r (n + 1) w' (nI d) (nI (j + 1)) = _
      rw [lX2_moveAhead_6, if_neg (show ¬ nI (j + 1) ≤ 0 by rw [l0, nI_le_ (by omega) (by omega)]; omega), n1, e1, at_n (by omega) (by omega), cj, ob_some, C_isAhead L' hLb hd gj, if_pos ha, ob_some, if_neg (by decide), ob_some, put_n (by omega) (by omega), ob_some, put_n (by omega) (by omega), ob_some, e6]
  · obtain ⟨F, c⟩ := hI
    refine ⟨w', ?_, F, c⟩
    show lX2_moveAhead_6 r (n + 1) w' (nI d) (nI q) = _
    rw [lX2_moveAhead_6]
    by_cases hq0 : q = 0
    · rw [if_pos (by rw [hq0]; decide)]
    · have e1 : nI q - 1 = nI (q - 1) := by rw [n1, nI_sub (by omega)]
      have cj : w'.1 (r + 8) (q - 1) = nI (g (q - 1)) := by
        rw [c _ (by omega)]
        unfold ins
        rw [if_pos (by omega)]
      have L' : ∀ e, e < 60 → w'.1 (r + 6) e = nI (L e) := fun e he => by rw [F.1 _ (by omega)]; exact hL e he
      have hna : ¬ aL L d (g (q - 1)) := by
        rcases hB with z | z
        · exact absurd z hq0
        · exact z
      rw [if_neg (show ¬ nI q ≤ 0 by rw [l0, nI_le_ (by omega) (by omega)]; omega), e1, at_n (by omega) (by omega), cj, ob_some, C_isAhead L' hLb hd (hb _ (by omega)), if_neg hna, ob_some, if_pos rfl]
end CS
