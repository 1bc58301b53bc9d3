/-! PURE PART: a state of the class and the numbers of a row; a state copied -/
def bd (a : Nat → Nat) (l : Nat) : Nat := if a (568 + l) < a (480 + l) then a (240 + 40 * l + a (568 + l)) else 0
def tb (a : Nat → Nat) (l : Nat) : Nat := if a (574 + l) = 1 then bd a l else bd a l - a (492 + l)
def lowk (a : Nat → Nat) (d : Nat) : Nat := sm (fun l => if (a (646 + d)).testBit l = true then a (486 + l) * scr a l d else 0) 6
def sn (a : Nat → Nat) (d : Nat) : Prop := 0 < a (586 + d)
/-- e stands ahead of d in the front -/
def ahd (a : Nat → Nat) (d e : Nat) : Prop := lowk a d < lowk a e ∨ (lowk a e = lowk a d ∧ e < d)
noncomputable def fpl (a : Nat → Nat) (d : Nat) : Nat := cnt (fun e => sn a e ∧ ahd a d e) 60
def FR (a : Nat → Nat) (f : Nat → Nat) (m : Nat) : Prop := m ≤ 60 ∧ (∀ p, p < m → f p < 60 ∧ sn a (f p)) ∧ (∀ p q, p < q → q < m → ahd a (f q) (f p)) ∧ (∀ d, d < 60 → sn a d → ∃ p, p < m ∧ f p = d)
def canr (a : Nat → Nat) (l : Nat) : Prop := 0 < a (486 + l) ∧ a (568 + l) < a (480 + l)
def wbd (a : Nat → Nat) : Nat := sm (fun l => a (486 + l) * tb a l) 6
def high (a : Nat → Nat) (d : Nat) : Nat := lowk a d + sm (fun l => if (a (646 + d)).testBit l = true then 0 else a (486 + l) * tb a l) 6
noncomputable def smany (a : Nat → Nat) : Nat := cnt (sn a) 60
def ov (a : Nat → Nat) : Prop := (∀ l, l < 6 → ¬ canr a l) ∨ (a 558 ≤ smany a ∧ ∃ t, t < 60 ∧ sn a t ∧ fpl a t + 1 = a 558 ∧ wbd a < lowk a t ∧ ∀ d, d < 60 → sn a d → a 558 ≤ fpl a d → high a d < lowk a t ∨ (high a d = lowk a t ∧ t < d))
def IR0 (a : Nat → Nat) : Prop :=
  (∀ l, l < 6 → a (568 + l) ≤ a (480 + l) ∧ a (574 + l) ≤ 1) ∧ (∀ d, d < 60 → a (646 + d) < 64) ∧
  (∀ d l, d < 60 → l < 6 → (a (646 + d)).testBit l = true → 0 < a (486 + l)) ∧ (∀ d, d < 60 → (sn a d ↔ a (646 + d) ≠ 0)) ∧
  (∀ d, d < 60 → sn a d → a (498 + d) = 0) ∧ (∀ l p, l < 6 → p < a (568 + l) → a (498 + a (40 * l + p)) = 0 → (a (646 + a (40 * l + p))).testBit l = true) ∧
  a 564 = sm (fun l => a (568 + l)) 6 ∧ a 560 ≤ 2 ∧ a 561 ≤ 1 ∧ a 563 ≤ 6 ∧ (∀ d, d < 60 → a (586 + d) ≤ a 564)
def IR (a : Nat → Nat) : Prop := IR0 a ∧ a 562 ≤ 1 ∧ (ov a ↔ a 562 = 1)
def GD (a : Nat → Nat) : Prop := IO a ∧ (a 559 = 1 → IR a)
noncomputable def cgt (a : Nat → Nat) : Nat := bs (fun l => a (574 + l) = 1) 6
def RC (w : Wd) (r : Nat) (a f : Nat → Nat) (m : Nat) : Prop :=
  bz (w.1 r 2) = nI (a 561) ∧ w.1 r 1 = nI (a 560) ∧ w.1 r 3 = nI ((a 563 + 5) % 6) ∧ w.1 r 4 = nI (a 564) ∧ w.1 r 5 = nI (a 565) ∧ w.1 r 6 = nI (cgt a) ∧ w.1 r 15 = nI m ∧
  (∀ l, l < 6 → w.1 (r + 1) l = nI (a (568 + l))) ∧ (∀ l, l < 6 → w.1 (r + 2) l = nI (a (580 + l))) ∧ (∀ l, l < 6 → w.1 (r + 3) l = nI (bd a l)) ∧ (∀ l, l < 6 → w.1 (r + 4) l = nI (tb a l)) ∧
  (∀ d, d < 60 → w.1 (r + 5) d = nI (a (646 + d))) ∧ (∀ d, d < 60 → w.1 (r + 6) d = nI (lowk a d)) ∧ (∀ d, d < 60 → sn a d → w.1 (r + 7) d = nI (a (586 + d) - 1)) ∧ (∀ p, p < m → w.1 (r + 8) p = nI (f p)) ∧ FR a f m
def Rs (w : Wd) (s : Nat) (a : Nat → Nat) : Prop := OC w (s + 1) a ∧ bz (w.1 (s + 7) 0) = nI (a 559) ∧ w.1 s 2 = nI (a 566) ∧ w.1 s 3 = nI (a 567) ∧ (a 559 = 1 → ∃ f m, RC w (s + 7) a f m)
/-! the same content -/
def SO (w : Wd) (o : Nat) (w' : Wd) (o' : Nat) : Prop := (∀ j, j < 360 → w'.1 (o' + 1) j = w.1 (o + 1) j) ∧ (∀ j, j < 240 → w'.1 (o' + 2) j = w.1 (o + 2) j) ∧ (∀ j, j < 6 → w'.1 (o' + 3) j = w.1 (o + 3) j) ∧ (∀ j, j < 6 → w'.1 (o' + 4) j = w.1 (o + 4) j) ∧ (∀ j, j < 6 → w'.1 (o' + 5) j = w.1 (o + 5) j) ∧ w'.2.1 o' = w.2.1 o ∧ w'.1 o' 6 = w.1 o 6
def SD (w : Wd) (r : Nat) (w' : Wd) (r' : Nat) : Prop := bz (w'.1 r' 0) = bz (w.1 r 0) ∧ bz (w'.1 r' 2) = bz (w.1 r 2) ∧ w'.1 r' 1 = w.1 r 1 ∧ w'.1 r' 3 = w.1 r 3 ∧ w'.1 r' 4 = w.1 r 4 ∧ w'.1 r' 5 = w.1 r 5 ∧ w'.1 r' 6 = w.1 r 6 ∧ w'.1 r' 15 = w.1 r 15 ∧
  (∀ j, j < 6 → w'.1 (r' + 1) j = w.1 (r + 1) j) ∧ (∀ j, j < 6 → w'.1 (r' + 2) j = w.1 (r + 2) j) ∧ (∀ j, j < 6 → w'.1 (r' + 3) j = w.1 (r + 3) j) ∧ (∀ j, j < 6 → w'.1 (r' + 4) j = w.1 (r + 4) j) ∧
  (∀ j, j < 60 → w'.1 (r' + 5) j = w.1 (r + 5) j) ∧ (∀ j, j < 60 → w'.1 (r' + 6) j = w.1 (r + 6) j) ∧ (∀ j, j < 60 → w'.1 (r' + 7) j = w.1 (r + 7) j) ∧ (∀ j, j < 60 → w'.1 (r' + 8) j = w.1 (r + 8) j)
theorem SO_OC {w w' : Wd} {o o' : Nat} {a : Nat → Nat} (h : SO w o w' o') (I : IO a) (O : OC w o a) : OC w' o' a := by
  obtain ⟨h1, h2, h3, h4, h5, h6, h7⟩ := h
  refine ⟨fun l hl => ?_, fun l p hl hp => ?_, fun l d hl hd => ?_, fun l hl => ?_, fun l hl => ?_, ?_, ?_⟩
  · rw [h3 l hl]; exact O.1 l hl
  · have := (I.1 l hl).1
    rw [h2 _ (by omega)]; exact O.2.1 l p hl hp
  · rw [h1 _ (by omega)]; exact O.2.2.1 l d hl hd
  · rw [h4 l hl]; exact O.2.2.2.1 l hl
  · rw [h5 l hl]; exact O.2.2.2.2.1 l hl
  · rw [h6]; exact O.2.2.2.2.2.1
  · rw [h7]; exact O.2.2.2.2.2.2
theorem SD_RC {w w' : Wd} {r r' : Nat} {a f : Nat → Nat} {m : Nat} (h : SD w r w' r') (R : RC w r a f m) : RC w' r' a f m := by
  obtain ⟨h0, h1, h2, h3, h4, h5, h6, h7, g1, g2, g3, g4, g5, g6, g7, g8⟩ := h
  obtain ⟨q1, q2, q3, q4, q5, q6, q7, q8, q9, q10, q11, q12, q13, q14, q15, q16⟩ := R
  have hm := q16.1
  exact ⟨h1.trans q1, h2.trans q2, h3.trans q3, h4.trans q4, h5.trans q5, h6.trans q6, h7.trans q7, fun l hl => (g1 l hl).trans (q8 l hl), fun l hl => (g2 l hl).trans (q9 l hl), fun l hl => (g3 l hl).trans (q10 l hl), fun l hl => (g4 l hl).trans (q11 l hl), fun d hd => (g5 d hd).trans (q12 d hd), fun d hd => (g6 d hd).trans (q13 d hd), fun d hd hs => (g7 d hd).trans (q14 d hd hs), fun p hp => (g8 p (by omega)).trans (q15 p hp), q16⟩
theorem Rs_of {w w' : Wd} {s s' : Nat} {a : Nat → Nat} (I : IO a) (h1 : SO w (s + 1) w' (s' + 1)) (h2 : SD w (s + 7) w' (s' + 7)) (h3 : w'.1 s' 2 = w.1 s 2) (h4 : w'.1 s' 3 = w.1 s 3) (R : Rs w s a) : Rs w' s' a :=
  ⟨SO_OC h1 I R.1, h2.1.trans R.2.1, h3.trans R.2.2.1, h4.trans R.2.2.2.1, fun q => by
    obtain ⟨f, m, z⟩ := R.2.2.2.2 q
    exact ⟨f, m, SD_RC h2 z⟩⟩
theorem SO_fr {w w' : Wd} {o : Nat} (h : ∀ k, o ≤ k → k < o + 6 → w'.1 k = w.1 k) (h2 : w'.2.1 o = w.2.1 o) : SO w o w' o := ⟨fun j _ => by rw [h _ (by omega) (by omega)], fun j _ => by rw [h _ (by omega) (by omega)], fun j _ => by rw [h _ (by omega) (by omega)], fun j _ => by rw [h _ (by omega) (by omega)], fun j _ => by rw [h _ (by omega) (by omega)], h2, by rw [h _ (by omega) (by omega)]⟩
theorem SD_fr {w w' : Wd} {r : Nat} (h : ∀ k, r ≤ k → k < r + 9 → w'.1 k = w.1 k) : SD w r w' r := by
  have h0 := h r (by omega) (by omega)
  refine ⟨by rw [h0], by rw [h0], by rw [h0], by rw [h0], by rw [h0], by rw [h0], by rw [h0], by rw [h0], fun j _ => ?_, fun j _ => ?_, fun j _ => ?_, fun j _ => ?_, fun j _ => ?_, fun j _ => ?_, fun j _ => ?_, fun j _ => ?_⟩ <;> rw [h _ (by omega) (by omega)]
theorem OC_fr {w w' : Wd} {o lo hi : Nat} {a : Nat → Nat} (O : OC w o a) (I : IO a) (F : Fr lo hi w w') (h : o + 6 ≤ lo ∨ hi ≤ o) : OC w' o a := SO_OC (SO_fr (fun k _ _ => F.1 k (by omega)) (F.2.1 o (by omega))) I O
theorem RC_fr {w w' : Wd} {r lo hi : Nat} {a f : Nat → Nat} {m : Nat} (R : RC w r a f m) (F : Fr lo hi w w') (h : r + 9 ≤ lo ∨ hi ≤ r) : RC w' r a f m := SD_RC (SD_fr (fun k _ _ => F.1 k (by omega))) R
theorem Rs_fr {w w' : Wd} {s lo hi : Nat} {a : Nat → Nat} (R : Rs w s a) (I : IO a) (F : Fr lo hi w w') (h : s + 16 ≤ lo ∨ hi ≤ s) : Rs w' s a :=
  Rs_of I (SO_fr (fun k _ _ => F.1 k (by omega)) (F.2.1 _ (by omega))) (SD_fr (fun k _ _ => F.1 k (by omega))) (by rw [F.1 s (by omega)]) (by rw [F.1 s (by omega)]) R
/-! copies -/
theorem copyRow {w : Wd} {k1 k2 q : Nat} (hk : k1 ≠ k2) (hq : q < 2147483648) : ∃ w', fX5_copyRow w k1 q k2 q = some w' ∧ (∀ j, j < q → w'.1 k2 j = w.1 k1 j) ∧ (∀ i, i ≠ k2 → w'.1 i = w.1 i) ∧ w'.2 = w.2 := by
  unfold fX5_copyRow
  rw [imin_n hq hq, Nat.min_self]
  unfold cpy
  have h0 : (0 : Int32).toNatClampNeg = 0 := by decide
  rw [h0, nI_clamp (by omega), if_neg (by
    rintro (h | h | h | h | h)
    · exact absurd h (by decide)
    · exact absurd h (by decide)
    · exact nI_pos (by omega) h
    · omega
    · omega)]
  refine ⟨_, rfl, fun j hj => ?_, fun i hi => ?_, rfl⟩
  · show (if k2 = k2 then va_cpy (w.1 k1) (w.1 k2) 0 0 q else w.1 k2) j = _
    rw [if_pos rfl]
    show (if 0 ≤ j ∧ j < 0 + q then w.1 k1 (0 + (j - 0)) else w.1 k2 j) = _
    rw [if_pos (⟨by omega, by omega⟩ : 0 ≤ j ∧ j < 0 + q), Nat.zero_add, Nat.sub_zero]
  · show (if i = k2 then va_cpy (w.1 k1) (w.1 k2) 0 0 q else w.1 i) = _
    rw [if_neg hi]
theorem C_copyO {w : Wd} {o o1 : Nat} (h : o + 6 ≤ o1 ∨ o1 + 6 ≤ o) : ∃ w', fX1_copyFrom w o o1 = some w' ∧ Fr o (o + 6) w w' ∧ SO w o1 w' o := by
  obtain ⟨w1, e1, c1, g1, f1⟩ := copyRow (w := w) (k1 := o1 + 1) (k2 := o + 1) (q := 360) (by omega) (by omega)
  obtain ⟨w2, e2, c2, g2, f2⟩ := copyRow (w := w1) (k1 := o1 + 2) (k2 := o + 2) (q := 240) (by omega) (by omega)
  obtain ⟨w3, e3, c3, g3, f3⟩ := copyRow (w := w2) (k1 := o1 + 3) (k2 := o + 3) (q := 6) (by omega) (by omega)
  obtain ⟨w4, e4, c4, g4, f4⟩ := copyRow (w := w3) (k1 := o1 + 4) (k2 := o + 4) (q := 6) (by omega) (by omega)
  obtain ⟨w5, e5, c5, g5, f5⟩ := copyRow (w := w4) (k1 := o1 + 5) (k2 := o + 5) (q := 6) (by omega) (by omega)
  have f : w5.2 = w.2 := by rw [f5, f4, f3, f2, f1]
  refine ⟨sI (sL w5 o (w.2.1 o1)) o 6 (w.1 o1 6), ?_, ⟨fun k hk => ?_, fun k hk => ?_, fun k hk => ?_⟩, fun j hj => ?_, fun j hj => ?_, fun j hj => ?_, fun j hj => ?_, fun j hj => ?_, ?_, ?_⟩
  · unfold fX1_copyFrom
    rw [e1, ob_some, e2, ob_some, e3, ob_some, e4, ob_some, e5, ob_some]
    unfold pL pI
    rw [ob_some, ob_some, f]
    have : (sL w5 o (w.2.1 o1)).1 o1 6 = w.1 o1 6 := by
      show w5.1 o1 6 = _
      rw [g5 _ (by omega), g4 _ (by omega), g3 _ (by omega), g2 _ (by omega), g1 _ (by omega)]
    rw [this]
  · rw [sI_1, if_neg (by omega)]
    show w5.1 k = _
    rw [g5 _ (by omega), g4 _ (by omega), g3 _ (by omega), g2 _ (by omega), g1 _ (by omega)]
  · show (if k = o then w.2.1 o1 else w5.2.1 k) = _
    rw [if_neg (by omega), f]
  · show w5.2.2 k = _
    rw [f]
  · rw [sI_1, if_neg (by omega)]
    show w5.1 (o + 1) j = _
    rw [g5 _ (by omega), g4 _ (by omega), g3 _ (by omega), g2 _ (by omega), c1 j hj]
  · rw [sI_1, if_neg (by omega)]
    show w5.1 (o + 2) j = _
    rw [g5 _ (by omega), g4 _ (by omega), g3 _ (by omega), c2 j hj, g1 _ (by omega)]
  · rw [sI_1, if_neg (by omega)]
    show w5.1 (o + 3) j = _
    rw [g5 _ (by omega), g4 _ (by omega), c3 j hj, g2 _ (by omega), g1 _ (by omega)]
  · rw [sI_1, if_neg (by omega)]
    show w5.1 (o + 4) j = _
    rw [g5 _ (by omega), c4 j hj, g3 _ (by omega), g2 _ (by omega), g1 _ (by omega)]
  · rw [sI_1, if_neg (by omega)]
    show w5.1 (o + 5) j = _
    rw [c5 j hj, g4 _ (by omega), g3 _ (by omega), g2 _ (by omega), g1 _ (by omega)]
  · show (if o = o then w.2.1 o1 else w5.2.1 o) = _
    rw [if_pos rfl]
  · rw [sI_1, if_pos rfl, upd_1, if_pos rfl]
theorem bz_bz (x : Int32) : bz (bz x) = bz x := by
  unfold bz
  by_cases h : x = 0
  · rw [if_pos h]; rfl
  · rw [if_neg h]; rfl
theorem stZ_bz (w : Wd) (k j : Nat) (x : Int32) : stZ w k j (bz x) = some (sI w k j (bz x)) := by
  unfold stZ
  rw [if_pos]
  unfold bz
  by_cases h : x = 0
  · rw [if_pos h]; exact Or.inl rfl
  · rw [if_neg h]; exact Or.inr rfl
theorem C_copyR {w : Wd} {o o1 : Nat} (h : o + 9 ≤ o1 ∨ o1 + 9 ≤ o) : ∃ w', fX2_copyFrom w o o1 = some w' ∧ Fr o (o + 9) w w' ∧ SD w o1 w' o := by
  have hne : o1 ≠ o := by omega
  obtain ⟨x1, h1⟩ : ∃ x, x = sI w o 0 (bz (w.1 o1 0)) := ⟨_, rfl⟩
  obtain ⟨x7, h7⟩ : ∃ x, x = sI (sI (sI (sI (sI (sI x1 o 1 (w.1 o1 1)) o 2 (bz (w.1 o1 2))) o 3 (w.1 o1 3)) o 4 (w.1 o1 4)) o 5 (w.1 o1 5)) o 6 (w.1 o1 6) := ⟨_, rfl⟩
  have k7 : ∀ k, k ≠ o → x7.1 k = w.1 k := by
    intro k hk
    rw [h7, h1]
    simp only [sI_1, if_neg hk]
  have r7 : ∀ j, x7.1 o j = if j = 6 then w.1 o1 6 else if j = 5 then w.1 o1 5 else if j = 4 then w.1 o1 4 else if j = 3 then w.1 o1 3 else if j = 2 then bz (w.1 o1 2) else if j = 1 then w.1 o1 1 else if j = 0 then bz (w.1 o1 0) else w.1 o j := by
    intro j
    rw [h7, h1]
    simp only [sI_1, if_pos, upd_1]
  have s7 : x7.2 = w.2 := by rw [h7, h1]; rfl
  obtain ⟨w1, e1, c1, g1, f1⟩ := copyRow (w := x7) (k1 := o1 + 1) (k2 := o + 1) (q := 6) (by omega) (by omega)
  obtain ⟨w2, e2, c2, g2, f2⟩ := copyRow (w := w1) (k1 := o1 + 2) (k2 := o + 2) (q := 6) (by omega) (by omega)
  obtain ⟨w3, e3, c3, g3, f3⟩ := copyRow (w := w2) (k1 := o1 + 3) (k2 := o + 3) (q := 6) (by omega) (by omega)
  obtain ⟨w4, e4, c4, g4, f4⟩ := copyRow (w := w3) (k1 := o1 + 4) (k2 := o + 4) (q := 6) (by omega) (by omega)
  obtain ⟨w5, e5, c5, g5, f5⟩ := copyRow (w := w4) (k1 := o1 + 5) (k2 := o + 5) (q := 60) (by omega) (by omega)
  obtain ⟨w6, e6, c6, g6, f6⟩ := copyRow (w := w5) (k1 := o1 + 6) (k2 := o + 6) (q := 60) (by omega) (by omega)
  obtain ⟨w7, e7, c7, g7, f7⟩ := copyRow (w := w6) (k1 := o1 + 7) (k2 := o + 7) (q := 60) (by omega) (by omega)
  obtain ⟨w8, e8, c8, g8, f8⟩ := copyRow (w := w7) (k1 := o1 + 8) (k2 := o + 8) (q := 60) (by omega) (by omega)
  have f : w8.2 = w.2 := by rw [f8, f7, f6, f5, f4, f3, f2, f1, s7]
  have ho : w8.1 o = x7.1 o := by rw [g8 _ (by omega), g7 _ (by omega), g6 _ (by omega), g5 _ (by omega), g4 _ (by omega), g3 _ (by omega), g2 _ (by omega), g1 _ (by omega)]
  have ho1 : w8.1 o1 = w.1 o1 := by rw [g8 _ (by omega), g7 _ (by omega), g6 _ (by omega), g5 _ (by omega), g4 _ (by omega), g3 _ (by omega), g2 _ (by omega), g1 _ (by omega), k7 _ hne]
  have ho' : ∀ j, (sI w8 o 15 (w.1 o1 15)).1 o j = if j = 15 then w.1 o1 15 else x7.1 o j := by
    intro j
    rw [sI_1, if_pos rfl, upd_1, ho]
  refine ⟨sI w8 o 15 (w.1 o1 15), ?_, ⟨fun k hk => ?_, fun k hk => ?_, fun k hk => ?_⟩, ?_, ?_, ?_, ?_, ?_, ?_, ?_, ?_, fun j hj => ?_, fun j hj => ?_, fun j hj => ?_, fun j hj => ?_, fun j hj => ?_, fun j hj => ?_, fun j hj => ?_, fun j hj => ?_⟩
  · unfold fX2_copyFrom
    rw [stZ_bz, ob_some, ← h1]
    have t0 : x1.1 o1 = w.1 o1 := by rw [h1, sI_1, if_neg hne]
    unfold pI
    simp only [ob_some, sI_1, if_neg hne, t0, stZ_bz]
    rw [← h7, e1, ob_some, e2, ob_some, e3, ob_some, e4, ob_some, e5, ob_some, e6, ob_some, e7, ob_some, e8, ob_some, ho1]
  · rw [sI_1, if_neg (by omega), g8 _ (by omega), g7 _ (by omega), g6 _ (by omega), g5 _ (by omega), g4 _ (by omega), g3 _ (by omega), g2 _ (by omega), g1 _ (by omega), k7 _ (by omega)]
  · show w8.2.1 k = _
    rw [f]
  · show w8.2.2 k = _
    rw [f]
  · rw [ho', if_neg (by omega), r7]; exact bz_bz _
  · rw [ho', if_neg (by omega), r7]; exact bz_bz _
  · rw [ho', if_neg (by omega), r7]; rfl
  · rw [ho', if_neg (by omega), r7]; rfl
  · rw [ho', if_neg (by omega), r7]; rfl
  · rw [ho', if_neg (by omega), r7]; rfl
  · rw [ho', if_neg (by omega), r7]; rfl
  · rw [ho', if_pos rfl]
  · rw [sI_1, if_neg (by omega), g8 _ (by omega), g7 _ (by omega), g6 _ (by omega), g5 _ (by omega), g4 _ (by omega), g3 _ (by omega), g2 _ (by omega), c1 j hj, k7 _ (by omega)]
  · rw [sI_1, if_neg (by omega), g8 _ (by omega), g7 _ (by omega), g6 _ (by omega), g5 _ (by omega), g4 _ (by omega), g3 _ (by omega), c2 j hj, g1 _ (by omega), k7 _ (by omega)]
  · rw [sI_1, if_neg (by omega), g8 _ (by omega), g7 _ (by omega), g6 _ (by omega), g5 _ (by omega), g4 _ (by omega), c3 j hj, g2 _ (by omega), g1 _ (by omega), k7 _ (by omega)]
  · rw [sI_1, if_neg (by omega), g8 _ (by omega), g7 _ (by omega), g6 _ (by omega), g5 _ (by omega), c4 j hj, g3 _ (by omega), g2 _ (by omega), g1 _ (by omega), k7 _ (by omega)]
  · rw [sI_1, if_neg (by omega), g8 _ (by omega), g7 _ (by omega), g6 _ (by omega), c5 j hj, g4 _ (by omega), g3 _ (by omega), g2 _ (by omega), g1 _ (by omega), k7 _ (by omega)]
  · rw [sI_1, if_neg (by omega), g8 _ (by omega), g7 _ (by omega), c6 j hj, g5 _ (by omega), g4 _ (by omega), g3 _ (by omega), g2 _ (by omega), g1 _ (by omega), k7 _ (by omega)]
  · rw [sI_1, if_neg (by omega), g8 _ (by omega), c7 j hj, g6 _ (by omega), g5 _ (by omega), g4 _ (by omega), g3 _ (by omega), g2 _ (by omega), g1 _ (by omega), k7 _ (by omega)]
  · rw [sI_1, if_neg (by omega), c8 j hj, g7 _ (by omega), g6 _ (by omega), g5 _ (by omega), g4 _ (by omega), g3 _ (by omega), g2 _ (by omega), g1 _ (by omega), k7 _ (by omega)]
/-- a state copied -/
theorem C_copyS {w : Wd} {s t : Nat} (h : s + 16 ≤ t ∨ t + 16 ≤ s) : ∃ w', fX3_copyFrom w s t = some w' ∧ Fr s (s + 16) w w' ∧ ∀ a, IO a → Rs w t a → Rs w' s a := by
  obtain ⟨w1, e1, F1, c1⟩ := C_copyO (w := w) (o := s + 1) (o1 := t + 1) (by omega)
  obtain ⟨w2, e2, F2, c2⟩ := C_copyR (w := w1) (o := s + 7) (o1 := t + 7) (by omega)
  have k1 : w2.1 t = w.1 t := by rw [F2.1 _ (by omega), F1.1 _ (by omega)]
  have F : Fr s (s + 16) w (sI (sI w2 s 2 (w.1 t 2)) s 3 (w.1 t 3)) := (((F1.wide (by omega) (by omega)).trans (F2.wide (by omega) (by omega))).sI (by omega) (by omega)).sI (by omega) (by omega)
  refine ⟨_, ?_, F, fun a I R => ?_⟩
  · unfold fX3_copyFrom
    rw [e1, ob_some, e2, ob_some]
    unfold pI
    rw [ob_some, ob_some, sI_1, if_neg (by omega), k1]
  · have G : Fr s (s + 1) w2 (sI (sI w2 s 2 (w.1 t 2)) s 3 (w.1 t 3)) := (Fr.rfl'.sI (by omega) (by omega)).sI (by omega) (by omega)
    have O1 : OC w1 (s + 1) a := SO_OC c1 I R.1
    have O2 := OC_fr (OC_fr O1 I F2 (by omega)) I G (by omega)
    have D : SD w (t + 7) w1 (t + 7) := SD_fr (fun k _ _ => F1.1 k (by omega))
    have z0 : bz ((sI (sI w2 s 2 (w.1 t 2)) s 3 (w.1 t 3)).1 (s + 7) 0) = bz (w.1 (t + 7) 0) := by
      rw [G.1 _ (by omega), c2.1]
      exact D.1
    refine ⟨O2, z0.trans R.2.1, ?_, ?_, fun q => ?_⟩
    · rw [sI_1, if_pos rfl, upd_1, if_neg (by omega), sI_1, if_pos rfl, upd_1, if_pos rfl]; exact R.2.2.1
    · rw [sI_1, if_pos rfl, upd_1, if_pos rfl]; exact R.2.2.2.1
    · obtain ⟨f, m, z⟩ := R.2.2.2.2 q
      exact ⟨f, m, RC_fr (SD_RC c2 (SD_RC D z)) G (by omega)⟩
