/-! PURE PART: a step and a start of the reference -/
def SX1 (a b : Nat → Nat) (l d : Nat) : Prop :=
  (∀ k, k < 706 → k ≠ 562 → k ≠ 563 → k ≠ 564 → k ≠ 565 → k ≠ 568 + l → k ≠ 646 + d → k ≠ 586 + d → ¬ (580 ≤ k ∧ k < 586) → b k = a k) ∧
  b 563 = l + 1 ∧ b 564 = a 564 + 1 ∧ b 565 = a 565 + a (498 + d) ∧ b (568 + l) = a (568 + l) + 1 ∧
  (∀ m, m < 6 → b (580 + m) = a (580 + m) + @ite Nat (a (498 + d) = 0 ∧ lku a l d m) (Classical.propDecidable _) 1 0) ∧
  (a (498 + d) ≠ 0 → b (586 + d) = a (586 + d) ∧ b (646 + d) = a (646 + d)) ∧
  (a (498 + d) = 0 → b (586 + d) = (if a (586 + d) = 0 then a 564 + 1 else a (586 + d)) ∧ b (646 + d) < 64 ∧ ∀ o, o < 6 → ((b (646 + d)).testBit o = true ↔ (a (646 + d)).testBit o = true ∨ o = l ∨ lku a l d o))
theorem fr_congr {a b : Nat → Nat} {d : Nat} (h : ∀ k, k < 706 → k ≠ 562 → b k = a k) (hd : d < 60) : b (646 + d) = a (646 + d) ∧ b (586 + d) = a (586 + d) ∧ b (498 + d) = a (498 + d) := ⟨h _ (by omega) (by omega), h _ (by omega) (by omega), h _ (by omega) (by omega)⟩
section AGR
variable {a b : Nat → Nat}
theorem ag_scr (h : ∀ k, k < 560 → b k = a k) (I : IO a) {l d : Nat} (hl : l < 6) : scr b l d = scr a l d := by
  have hz := (I.1 l hl).1
  unfold scr
  rw [h (480 + l) (by omega)]
  exact sm_cong (fun p hp => by rw [h (40 * l + p) (by omega), h (240 + 40 * l + p) (by omega)])
theorem ag_lowk (h : ∀ k, k < 560 → b k = a k) (I : IO a) {d : Nat} (h2 : b (646 + d) = a (646 + d)) : lowk b d = lowk a d := by
  unfold lowk
  exact sm_cong (fun l hl => by rw [h2, h (486 + l) (by omega), ag_scr h I hl])
/-- all but the flag is the same -/
theorem ag_all (h : ∀ k, k < 706 → k ≠ 562 → b k = a k) (I : IO a) (hr : ∀ l, l < 6 → a (568 + l) ≤ a (480 + l)) : (∀ l, l < 6 → bd b l = bd a l ∧ tb b l = tb a l) ∧ (∀ d, d < 60 → lowk b d = lowk a d ∧ high b d = high a d ∧ (sn b d ↔ sn a d) ∧ fpl b d = fpl a d) ∧ wbd b = wbd a ∧ smany b = smany a := by
  have h5 : ∀ k, k < 560 → b k = a k := fun k hk => h k (by omega) (by omega)
  have h1 : ∀ l, l < 6 → bd b l = bd a l := by
    intro l hl
    have hz := (I.1 l hl).1
    have := hr l hl
    unfold bd
    rw [h (568 + l) (by omega) (by omega), h (480 + l) (by omega) (by omega)]
    by_cases hc : a (568 + l) < a (480 + l)
    · rw [if_pos hc, if_pos hc, h _ (by omega) (by omega)]
    · rw [if_neg hc, if_neg hc]
  have h2 : ∀ l, l < 6 → tb b l = tb a l := by
    intro l hl
    unfold tb
    rw [h1 l hl, h (574 + l) (by omega) (by omega), h (492 + l) (by omega) (by omega)]
  have h3 : ∀ d, d < 60 → lowk b d = lowk a d := fun d hd => ag_lowk h5 I (h _ (by omega) (by omega))
  have h4 : ∀ d, d < 60 → (sn b d ↔ sn a d) := fun d hd => by unfold sn; rw [h _ (by omega) (by omega)]
  refine ⟨fun l hl => ⟨h1 l hl, h2 l hl⟩, fun d hd => ⟨h3 d hd, ?_, h4 d hd, ?_⟩, ?_, cnt_cong (fun d hd => h4 d hd)⟩
  · unfold high
    rw [h3 d hd]
    congr 1
    exact sm_cong (fun l hl => by rw [h (646 + d) (by omega) (by omega), h (486 + l) (by omega) (by omega), h2 l hl])
  · unfold fpl
    refine cnt_cong (fun e he => ?_)
    rw [h4 e he]
    unfold ahd
    rw [h3 e he, h3 d hd]
  · unfold wbd
    exact sm_cong (fun l hl => by rw [h (486 + l) (by omega) (by omega), h2 l hl])
theorem ag_ov (h : ∀ k, k < 706 → k ≠ 562 → b k = a k) (I : IO a) (hr : ∀ l, l < 6 → a (568 + l) ≤ a (480 + l)) : ov b ↔ ov a := by
  obtain ⟨g1, g2, g3, g4⟩ := ag_all h I hr
  have gc : ∀ l, l < 6 → (canr b l ↔ canr a l) := fun l hl => by unfold canr; rw [h (486 + l) (by omega) (by omega), h (568 + l) (by omega) (by omega), h (480 + l) (by omega) (by omega)]
  have g558 : b 558 = a 558 := h _ (by omega) (by omega)
  unfold ov
  rw [g4, g558]
  constructor
  · rintro (z | ⟨z1, t, z2, z3, z4, z5, z6⟩)
    · exact Or.inl (fun l hl => fun y => z l hl ((gc l hl).mpr y))
    · refine Or.inr ⟨z1, t, z2, (g2 t z2).2.2.1.mp z3, by rw [← (g2 t z2).2.2.2]; exact z4, by rw [← g3, ← (g2 t z2).1]; exact z5, fun d hd hs hf => ?_⟩
      have := z6 d hd ((g2 d hd).2.2.1.mpr hs) (by rw [(g2 d hd).2.2.2]; exact hf)
      rw [(g2 d hd).2.1, (g2 t z2).1] at this
      exact this
  · rintro (z | ⟨z1, t, z2, z3, z4, z5, z6⟩)
    · exact Or.inl (fun l hl => fun y => z l hl ((gc l hl).mp y))
    · refine Or.inr ⟨z1, t, z2, (g2 t z2).2.2.1.mpr z3, by rw [(g2 t z2).2.2.2]; exact z4, by rw [g3, (g2 t z2).1]; exact z5, fun d hd hs hf => ?_⟩
      have := z6 d hd ((g2 d hd).2.2.1.mp hs) (by rw [← (g2 d hd).2.2.2]; exact hf)
      rw [(g2 d hd).2.1, (g2 t z2).1]
      exact this
theorem ag_IR0 (h : ∀ k, k < 706 → k ≠ 562 → b k = a k) (I : IO a) (J : IR0 a) : IR0 b := by
  obtain ⟨j1, j2, j3, j4, j5, j6, j7, j8, j9, j10, j11⟩ := J
  refine ⟨fun m hm => ?_, fun e he => ?_, fun e o he ho hb => ?_, fun e he => ?_, fun e he hs => ?_, fun m p hm hp hg' => ?_, ?_, ?_, ?_, ?_, fun e he => ?_⟩
  · rw [h (568 + m) (by omega) (by omega), h (480 + m) (by omega) (by omega), h (574 + m) (by omega) (by omega)]; exact j1 m hm
  · rw [h _ (by omega) (by omega)]; exact j2 e he
  · rw [h _ (by omega) (by omega)] at hb ⊢; exact j3 e o he ho hb
  · unfold sn; rw [h (586 + e) (by omega) (by omega), h (646 + e) (by omega) (by omega)]; exact j4 e he
  · unfold sn at hs; rw [h (586 + e) (by omega) (by omega)] at hs; rw [h _ (by omega) (by omega)]; exact j5 e he hs
  · have hz := (I.1 m hm).1
    have h1 := (j1 m hm).1
    rw [h (568 + m) (by omega) (by omega)] at hp
    have hd := (I.2.1 m p hm (by omega)).1
    rw [h (40 * m + p) (by omega) (by omega)] at hg' ⊢
    rw [h _ (by omega) (by omega)] at hg' ⊢
    exact j6 m p hm hp hg'
  · rw [h _ (by omega) (by omega), j7]; exact sm_cong (fun m hm => by rw [h _ (by omega) (by omega)])
  · rw [h _ (by omega) (by omega)]; exact j8
  · rw [h _ (by omega) (by omega)]; exact j9
  · rw [h _ (by omega) (by omega)]; exact j10
  · rw [h (586 + e) (by omega) (by omega), h 564 (by omega) (by omega)]; exact j11 e he
theorem ag_FR {f : Nat → Nat} {m : Nat} (h : ∀ k, k < 706 → k ≠ 562 → b k = a k) (I : IO a) (hr : ∀ l, l < 6 → a (568 + l) ≤ a (480 + l)) (F : FR a f m) : FR b f m := by
  obtain ⟨g1, g2, g3, g4⟩ := ag_all h I hr
  refine ⟨F.1, fun p hp => ⟨(F.2.1 p hp).1, (g2 _ (F.2.1 p hp).1).2.2.1.mpr (F.2.1 p hp).2⟩, fun p q hpq hq => ?_, fun d hd hs => F.2.2.2 d hd ((g2 d hd).2.2.1.mp hs)⟩
  have h1 := (F.2.1 p (by omega)).1
  have h2 := (F.2.1 q hq).1
  unfold ahd
  rw [(g2 _ h1).1, (g2 _ h2).1]
  exact F.2.2.1 p q hpq hq
end AGR
/-- the row and the lows alone -/
def Fm (w w' : Wd) : Prop := Fr 112 117 w w' ∧ w'.1 113 = w.1 113 ∧ w'.1 114 = w.1 114 ∧ w'.1 115 = w.1 115
theorem Fm.rfl' {w : Wd} : Fm w w := ⟨Fr.rfl', rfl, rfl, rfl⟩
theorem Fm.trans {w w' w'' : Wd} (h : Fm w w') (h2 : Fm w' w'') : Fm w w'' := ⟨h.1.trans h2.1, h2.2.1.trans h.2.1, h2.2.2.1.trans h.2.2.1, h2.2.2.2.trans h.2.2.2⟩
theorem Fr.fm {w w' : Wd} (h : Fr 112 113 w w') : Fm w w' := ⟨h.wide (by omega) (by omega), h.1 113 (by omega), h.1 114 (by omega), h.1 115 (by omega)⟩
theorem Fr.fm6 {w w' : Wd} (h : Fr 116 117 w w') : Fm w w' := ⟨h.wide (by omega) (by omega), h.1 113 (by omega), h.1 114 (by omega), h.1 115 (by omega)⟩
/-- the row, the lows and the spare row alone -/
def Ft (w w' : Wd) : Prop := Fr 112 117 w w' ∧ w'.1 113 = w.1 113 ∧ w'.1 114 = w.1 114
theorem Ft.trans {w w' w'' : Wd} (h : Ft w w') (h2 : Ft w' w'') : Ft w w'' := ⟨h.1.trans h2.1, h2.2.1.trans h.2.1, h2.2.2.trans h.2.2⟩
theorem Ft.rfl' {w : Wd} : Ft w w := ⟨Fr.rfl', rfl, rfl⟩
theorem Fm.ft {w w' : Wd} (h : Fm w w') : Ft w w' := ⟨h.1, h.2.1, h.2.2.1⟩
theorem Fr.ft5 {w w' : Wd} (h : Fr 115 116 w w') : Ft w w' := ⟨h.wide (by omega) (by omega), h.1 113 (by omega), h.1 114 (by omega)⟩
section MON
variable {w : Wd} {a f : Nat → Nat} {m : Nat}
/-- the flag is set -/
theorem M_flag (Z : ZA (w.1 112) a) (I : IO a) (J : IR0 a) (F : FR a f m) {ρ : Type} (K : Wd → Option ρ) : ∃ w', (ob2 (fX6_isOver w 111) fun v w2 => if v = 0 then (stI 706 w2 112 562 0).bind K else (stI 706 w2 112 562 1).bind K) = K w' ∧ ZA (w'.1 112) (up a 562 (@ite Nat (ov a) (Classical.propDecidable _) 1 0)) ∧ Fm w w' := by
  obtain ⟨w1, e1, F1⟩ := M_isOver Z I J F
  have Z1 : ZA (w1.1 112) a := by rw [F1.1 112 (by omega)]; exact Z
  rw [e1, ob2_some]
  by_cases h : ov a
  · obtain ⟨w2, e2, Z2, F2⟩ := zs2 Z1 562 1 (by omega) (by omega)
    rw [if_pos h, if_neg (show ¬ (1 : Int32) = 0 by decide), if_pos h]
    exact ⟨w2, by rw [n562, n1, e2, ob_some], Z2, F1.fm6.trans F2.fm⟩
  · obtain ⟨w2, e2, Z2, F2⟩ := zs2 Z1 562 0 (by omega) (by omega)
    rw [if_neg h, if_pos (show (0 : Int32) = 0 from rfl), if_neg h]
    exact ⟨w2, by rw [n562, l0, e2, ob_some], Z2, F1.fm6.trans F2.fm⟩
theorem M_b64 (Z : ZA (w.1 112) a) (I : IO a) {l d : Nat} (hl : l < 6) (hd : d < 60) (hk : a (646 + d) < 64) (hs : a (586 + d) ≤ 240) (h561 : a 561 ≤ 1) (hF : ∀ b, SX1 a b l d → IO b ∧ IR0 b ∧ ∃ f m, FR b f m) : ∃ w' b, bX6_oneStep_64 w 111 (nI l) (nI d) = some w' ∧ SX1 a b l d ∧ ZA (w'.1 112) (up b 562 (@ite Nat (ov b) (Classical.propDecidable _) 1 0)) ∧ Fm w w' := by
  have hg := I.2.2.2.2.1 d hd
  obtain ⟨w1, e1, Z1, F1⟩ := zs2 Z (568 + l) (a (568 + l) + 1) (by omega) (by omega)
  obtain ⟨w2, e2, Z2, F2⟩ := zs563 Z1 l
  obtain ⟨a2, ha2⟩ : ∃ x, x = up (up a (568 + l) (a (568 + l) + 1)) 563 (l + 1) := ⟨_, rfl⟩
  rw [← ha2] at Z2
  have c1 : ∀ k, k ≠ 568 + l → k ≠ 563 → a2 k = a k := fun k h1 h2 => by rw [ha2, up_n _ _ h2, up_n _ _ h1]
  have c2 : a2 (568 + l) = a (568 + l) + 1 := by rw [ha2, up_n _ _ (by omega), up_s]
  have c3 : a2 563 = l + 1 := by rw [ha2, up_s]
  have I2 : IO a2 := IO_of I (fun k hk => c1 k (by omega) (by omega))
  have F12 := F1.trans F2
  have head : bX6_oneStep_64 w 111 (nI l) (nI d) = (if nI (a (498 + d)) = 1 then
    (ldI 706 w2 112 565).bind fun v20 =>
    (stI 706 w2 112 565 (v20 + 1)).bind fun w21 =>
    (ldI 706 w21 112 564).bind fun v22 =>
    (stI 706 w21 112 564 (v22 + 1)).bind fun w23 =>
    ob2 (fX6_isOver w23 111) fun v24 w25 =>
    if v24 = 0 then
      (stI 706 w25 112 562 0).bind fun w27 =>
      some w27
    else
      (stI 706 w25 112 562 1).bind fun w28 =>
      some w28
  else
    (fX6_sees w2 111 (nI l) (nI d)).bind fun w12 =>
    (ldI 706 w12 112 564).bind fun v13 =>
    (stI 706 w12 112 564 (v13 + 1)).bind fun w14 =>
    ob2 (fX6_isOver w14 111) fun v15 w16 =>
    if v15 = 0 then
      (stI 706 w16 112 562 0).bind fun w18 =>
      some w18
    else
      (stI 706 w16 112 562 1).bind fun w19 =>
      some w19) := by
    unfold bX6_oneStep_64
    rw [n568, nI_add, zl Z (by omega) (by omega), ob_some, show nI (a (568 + l)) + 1 = nI (a (568 + l) + 1) by rw [n1, nI_add], e1, ob_some, n563, e2, ob_some, n498, nI_add, zl Z2 (by omega) (by omega), c1 _ (by omega) (by omega), ob_some]
  rw [head]
  by_cases hz : a (498 + d) = 0
  · rw [if_neg (by rw [hz]; decide)]
    obtain ⟨w3, b3, e3, Z3, F3, s1, s2, s3, s4, s5⟩ := M_sees Z2 I2 hl hd (by rw [c1 _ (by omega) (by omega)]; exact hk) (by rw [c1 _ (by omega) (by omega)]; exact hs) (by rw [c1 _ (by omega) (by omega)]; exact h561)
    have lk : ∀ o, o < 6 → (lku a2 l d o ↔ lku a l d o) := fun o ho => by unfold lku; rw [c1 (586 + d) (by omega) (by omega), c1 561 (by omega) (by omega), c1 (486 + o) (by omega) (by omega)]
    obtain ⟨w4, e4, Z4, F4⟩ := zs2 Z3 564 (a 564 + 1) (by omega) (by omega)
    have e564 : b3 564 = a 564 := by rw [s1 _ (by omega) (by omega) (by omega) (by omega), c1 _ (by omega) (by omega)]
    have hSX : SX1 a (up b3 564 (a 564 + 1)) l d := by
      refine ⟨fun k hk h2 h3 h4 h5 h6 h7 h8 h9 => ?_, ?_, up_s .., ?_, ?_, fun o ho => ?_, fun z => absurd hz z, fun _ => ⟨?_, ?_, fun o ho => ?_⟩⟩
      · rw [up_n _ _ h4, s1 k hk h7 h8 h9, c1 k h6 h3]
      · rw [up_n _ _ (by omega), s1 _ (by omega) (by omega) (by omega) (by omega), c3]
      · rw [up_n _ _ (by omega), s1 _ (by omega) (by omega) (by omega) (by omega), c1 _ (by omega) (by omega), hz, Nat.add_zero]
      · rw [up_n _ _ (by omega), s1 _ (by omega) (by omega) (by omega) (by omega), c2]
      · rw [up_n _ _ (by omega), s5 o ho, c1 _ (by omega) (by omega)]
        by_cases hlk : lku a l d o
        · rw [if_pos ((lk o ho).mpr hlk), if_pos ⟨hz, hlk⟩]
        · rw [if_neg (fun z => hlk ((lk o ho).mp z)), if_neg (fun z => hlk z.2)]
      · rw [up_n _ _ (by omega), s2, c1 (586 + d) (by omega) (by omega), c1 564 (by omega) (by omega)]
      · rw [up_n _ _ (by omega)]; exact s3
      · rw [up_n _ _ (by omega), s4 o ho, lk o ho, c1 (646 + d) (by omega) (by omega)]
    obtain ⟨I4, J4, f4, m4, FR4⟩ := hF _ hSX
    obtain ⟨w5, e5, Z5, F5⟩ := M_flag Z4 I4 J4 FR4 (fun w => some w)
    refine ⟨w5, _, ?_, hSX, Z5, ((F12.trans F3).trans F4).fm.trans F5⟩
    rw [e3, ob_some, n564, zl Z3 (by omega) (by omega), e564, ob_some, show nI (a 564) + 1 = nI (a 564 + 1) by rw [n1, nI_add], e4, ob_some]
    exact e5
  · have hz1 : a (498 + d) = 1 := by omega
    rw [if_pos (by rw [hz1]; rfl)]
    obtain ⟨w3, e3, Z3, F3⟩ := zs2 Z2 565 (a 565 + 1) (by omega) (by omega)
    obtain ⟨w4, e4, Z4, F4⟩ := zs2 Z3 564 (a 564 + 1) (by omega) (by omega)
    have hSX : SX1 a (up (up a2 565 (a 565 + 1)) 564 (a 564 + 1)) l d := by
      have hno : ∀ m, ¬ (a (498 + d) = 0 ∧ lku a l d m) := fun m z => hz z.1
      refine ⟨fun k hk h2 h3 h4 h5 h6 h7 h8 h9 => ?_, ?_, up_s .., ?_, ?_, fun o ho => ?_, fun _ => ⟨?_, ?_⟩, fun z => absurd z hz⟩
      · rw [up_n _ _ h4, up_n _ _ h5, c1 k h6 h3]
      · rw [up_n _ _ (by omega), up_n _ _ (by omega), c3]
      · rw [up_n _ _ (by omega), up_s, hz1]
      · rw [up_n _ _ (by omega), up_n _ _ (by omega), c2]
      · rw [up_n _ _ (by omega), up_n _ _ (by omega), c1 _ (by omega) (by omega), if_neg (hno o), Nat.add_zero]
      · rw [up_n _ _ (by omega), up_n _ _ (by omega), c1 _ (by omega) (by omega)]
      · rw [up_n _ _ (by omega), up_n _ _ (by omega), c1 _ (by omega) (by omega)]
    obtain ⟨I4, J4, f4, m4, FR4⟩ := hF _ hSX
    obtain ⟨w5, e5, Z5, F5⟩ := M_flag Z4 I4 J4 FR4 (fun w => some w)
    refine ⟨w5, _, ?_, hSX, Z5, ((F12.trans F3).trans F4).fm.trans F5⟩
    rw [n565, zl Z2 (by omega) (by omega), c1 565 (by omega) (by omega), ob_some, show nI (a 565) + 1 = nI (a 565 + 1) by rw [n1, nI_add], e3, ob_some, n564, zl Z3 (by omega) (by omega), up_n _ _ (by omega), c1 564 (by omega) (by omega), ob_some, show nI (a 564) + 1 = nI (a 564 + 1) by rw [n1, nI_add], e4, ob_some]
    exact e5
theorem ST_of_SX1 {a a0 b : Nat → Nat} {l d : Nat} (hl : l < 6) (hd : d < 60) (X : SX1 a0 b l d) (h1 : ∀ k, k ≠ 574 + l → k ≠ 567 → a0 k = a k) (h2 : a0 (574 + l) = if tb a l < bd a l then 1 else a (574 + l)) (h3 : a0 567 = a 567 + (if tb a l < bd a l then 1 else 0)) : ST a b l d := by
  obtain ⟨x1, x2, x3, x4, x5, x6, x7, x8⟩ := X
  have lk : ∀ o, o < 6 → (lku a0 l d o ↔ lku a l d o) := fun o ho => by unfold lku; rw [h1 (586 + d) (by omega) (by omega), h1 561 (by omega) (by omega), h1 (486 + o) (by omega) (by omega)]
  have g := h1 (498 + d) (by omega) (by omega)
  refine ⟨fun k hk => ?_, ⟨?_, ?_, ?_, ?_⟩, ⟨x2, ?_, ?_, ?_⟩, fun m hm => ?_, fun m hm => ?_, fun m hm => ?_, fun e he hne => ⟨?_, ?_⟩, fun z => ?_, fun z => ?_⟩
  · rw [x1 k (by omega) (by omega) (by omega) (by omega) (by omega) (by omega) (by omega) (by omega) (by omega), h1 k (by omega) (by omega)]
  · rw [x1 _ (by omega) (by omega) (by omega) (by omega) (by omega) (by omega) (by omega) (by omega) (by omega), h1 _ (by omega) (by omega)]
  · rw [x1 _ (by omega) (by omega) (by omega) (by omega) (by omega) (by omega) (by omega) (by omega) (by omega), h1 _ (by omega) (by omega)]
  · rw [x1 _ (by omega) (by omega) (by omega) (by omega) (by omega) (by omega) (by omega) (by omega) (by omega), h1 _ (by omega) (by omega)]
  · rw [x1 _ (by omega) (by omega) (by omega) (by omega) (by omega) (by omega) (by omega) (by omega) (by omega), h1 _ (by omega) (by omega)]
  · rw [x3, h1 _ (by omega) (by omega)]
  · rw [x4, h1 565 (by omega) (by omega), g]
  · rw [x1 _ (by omega) (by omega) (by omega) (by omega) (by omega) (by omega) (by omega) (by omega) (by omega), h3]
  · by_cases h : m = l
    · rw [if_pos h, h, x5, h1 _ (by omega) (by omega)]
    · rw [if_neg h, x1 _ (by omega) (by omega) (by omega) (by omega) (by omega) (by omega) (by omega) (by omega) (by omega), h1 _ (by omega) (by omega)]
  · rw [x1 _ (by omega) (by omega) (by omega) (by omega) (by omega) (by omega) (by omega) (by omega) (by omega)]
    by_cases h : m = l
    · subst h
      rw [h2]
      by_cases hc : tb a m < bd a m
      · rw [if_pos hc, if_pos ⟨rfl, hc⟩]
      · rw [if_neg hc, if_neg (fun z => hc z.2)]
    · rw [if_neg (fun z => h z.1), h1 _ (by omega) (by omega)]
  · rw [x6 m hm, h1 (580 + m) (by omega) (by omega)]
    by_cases hc : a (498 + d) = 0 ∧ lku a l d m
    · rw [if_pos hc, if_pos ⟨g.trans hc.1, (lk m hm).mpr hc.2⟩]
    · rw [if_neg hc, if_neg (fun z => hc ⟨g.symm.trans z.1, (lk m hm).mp z.2⟩)]
  · rw [x1 _ (by omega) (by omega) (by omega) (by omega) (by omega) (by omega) (by omega) (by omega) (by omega), h1 _ (by omega) (by omega)]
  · rw [x1 _ (by omega) (by omega) (by omega) (by omega) (by omega) (by omega) (by omega) (by omega) (by omega), h1 _ (by omega) (by omega)]
  · rw [g] at x7
    rw [(x7 z).1, (x7 z).2, h1 _ (by omega) (by omega), h1 _ (by omega) (by omega)]
    exact ⟨rfl, rfl⟩
  · rw [g] at x8
    have y := x8 z
    refine ⟨?_, y.2.1, fun o ho => ?_⟩
    · rw [y.1, h1 (586 + d) (by omega) (by omega), h1 564 (by omega) (by omega)]
    · rw [y.2.2 o ho, lk o ho, h1 (646 + d) (by omega) (by omega)]
theorem ST_flag {a b : Nat → Nat} {l d v : Nat} (hl : l < 6) (hd : d < 60) (S : ST a b l d) : ST a (up b 562 v) l d := by
  obtain ⟨s1, s2, s3, s4, s5, s6, s7, s8, s9⟩ := S
  have u : ∀ k, k ≠ 562 → up b 562 v k = b k := fun k hk => up_n _ _ hk
  refine ⟨fun k hk => ?_, ?_, ?_, fun m hm => ?_, fun m hm => ?_, fun m hm => ?_, fun e he hne => ?_, fun z => ?_, fun z => ?_⟩
  · rw [u k (by omega)]; exact s1 k hk
  · rw [u 559 (by omega), u 560 (by omega), u 561 (by omega), u 566 (by omega)]; exact s2
  · rw [u 563 (by omega), u 564 (by omega), u 565 (by omega), u 567 (by omega)]; exact s3
  · rw [u _ (by omega)]; exact s4 m hm
  · rw [u _ (by omega)]; exact s5 m hm
  · rw [u _ (by omega)]; exact s6 m hm
  · rw [u (586 + e) (by omega), u (646 + e) (by omega)]; exact s7 e he hne
  · rw [u (586 + d) (by omega), u (646 + d) (by omega)]; exact s8 z
  · rw [u (586 + d) (by omega), u (646 + d) (by omega)]; exact s9 z
theorem IR_flag {b : Nat → Nat} (I : IO b) (J : IR0 b) : IR (up b 562 (@ite Nat (ov b) (Classical.propDecidable _) 1 0)) := by
  have h : ∀ k, k < 706 → k ≠ 562 → up b 562 (@ite Nat (ov b) (Classical.propDecidable _) 1 0) k = b k := fun k _ h2 => up_n _ _ h2
  refine ⟨ag_IR0 h I J, ?_, ?_⟩
  · rw [up_s]; split <;> omega
  · rw [ag_ov h I (fun l hl => (J.1 l hl).1), up_s]
    by_cases hv : ov b
    · rw [if_pos hv]; exact ⟨fun _ => rfl, fun _ => hv⟩
    · rw [if_neg hv]; exact ⟨fun z => absurd z hv, fun z => by omega⟩
theorem M_oneStep (Z : ZA (w.1 112) a) (I : IO a) (J : IR0 a) {l d : Nat} (hl : nx a 6 = l) (hl6 : l < 6) (hc : canr a l) (hd : d = a (40 * l + a (568 + l))) (hF : ∀ b, ST a b l d → ∃ f m, FR b f m) : ∃ w' b, fX6_oneStep w 111 = some w' ∧ ZA (w'.1 112) b ∧ ST a b l d ∧ IR b ∧ Fm w w' := by
  have hz := (I.1 l hl6).1
  have hc2 := hc.2
  have hd60 : d < 60 := by rw [hd]; exact (I.2.1 l _ hl6 hc.2).1
  have b1 := bd_le I hl6
  have b2 := tb_le I hl6
  have k1 := J.2.1 d hd60
  have k2 := sn_lt J I hd60
  have k3 := J.2.2.2.2.2.2.2.2.1
  have enc : encM (nx a 6) = nI l := by unfold encM; rw [hl, if_neg (by omega)]
  have hFF : ∀ b, ST a b l d → IO b ∧ IR0 b ∧ ∃ f m, FR b f m := fun b S => ⟨ST_IO S I, ST_IR0 S I J hl6 hc hd, hF b S⟩
  unfold fX6_oneStep
  rw [M_nextList Z I J, enc, ob_some]
  simp (disch := omega) only [Nat.reduceAdd, Nat.reduceMul, Nat.reduceSub, l0, n1, n2, n3, n4, n5, n6, n40, n60, n240, n480, n486, n492, n498, n558, n559, n560, n561, n562, n563, n564, n565, n566, n567, n568, n574, n580, n586, n646, nI_add, nI_mul, Nat.zero_add, Nat.add_zero, ob_some, ob2_some, nI_le_, nI_lt_, nI_eq_, zl Z, M_bound Z I J, M_tb Z I J]
  rw [← hd]
  by_cases ht : bd a l ≤ tb a l
  · have c : ¬ tb a l < bd a l := by omega
    rw [if_pos ht]
    have hX : ∀ b, SX1 a b l d → ST a b l d := fun b X => ST_of_SX1 hl6 hd60 X (fun _ _ _ => rfl) (by rw [if_neg c]) (by rw [if_neg c]; rfl)
    obtain ⟨w', b, e, X, Z', F'⟩ := M_b64 Z I hl6 hd60 k1 k2 k3 (fun b X => hFF b (hX b X))
    have g := hFF b (hX b X)
    exact ⟨w', _, e, Z', ST_flag hl6 hd60 (hX b X), IR_flag g.1 g.2.1, F'⟩
  · have c : tb a l < bd a l := by omega
    rw [if_neg ht]
    obtain ⟨w1, e1, Z1, F1⟩ := zs2 Z (574 + l) 1 (by omega) (by omega)
    obtain ⟨w2, e2, Z2, F2⟩ := zs2 Z1 567 (a 567 + 1) (by omega) (by omega)
    have u : ∀ k, k ≠ 574 + l → k ≠ 567 → up (up a (574 + l) 1) 567 (a 567 + 1) k = a k := fun k h1 h2 => by rw [up_n _ _ h2, up_n _ _ h1]
    have I2 : IO (up (up a (574 + l) 1) 567 (a 567 + 1)) := IO_of I (fun k hk => u k (by omega) (by omega))
    have hX : ∀ b, SX1 (up (up a (574 + l) 1) 567 (a 567 + 1)) b l d → ST a b l d := fun b X => ST_of_SX1 hl6 hd60 X u (by rw [up_n _ _ (by omega), up_s, if_pos c]) (by rw [up_s, if_pos c])
    obtain ⟨w', b, e, X, Z', F'⟩ := M_b64 Z2 I2 hl6 hd60 (by rw [u _ (by omega) (by omega)]; exact k1) (by rw [u _ (by omega) (by omega)]; exact k2) (by rw [u _ (by omega) (by omega)]; exact k3) (fun b X => hFF b (hX b X))
    have g := hFF b (hX b X)
    refine ⟨w', _, ?_, Z', ST_flag hl6 hd60 (hX b X), IR_flag g.1 g.2.1, (F1.trans F2).fm.trans F'⟩
    rw [e1, ob_some, zl Z1 (by omega) (by omega), up_n _ _ (by omega), ob_some, nI_add, e2, ob_some]
    exact e
end MON
