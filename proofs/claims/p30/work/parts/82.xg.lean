/-! PURE PART: rows that differ in the flag and the two counts of the office alone go the same way -/
def XG (b a : Nat → Nat) : Prop := ∀ k, k < 706 → (k ≠ 562 ∧ k ≠ 566 ∧ k ≠ 567) → b k = a k
section XGS
variable {a b : Nat → Nat}
theorem xg_all (h : XG b a) (I : IO a) (hr : ∀ l, l < 6 → a (568 + l) ≤ a (480 + l)) : (∀ l, l < 6 → bd b l = bd a l ∧ tb b l = tb a l) ∧ (∀ d, d < 60 → lowk b d = lowk a d ∧ high b d = high a d ∧ (sn b d ↔ sn a d) ∧ fpl b d = fpl a d) ∧ wbd b = wbd a ∧ smany b = smany a := by
  have h5 : ∀ k, k < 560 → b k = a k := fun k hk => h k (by omega) (by omega)
  have h1 : ∀ l, l < 6 → bd b l = bd a l := by
    intro l hl
    have hz := (I.1 l hl).1
    have := hr l hl
    unfold bd
    rw [h (568 + l) (by omega) (by omega), h (480 + l) (by omega) (by omega)]
    by_cases hc : a (568 + l) < a (480 + l)
    · rw [if_pos hc, if_pos hc, h _ (by omega) (by omega)]
    · rw [if_neg hc, if_neg hc]
  have h2 : ∀ l, l < 6 → tb b l = tb a l := by
    intro l hl
    unfold tb
    rw [h1 l hl, h (574 + l) (by omega) (by omega), h (492 + l) (by omega) (by omega)]
  have h3 : ∀ d, d < 60 → lowk b d = lowk a d := fun d hd => ag_lowk h5 I (h _ (by omega) (by omega))
  have h4 : ∀ d, d < 60 → (sn b d ↔ sn a d) := fun d hd => by unfold sn; rw [h _ (by omega) (by omega)]
  refine ⟨fun l hl => ⟨h1 l hl, h2 l hl⟩, fun d hd => ⟨h3 d hd, ?_, h4 d hd, ?_⟩, ?_, cnt_cong (fun d hd => h4 d hd)⟩
  · unfold high
    rw [h3 d hd]
    congr 1
    exact sm_cong (fun l hl => by rw [h (646 + d) (by omega) (by omega), h (486 + l) (by omega) (by omega), h2 l hl])
  · unfold fpl
    refine cnt_cong (fun e he => ?_)
    rw [h4 e he]
    unfold ahd
    rw [h3 e he, h3 d hd]
  · unfold wbd
    exact sm_cong (fun l hl => by rw [h (486 + l) (by omega) (by omega), h2 l hl])
theorem xg_ov (h : XG b a) (I : IO a) (hr : ∀ l, l < 6 → a (568 + l) ≤ a (480 + l)) : ov b ↔ ov a := by
  obtain ⟨g1, g2, g3, g4⟩ := xg_all h I hr
  have gc : ∀ l, l < 6 → (canr b l ↔ canr a l) := fun l hl => by unfold canr; rw [h (486 + l) (by omega) (by omega), h (568 + l) (by omega) (by omega), h (480 + l) (by omega) (by omega)]
  have g558 : b 558 = a 558 := h _ (by omega) (by omega)
  unfold ov
  rw [g4, g558]
  constructor
  · rintro (z | ⟨z1, t, z2, z3, z4, z5, z6⟩)
    · exact Or.inl (fun l hl => fun y => z l hl ((gc l hl).mpr y))
    · refine Or.inr ⟨z1, t, z2, (g2 t z2).2.2.1.mp z3, by rw [← (g2 t z2).2.2.2]; exact z4, by rw [← g3, ← (g2 t z2).1]; exact z5, fun d hd hs hf => ?_⟩
      have := z6 d hd ((g2 d hd).2.2.1.mpr hs) (by rw [(g2 d hd).2.2.2]; exact hf)
      rw [(g2 d hd).2.1, (g2 t z2).1] at this
      exact this
  · rintro (z | ⟨z1, t, z2, z3, z4, z5, z6⟩)
    · exact Or.inl (fun l hl => fun y => z l hl ((gc l hl).mp y))
    · refine Or.inr ⟨z1, t, z2, (g2 t z2).2.2.1.mpr z3, by rw [(g2 t z2).2.2.2]; exact z4, by rw [g3, (g2 t z2).1]; exact z5, fun d hd hs hf => ?_⟩
      have := z6 d hd ((g2 d hd).2.2.1.mp hs) (by rw [← (g2 d hd).2.2.2]; exact hf)
      rw [(g2 d hd).2.1, (g2 t z2).1]
      exact this
theorem xg_canr (h : XG b a) {l : Nat} (hl : l < 6) : canr b l ↔ canr a l := by
  unfold canr
  rw [h (486 + l) (by omega) (by omega), h (568 + l) (by omega) (by omega), h (480 + l) (by omega) (by omega)]
theorem xg_cand (h : XG b a) (k : Nat) : cand b k = cand a k := by
  unfold cand
  rw [h 560 (by omega) (by omega), h 563 (by omega) (by omega)]
theorem xg_chs (h : XG b a) (I : IO a) (hr : ∀ l, l < 6 → a (568 + l) ≤ a (480 + l)) {l m : Nat} (hl : l < 6) (hm : m < 6) : chs b l m ↔ chs a l m := by
  obtain ⟨g1, g2, g3, g4⟩ := xg_all h I hr
  unfold chs
  rw [h 560 (by omega) (by omega), h (486 + m) (by omega) (by omega), h (486 + l) (by omega) (by omega), (g1 m hm).2, (g1 l hl).2, h (480 + l) (by omega) (by omega), h (480 + m) (by omega) (by omega), h (568 + l) (by omega) (by omega), h (568 + m) (by omega) (by omega)]
theorem xg_nx (h : XG b a) (I : IO a) (hr : ∀ l, l < 6 → a (568 + l) ≤ a (480 + l)) : ∀ k, k ≤ 6 → nx b k = nx a k := by
  intro k
  induction k with
  | zero => intro _; rfl
  | succ k ih =>
    intro hk
    have e := ih (by omega)
    have hc := cand_lt (a := a) (k := k) (by omega)
    have hx := nx_le (a := a) (k := k) (by omega)
    have key : (canr b (cand b k) ∧ (nx b k = 6 ∨ chs b (cand b k) (nx b k))) ↔ (canr a (cand a k) ∧ (nx a k = 6 ∨ chs a (cand a k) (nx a k))) := by
      rw [xg_cand h, e]
      refine and_congr (xg_canr h hc) ?_
      by_cases h6 : nx a k = 6
      · exact ⟨fun _ => Or.inl h6, fun _ => Or.inl h6⟩
      · exact or_congr Iff.rfl (xg_chs h I hr hc (hx.2 h6).1)
    rw [nx, nx]
    by_cases hq : canr a (cand a k) ∧ (nx a k = 6 ∨ chs a (cand a k) (nx a k))
    · rw [if_pos hq, if_pos (key.mpr hq), xg_cand h]
    · rw [if_neg hq, if_neg (fun z => hq (key.mp z)), e]
theorem ors_cong {x : Nat} {P Q : Nat → Prop} : ∀ n, (∀ i, i < n → (P i ↔ Q i)) → ors x P n = ors x Q n := by
  intro n
  induction n with
  | zero => intro _; rfl
  | succ n ih =>
    intro h
    have e := ih (fun i hi => h i (by omega))
    rw [ors, ors]
    by_cases hp : P n
    · rw [if_pos hp, if_pos ((h n (by omega)).mp hp), e]
    · rw [if_neg hp, if_neg (fun z => hp ((h n (by omega)).mpr z)), e]
theorem xg_stf (h : XG b a) (I : IO a) (hr : ∀ l, l < 6 → a (568 + l) ≤ a (480 + l)) {l d : Nat} (hl : l < 6) (hd : d < 60) : XG (stf b l d) (stf a l d) := by
  intro k hk hz
  obtain ⟨g1, g2, g3, g4⟩ := xg_all h I hr
  have e586 := h (586 + d) (by omega) (by omega)
  have e646 := h (646 + d) (by omega) (by omega)
  have e498 := h (498 + d) (by omega) (by omega)
  have e564 := h 564 (by omega) (by omega)
  have e565 := h 565 (by omega) (by omega)
  have ek := h k hk hz
  have L : ∀ o, o < 6 → (lku b l d o ↔ lku a l d o) := fun o ho => by
    unfold lku
    rw [e586, h 561 (by omega) (by omega), h (486 + o) (by omega) (by omega)]
  have eo : ors (b (646 + d) ||| 2 ^ l) (lku b l d) 6 = ors (a (646 + d) ||| 2 ^ l) (lku a l d) 6 := by rw [e646]; exact ors_cong 6 L
  unfold stf
  by_cases h1 : k = 563
  · rw [if_pos h1, if_pos h1]
  rw [if_neg h1, if_neg h1]
  by_cases h2 : k = 564
  · rw [if_pos h2, if_pos h2, e564]
  rw [if_neg h2, if_neg h2]
  by_cases h3 : k = 565
  · rw [if_pos h3, if_pos h3, e565, e498]
  rw [if_neg h3, if_neg h3, if_neg hz.2.2, if_neg hz.2.2]
  by_cases h4 : k = 568 + l
  · rw [if_pos h4, if_pos h4, ek]
  rw [if_neg h4, if_neg h4]
  have k5 : (k = 574 + l ∧ tb b l < bd b l) ↔ (k = 574 + l ∧ tb a l < bd a l) := by rw [(g1 l hl).1, (g1 l hl).2]
  by_cases h5 : k = 574 + l ∧ tb a l < bd a l
  · rw [if_pos h5, if_pos (k5.mpr h5)]
  rw [if_neg h5, if_neg (fun z => h5 (k5.mp z))]
  by_cases h6 : 580 ≤ k ∧ k < 586
  · rw [if_pos h6, if_pos h6, ek]
    have k6 : (b (498 + d) = 0 ∧ lku b l d (k - 580)) ↔ (a (498 + d) = 0 ∧ lku a l d (k - 580)) := by rw [e498, L (k - 580) (by omega)]
    by_cases h7 : a (498 + d) = 0 ∧ lku a l d (k - 580)
    · rw [if_pos h7, if_pos (k6.mpr h7)]
    · rw [if_neg h7, if_neg (fun z => h7 (k6.mp z))]
  rw [if_neg h6, if_neg h6]
  have k8 : (k = 586 + d ∧ b (498 + d) = 0 ∧ b (586 + d) = 0) ↔ (k = 586 + d ∧ a (498 + d) = 0 ∧ a (586 + d) = 0) := by rw [e498, e586]
  by_cases h8 : k = 586 + d ∧ a (498 + d) = 0 ∧ a (586 + d) = 0
  · rw [if_pos h8, if_pos (k8.mpr h8), e564]
  rw [if_neg h8, if_neg (fun z => h8 (k8.mp z))]
  have k9 : (k = 646 + d ∧ b (498 + d) = 0) ↔ (k = 646 + d ∧ a (498 + d) = 0) := by rw [e498]
  by_cases h9 : k = 646 + d ∧ a (498 + d) = 0
  · rw [if_pos h9, if_pos (k9.mpr h9), eo]
  rw [if_neg h9, if_neg (fun z => h9 (k9.mp z)), ek]
theorem xg_nxt (h : XG b a) (G : GR a) (hov : ¬ ov a) : XG (nxt b) (nxt a) := by
  have hr : ∀ l, l < 6 → a (568 + l) ≤ a (480 + l) := fun l hl => (G.2.1.1 l hl).1
  obtain ⟨h1, h2, h3, -, -⟩ := nx_facts G hov
  have en : nx b 6 = nx a 6 := xg_nx h G.1 hr 6 (by omega)
  have hz := (G.1.1 _ h1).1
  have hr1 := hr _ h1
  have ed : nxd b = nxd a := by
    unfold nxd
    rw [en, h (568 + nx a 6) (by omega) (by omega), h _ (by omega) (by omega)]
  intro k hk hz2
  unfold nxt
  rw [up_n _ _ hz2.1, up_n _ _ hz2.1, en, ed]
  exact xg_stf h G.1 hr h1 h3 k hk hz2
theorem xg_run : ∀ (n : Nat) (b a : Nat → Nat), XG b a → GR a → run b n = run a n ∧ XG (itr b (run b n)) (itr a (run a n)) := by
  intro n
  induction n with
  | zero => intro b a h _; exact ⟨rfl, h⟩
  | succ n ih =>
    intro b a h G
    have hv := xg_ov h G.1 (fun l hl => (G.2.1.1 l hl).1)
    by_cases ho : ov a
    · rw [run_o ho, run_o (hv.mpr ho)]
      exact ⟨rfl, h⟩
    · obtain ⟨e1, e2⟩ := ih (nxt b) (nxt a) (xg_nxt h G ho) (GR_nxt G ho)
      rw [run_n ho, run_n (fun z => ho (hv.mp z))]
      exact ⟨by rw [e1], e2⟩
theorem xg_stA (I : IO a) (Ib : IO b) (h : ∀ k, k < 559 → b k = a k) {v x : Nat} (hv : v ≤ 2) (hx : x ≤ 1) : XG (stA b v x) (stA a v x) := by
  intro k hk hz
  obtain ⟨s1, s2, s3, s4, s5, s6, s7, s8, s9, s10, s11⟩ := (stA_ok I hv hx).1
  obtain ⟨t1, t2, t3, t4, t5, t6, t7, t8, t9, t10, t11⟩ := (stA_ok Ib hv hx).1
  by_cases h1 : k < 559
  · rw [s1 k h1, t1 k h1, h k h1]
  by_cases h2 : k < 568
  · obtain rfl | rfl | rfl | rfl | rfl | rfl : k = 559 ∨ k = 560 ∨ k = 561 ∨ k = 563 ∨ k = 564 ∨ k = 565 := by omega
    · rw [s4, t4]
    · rw [s5, t5]
    · rw [s6, t6]
    · rw [s7, t7]
    · rw [s8, t8]
    · rw [s9, t9]
  by_cases h3 : k < 574
  · have := (s10 (k - 568) (by omega)).1
    have := (t10 (k - 568) (by omega)).1
    rw [show 568 + (k - 568) = k by omega] at *
    omega
  by_cases h4 : k < 580
  · have := (s10 (k - 574) (by omega)).2.1
    have := (t10 (k - 574) (by omega)).2.1
    rw [show 574 + (k - 574) = k by omega] at *
    omega
  by_cases h5 : k < 586
  · have := (s10 (k - 580) (by omega)).2.2
    have := (t10 (k - 580) (by omega)).2.2
    rw [show 580 + (k - 580) = k by omega] at *
    omega
  by_cases h6 : k < 646
  · have := (s11 (k - 586) (by omega)).1
    have := (t11 (k - 586) (by omega)).1
    rw [show 586 + (k - 586) = k by omega] at *
    omega
  · have := (s11 (k - 646) (by omega)).2
    have := (t11 (k - 646) (by omega)).2
    rw [show 646 + (k - 646) = k by omega] at *
    omega
theorem xg_fin (I : IO a) (Ib : IO b) (h : ∀ k, k < 559 → b k = a k) {v x : Nat} (hv : v ≤ 2) (hx : x ≤ 1) : XG (fin b v x) (fin a v x) := (xg_run 240 _ _ (xg_stA I Ib h hv hx) (stA_ok I hv hx).2).2
end XGS
