/-! PURE PART: what is told at the end by honest clerks is just what is wanted -/
section THR
variable {a f : Nat → Nat} {m : Nat}
theorem sum_le {f g : Nat → Nat} {n : Nat} (h : ∀ i, i < n → f i ≤ g i) : sm f n ≤ sm g n := sm_le_sm h
/-- an unknown score is at most the bound -/
theorem HX_unk (H : HX a) {l d : Nat} (hl : l < 6) (hg : a (498 + d) = 0) (hb : ¬ (a (646 + d)).testBit l = true) : scr a l d ≤ bd a l := by
  rcases pl_cases H.1.1 (d := d) hl with ⟨p, hp, hd, -, e⟩ | ⟨-, -, e⟩
  · rw [e]
    have hpr : a (568 + l) ≤ p := by
      apply Classical.byContradiction
      intro z
      have := H.1.2.1.2.2.2.2.2.1 l p hl (by omega) (by rw [hd]; exact hg)
      rw [hd] at this
      exact hb this
    unfold bd
    rw [if_pos (by omega)]
    by_cases hq : p = a (568 + l)
    · rw [hq]; exact Nat.le_refl _
    · have := H.1.1.2.2.1 l (a (568 + l)) p hl (by omega) hp
      omega
  · rw [e]; omega
theorem HX_high (H : HX a) {d : Nat} (hg : a (498 + d) = 0) : val a d ≤ high a d := by
  unfold high lowk val
  rw [← sm_add]
  refine sm_le_sm (fun l hl => ?_)
  by_cases hb : (a (646 + d)).testBit l = true
  · rw [if_pos hb, if_pos hb]; omega
  · rw [if_neg hb, if_neg hb, HX_tb H hl, Nat.zero_add]
    exact Nat.mul_le_mul_left _ (HX_unk H hl hg hb)
theorem low_val (d : Nat) : lowk a d ≤ val a d := by
  unfold lowk val
  exact sm_le_sm (fun l hl => by split <;> omega)
theorem uns_wbd (H : HX a) {d : Nat} (hd : d < 60) (hg : a (498 + d) = 0) (hs : ¬ sn a d) : val a d ≤ wbd a := by
  have h0 : a (646 + d) = 0 := Classical.byContradiction fun z => hs ((H.1.2.1.2.2.2.1 d hd).mpr z)
  unfold val wbd
  refine sm_le_sm (fun l hl => ?_)
  rw [HX_tb H hl]
  exact Nat.mul_le_mul_left _ (HX_unk H hl hg (by rw [h0]; simp))
theorem sn_may (H : HX a) {d : Nat} (hd : d < 60) (hs : sn a d) : may a d := by
  refine ⟨H.1.2.1.2.2.2.2.1 d hd hs, ?_⟩
  obtain ⟨l, p, hl, hp, hw, he⟩ := H.2.2 d hd hs
  have hr := (H.1.2.1.1 l hl).1
  have h1 := (H.1.1.2.1 l p hl (by omega)).2.1
  have h2 : scr a l d = a (240 + 40 * l + p) := scr_in H.1.1 hl (by omega) he
  have h3 : a (486 + l) * scr a l d ≤ val a d := by
    unfold val
    have : sm (fun k => if k = l then a (486 + l) * scr a l d else 0) 6 ≤ sm (fun l => a (486 + l) * scr a l d) 6 := sm_le_sm (fun k hk => by
      by_cases hkl : k = l
      · rw [if_pos hkl, hkl]; exact Nat.le_refl _
      · rw [if_neg hkl]; omega)
    rw [sm_one (p := l) hl (fun k hk hkl => if_neg hkl), if_pos rfl] at this
    exact this
  have h4 : 0 < a (486 + l) * scr a l d := Nat.mul_pos hw (by omega)
  omega
/-- all is read: what is known is all, and who may be wanted is seen -/
theorem all_val (H : HX a) (hn : ∀ l, l < 6 → ¬ canr a l) {d : Nat} (hg : a (498 + d) = 0) : lowk a d = val a d := by
  unfold lowk val
  refine sm_cong (fun l hl => ?_)
  by_cases hb : (a (646 + d)).testBit l = true
  · rw [if_pos hb]
  · rw [if_neg hb]
    by_cases hw : 0 < a (486 + l)
    · have hc : ¬ a (568 + l) < a (480 + l) := fun z => hn l hl ⟨hw, z⟩
      have := HX_unk H hl hg hb
      unfold bd at this
      rw [if_neg hc] at this
      rw [show scr a l d = 0 by omega, Nat.mul_zero]
    · rw [show a (486 + l) = 0 by omega, Nat.zero_mul]
theorem all_sn (H : HX a) (hn : ∀ l, l < 6 → ¬ canr a l) {d : Nat} (hd : d < 60) (hm : may a d) : sn a d := by
  apply Classical.byContradiction
  intro hs
  have h1 := uns_wbd H hd hm.1 hs
  have h2 : wbd a = 0 := sm_zero (fun l hl => by
    by_cases hw : 0 < a (486 + l)
    · have hc : ¬ a (568 + l) < a (480 + l) := fun z => hn l hl ⟨hw, z⟩
      rw [HX_tb H hl]
      unfold bd
      rw [if_neg hc, Nat.mul_zero]
    · rw [show a (486 + l) = 0 by omega, Nat.zero_mul])
  have := hm.2
  omega
/-- none but those told ahead of it stand ahead of one that is told -/
theorem told_first (H : HX a) (hov : ov a) (F : FR a f m) {p e : Nat} (hp : p < min m (a 558)) (he : e < 60) (hw : wah a (f p) e) : sn a e ∧ fpl a e < min m (a 558) := by
  obtain ⟨hm, hv⟩ := hw
  have hfp := F.2.1 p (by omega)
  have mp := sn_may H hfp.1 hfp.2
  rcases hov with hn | ⟨k1, t, ht, hst, hft, hwb, hsafe⟩
  · have se := all_sn H hn he hm
    obtain ⟨q, hq, rfl⟩ := F.2.2.2 e he se
    have v1 := all_val H hn hm.1
    have v2 := all_val H hn mp.1
    refine ⟨se, ?_⟩
    rw [fpl_f F hq]
    apply Classical.byContradiction
    intro z
    have := F.2.2.1 p q (by omega) hq
    unfold ahd at this
    omega
  · have hsm := FR_m F
    obtain ⟨q, hq, rfl⟩ := F.2.2.2 t ht hst
    rw [fpl_f F hq] at hft
    have lp := low_val (a := a) (f p)
    have hpq : lowk a (f q) < lowk a (f p) ∨ (lowk a (f p) = lowk a (f q) ∧ f p ≤ f q) := by
      by_cases hpq : p = q
      · rw [hpq]; exact Or.inr ⟨rfl, Nat.le_refl _⟩
      · have := F.2.2.1 p q (by omega) hq
        unfold ahd at this
        omega
    by_cases se : sn a e
    · refine ⟨se, ?_⟩
      obtain ⟨r, hr, rfl⟩ := F.2.2.2 e he se
      rw [fpl_f F hr]
      apply Classical.byContradiction
      intro z
      have s1 := hsafe (f r) he se (by rw [fpl_f F hr]; omega)
      have s2 := HX_high H hm.1
      omega
    · have s1 := uns_wbd H he hm.1 se
      omega
theorem told_wtd (H : HX a) (hov : ov a) (F : FR a f m) {p : Nat} (hp : p < min m (a 558)) : wtd a (f p) := by
  have hfp := F.2.1 p (by omega)
  refine ⟨sn_may H hfp.1 hfp.2, ?_⟩
  rw [wct_cnt]
  have h1 : cnt (wah a (f p)) 60 ≤ cnt (fun d => ∃ q, q < min m (a 558) ∧ f q = d ∧ d ≠ f p) 60 := cnt_mono (fun e he hw => by
    obtain ⟨se, hf⟩ := told_first H hov F hp he hw
    obtain ⟨q, hq, rfl⟩ := F.2.2.2 e he se
    rw [fpl_f F hq] at hf
    refine ⟨q, hf, rfl, fun z => ?_⟩
    rw [z] at hw
    obtain ⟨-, h | h⟩ := hw <;> omega)
  have h2 : cnt (fun d => ∃ q, q < min m (a 558) ∧ f q = d ∧ d ≠ f p) 60 < cnt (fun d => ∃ q, q < min m (a 558) ∧ f q = d) 60 := cnt_lt (k := f p) hfp.1 (fun z => by
    obtain ⟨q, -, -, z⟩ := z
    exact z rfl) ⟨p, hp, rfl⟩ (fun e he z => by
    obtain ⟨q, h1, h2, -⟩ := z
    exact ⟨q, h1, h2⟩)
  have h3 : cnt (fun d => ∃ q, q < min m (a 558) ∧ f q = d) 60 = min m (a 558) := cnt_row (fun q hq => (F.2.1 q (by omega)).1) (fun p q hpq hq z => by
    have := FR_inj F (by omega) (by omega) z
    omega)
  omega
theorem told_many (H : HX a) (hov : ov a) (F : FR a f m) : min (wmany a) (a 558) = min m (a 558) := by
  have hsm := FR_m F
  have h1 : smany a ≤ wmany a := cnt_mono (fun d hd hs => sn_may H hd hs)
  rcases hov with hn | ⟨k1, -⟩
  · have h2 : wmany a ≤ smany a := cnt_mono (fun d hd hm => all_sn H hn hd hm)
    omega
  · omega
theorem told_tnw (H : HX a) (hov : ov a) (F : FR a f m) : tnw a = 0 := by
  rw [tnw_eq F]
  exact cnt_0 (fun p hp z => z (told_wtd H hov F hp))
theorem HX_tls (H : HX a) : tls a = 0 := cnt_0 (fun l hl z => by
  rw [HX_tb H hl] at z
  omega)
theorem HX_574 (H : HX a) : sums a 574 = 0 := sm_zero (fun l hl => (H.2.1 l hl).2)
end THR
