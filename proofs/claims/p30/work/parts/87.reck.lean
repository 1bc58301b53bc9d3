/-! PURE PART: the law reckons values, and holds the wanted ones against them -/
def vv (a : Nat → Nat) (d : Nat) : Nat := if a (498 + d) = 1 then 0 else val a d
/-- no document from 12 on is in a list -/
def D12 (a : Nat → Nat) : Prop := ∀ l e, l < 6 → 12 ≤ e → scr a l e = 0
/-- the row of values of the law -/
def VR (w : Wd) (a : Nat → Nat) (n : Nat) : Prop := ∀ d, d < n → w.1 111 d = nI (vv a d)
section RCK
variable {w w1 w2 : Wd} {a a' : Nat → Nat}
theorem D12_val (D : D12 a) {d : Nat} (hd : 12 ≤ d) : val a d = 0 := sm_zero (fun l hl => by rw [D l d hl hd, Nat.mul_zero])
theorem D12_bs (D : D12 a) {d : Nat} (hd : 12 ≤ d) : bs (has a d) 6 = 0 := sb_ext _ (bs_lt _ 6 (by omega)) _ (by omega) (fun k hk => by
  rw [Bool.eq_iff_iff, bs_tb 6 (by omega) k hk]
  unfold has
  rw [D k d hk hd]
  simp)
theorem R96 (K : KW w a) {d : Nat} (hd : d < 60) (K4 : Wd → Int32 → Int32 → Option (Int32 × Wd)) (K19 : Wd → Int32 → Int32 → Int32 → Int32 → Int32 → Option (Int32 × Wd)) : bL_reckon_96 K4 K19 w 0 111 64 1 (nI d) (nI (val a d)) (nI (bs (has a d) 6)) = K4 (sI w 111 d (nI (vv a d))) 1 (nI (d + 1)) := by
  have hg := K.2.1.1.2.2.2.2.1 d hd
  have e1 : nI d + 1 = nI (d + 1) := by rw [n1, nI_add]
  unfold bL_reckon_96
  rw [if_neg (show ¬ (1 : Int32) = 0 by decide), K_doc1 K hd, ob_some, if_pos rfl, K_doc2 K hd, ob_some, if_pos rfl]
  unfold bL_reckon_127
  rw [K_doc0 K hd, ob_some, e1]
  by_cases h : a (498 + d) = 1
  · rw [if_pos (by rw [h]; rfl), stI_n (by omega) (by omega), ob_some]
    unfold vv
    rw [if_pos h]
    rfl
  · rw [if_neg (by rw [n1, nI_eq_ (by omega) (by omega)]; exact h), stI_n (by omega) (by omega), ob_some]
    unfold vv
    rw [if_neg h]
theorem R19 (K : KW w a) (D : D12 a) {d : Nat} (hd : d < 60) (K4 : Wd → Int32 → Int32 → Option (Int32 × Wd)) : lL_reckon_19 0 111 64 K4 4096 w 1 (nI d) 0 0 0 = K4 (sI w 111 d (nI (vv a d))) 1 (nI (d + 1)) := by
  have I := K.2.1.1
  by_cases h12 : 12 ≤ d
  · show lL_reckon_19 0 111 64 K4 (4095 + 1) w 1 (nI d) 0 0 0 = _
    rw [lL_reckon_19, if_neg (by decide), if_pos (by rw [show (12 : Int32) = nI 12 from rfl, nI_le_ (by omega) (by omega)]; exact h12)]
    have := R96 K hd K4 (fun w z0 z1 z2 z3 z4 => lL_reckon_19 0 111 64 K4 4095 w z0 z1 z2 z3 z4)
    rw [D12_val D h12, D12_bs D h12] at this
    exact this
  · have hv : ∀ i, i ≤ 6 → sm (fun l => a (486 + l) * scr a l d) i ≤ 60000 := fun i hi => vsm_le I d i hi
    refine loopN (fun n i => lL_reckon_19 0 111 64 K4 n w 1 (nI d) (nI (sm (fun l => a (486 + l) * scr a l d) i)) (nI (bs (has a d) i)) (nI i)) 6 _ (fun n i hi => ?_) (fun n => ?_) 4096 (by omega)
    · show lL_reckon_19 0 111 64 K4 (n + 1) w 1 (nI d) _ _ (nI i) = _
      have h64 := bs_lt (has a d) i (by omega)
      have e1 : nI i + 1 = nI (i + 1) := by rw [n1, nI_add]
      have pl := K_place K hi hd
      rw [lL_reckon_19, if_neg (by rw [n6, nI_le_ (by omega) (by omega)]; omega), if_neg (by rw [show (12 : Int32) = nI 12 from rfl, nI_le_ (by omega) (by omega)]; exact h12)]
      by_cases h0 : scr a i d = 0
      · rw [pl.1 h0, ob_some, if_neg (by decide)]
        unfold bL_reckon_69 bL_reckon_87
        rw [if_neg (by decide), sb_or0, e1, bs_n (show ¬ has a d i by unfold has; omega), sm, h0, Nat.mul_zero, l0, nI_add]
      · obtain ⟨q, hq, hqd, hqs, ep⟩ := pl.2 h0
        have hz := (I.1 i hi).1
        have q0 : (0 : Int32) ≤ nI q := by rw [l0, nI_le_ (by omega) (by omega)]; omega
        rw [ep, ob_some, if_pos q0, K_list1 K hi, ob_some, K_ent1 K hi hq, ob_some]
        unfold bL_reckon_69 bL_reckon_87
        rw [if_pos q0, sb_or _ h64 i hi, e1, bs_y (show has a d i by unfold has; omega), sm, hqs, nI_mul, nI_add]
    · show lL_reckon_19 0 111 64 K4 (n + 1) w 1 (nI d) _ _ (nI 6) = _
      rw [lL_reckon_19, if_pos (by decide)]
      exact R96 K hd K4 _
theorem K_reckon (K : KW w a) (D : D12 a) : ∃ w', fL_reckon w 0 111 64 = some (1, w') ∧ KW w' a ∧ Fr 111 112 w w' ∧ VR w' a 60 := by
  unfold fL_reckon
  refine loopI (fun n s i => lL_reckon_4 0 111 64 n s 1 (nI i)) (fun i s => Fr 111 112 w s ∧ VR s a i) 0 60 (by omega) (fun z => ∃ w', z = some (1, w') ∧ KW w' a ∧ Fr 111 112 w w' ∧ VR w' a 60) (fun n i s hi hi2 hI => ?_) (fun n s hI => ?_) 4096 w (by omega) ⟨Fr.rfl', fun d hd => by omega⟩
  · obtain ⟨F, V⟩ := hI
    refine ⟨sI s 111 i (nI (vv a i)), ⟨F.sI (by omega) (by omega), fun d hd => ?_⟩, ?_⟩
    · rw [sI_1, if_pos rfl, upd_1]
      by_cases h : d = i
      · rw [if_pos h, h]
      · rw [if_neg h]; exact V d (by omega)
    · show lL_reckon_4 0 111 64 (n + 1) s 1 (nI i) = _
      rw [lL_reckon_4, if_neg (by rw [n60, nI_le_ (by omega) (by omega)]; omega)]
      exact R19 (KW_fr K F (by omega)) D hi2 _
  · obtain ⟨F, V⟩ := hI
    refine ⟨s, ?_, KW_fr K F (by omega), F, V⟩
    show lL_reckon_4 0 111 64 (n + 1) s 1 (nI 60) = _
    rw [lL_reckon_4, if_pos (by decide), rtZ_1, ob_some]
/-! ranks -/
theorem vv_may {d : Nat} (I : IO a) (hd : d < 60) : 0 < vv a d ↔ may a d := by
  have hg := I.2.2.2.2.1 d hd
  unfold vv may
  by_cases h : a (498 + d) = 1
  · rw [if_pos h]; omega
  · rw [if_neg h]; omega
theorem may_vv {d : Nat} (h : may a d) : vv a d = val a d := by
  unfold vv
  rw [if_neg (by have := h.1; omega)]
theorem cnt_ext {P : Nat → Prop} {m : Nat} : ∀ n, m ≤ n → (∀ i, m ≤ i → i < n → ¬ P i) → cnt P n = cnt P m := by
  intro n
  induction n with
  | zero => intro h _; rw [show m = 0 by omega]
  | succ n ih =>
    intro h hp
    by_cases hm : m = n + 1
    · rw [hm]
    · rw [cnt_n (hp n (by omega) (by omega)), ih (by omega) (fun i h1 h2 => hp i h1 (by omega))]
theorem D12_may (D : D12 a) {d : Nat} (hd : 12 ≤ d) : ¬ may a d := fun z => by
  have := D12_val D hd
  have := z.2
  omega
def pla (a : Nat → Nat) (d e : Nat) : Prop := vv a d < vv a e ∨ (vv a e = vv a d ∧ e < d)
theorem pla_wct (D : D12 a) (I : IO a) {d : Nat} (hm : may a d) : cnt (pla a d) 12 = wct a d 60 := by
  rw [wct_cnt, cnt_ext (m := 12) 60 (by omega) (fun i h1 h2 z => D12_may D h1 z.1)]
  refine cnt_cong (fun e he => ?_)
  have hd := may_vv hm
  have hv := hm.2
  unfold pla wah
  rw [hd]
  constructor
  · intro h
    have me : may a e := (vv_may I (by omega)).mp (by omega)
    rw [may_vv me] at h
    exact ⟨me, h⟩
  · rintro ⟨me, h⟩
    rw [may_vv me]
    exact h
theorem wct_wmany {d : Nat} (hd : d < 60) (hm : may a d) : wct a d 60 < wmany a := by
  rw [wct_cnt]
  exact cnt_lt (k := d) hd (fun z => by
    obtain ⟨-, h | h⟩ := z <;> omega) hm (fun e he z => z.1)
theorem rank : ∀ k, cnt (fun d => may a d ∧ wct a d 60 < k) 60 = min (wmany a) k := by
  intro k
  induction k with
  | zero => rw [Nat.min_zero]; exact cnt_0 (fun d hd z => by omega)
  | succ k ih =>
    have up1 : cnt (fun d => may a d ∧ wct a d 60 < k + 1) 60 ≤ wmany a := cnt_mono (fun d hd z => z.1)
    by_cases h : ∃ d, d < 60 ∧ may a d ∧ wct a d 60 = k
    · obtain ⟨d, hd, hm, hw⟩ := h
      have e : cnt (fun d => may a d ∧ wct a d 60 < k + 1) 60 = cnt (fun d => may a d ∧ wct a d 60 < k) 60 + 1 := cnt_one (k := d) hd (fun z => by omega) (fun i hi => by
        constructor
        · rintro ⟨h1, h2⟩
          by_cases h3 : wct a i 60 = k
          · exact Or.inr (wct_inj hi hd h1 hm (by omega))
          · exact Or.inl ⟨h1, by omega⟩
        · rintro (⟨h1, h2⟩ | rfl)
          · exact ⟨h1, by omega⟩
          · exact ⟨hm, by omega⟩)
      have := wct_wmany hd hm
      omega
    · have e : cnt (fun d => may a d ∧ wct a d 60 < k + 1) 60 = cnt (fun d => may a d ∧ wct a d 60 < k) 60 := cnt_cong (fun i hi => by
        constructor
        · rintro ⟨h1, h2⟩
          refine ⟨h1, ?_⟩
          have : wct a i 60 ≠ k := fun z => h ⟨i, hi, h1, z⟩
          omega
        · rintro ⟨h1, h2⟩
          exact ⟨h1, by omega⟩)
      rw [e, ih]
      by_cases hk : k < wmany a
      · exfalso
        have hex : ∃ d, d < 60 ∧ may a d ∧ k ≤ wct a d 60 := by
          apply Classical.byContradiction
          intro z
          have : cnt (fun d => may a d ∧ wct a d 60 < k) 60 = wmany a := cnt_cong (fun i hi => by
            constructor
            · exact fun y => y.1
            · intro y
              refine ⟨y, ?_⟩
              apply Classical.byContradiction
              intro x
              exact z ⟨i, hi, y, by omega⟩)
          omega
        obtain ⟨d0, hd0, hm0, hw0⟩ := hex
        obtain ⟨R, -, ⟨d, hd, hm, hw, hkR⟩, hmin⟩ := least (P := fun R => ∃ d, d < 60 ∧ may a d ∧ wct a d 60 = R ∧ k ≤ R) (wct a d0 60) ⟨d0, hd0, hm0, rfl, hw0⟩
        have h1 : wct a d 60 ≤ cnt (fun d => may a d ∧ wct a d 60 < k) 60 := by
          rw [wct_cnt]
          refine cnt_mono (fun e he hwa => ⟨hwa.1, ?_⟩)
          have h2 := wct_lt he hwa
          apply Classical.byContradiction
          intro z
          exact hmin (wct a e 60) (by omega) ⟨e, he, hwa.1, rfl, by omega⟩
        exact h ⟨d, hd, hm, by omega⟩
      · omega
theorem wtd_cnt : cnt (wtd a) 60 = min (wmany a) (a 558) := rank (a := a) (a 558)
end RCK
