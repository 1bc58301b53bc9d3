/-! PURE PART: the law -/
def a0 (k : Nat) : Nat := if k = 558 then 3 else 0
/-- the lists below l are made -/
def BS (a : Nat → Nat) (l : Nat) : Prop := a 559 = 0 ∧ a 566 = 0 ∧ a 567 = 0 ∧ (∀ m, m < 6 → a (492 + m) = 0) ∧ (∀ d, d < 60 → a (498 + d) = 0) ∧ a 558 = 3 ∧ (∀ m, m < 6 → m < l → 1 ≤ a (486 + m)) ∧ (∀ m, m < 6 → l ≤ m → a (486 + m) = 0 ∧ a (480 + m) = 0) ∧ (∀ m, m < 6 → a (480 + m) ≤ 9) ∧ D12 a
/-- an office that is ready -/
def RO (a : Nat → Nat) : Prop := a 559 = 0 ∧ a 566 = 0 ∧ a 567 = 0 ∧ (∀ m, m < 6 → a (492 + m) = 0) ∧ qs a ≠ 0 ∧ (∀ m, m < 6 → a (480 + m) ≤ 9) ∧ D12 a
section LAWP
variable {w w1 w2 : Wd} {a a' : Nat → Nat} {L : Nat} {xs : Nat → Int32}
theorem a0_z {k : Nat} (h : k ≠ 558) : a0 k = 0 := if_neg h
theorem a0_IO : IO a0 := by
  refine ⟨fun l hl => ⟨?_, ?_, ?_⟩, fun l q hl hq => ?_, fun l q r hl hqr hr => ?_, fun l q r hl hqr hr => ?_, fun d hd => ?_, ?_, ?_⟩
  · rw [a0_z (by omega)]; omega
  · rw [a0_z (by omega)]; omega
  · rw [a0_z (by omega)]; omega
  · rw [a0_z (by omega)] at hq; omega
  · rw [a0_z (by omega)] at hr; omega
  · rw [a0_z (by omega)] at hr; omega
  · rw [a0_z (by omega)]; omega
  · decide
  · decide
theorem w0_at {k : Nat} (h : ¬ (k = 2 ∨ k = 20 ∨ k = 36 ∨ k = 52 ∨ k = 68 ∨ k = 84)) (h2 : k ≠ 99) : w0.1 k = fun _ => 0 := by
  show (if k = 2 ∨ k = 20 ∨ k = 36 ∨ k = 52 ∨ k = 68 ∨ k = 84 then (fun j => if j = 6 then 3 else 0) else if k = 99 then (fun j => if j = 2 then -1 else 0) else fun _ => 0) = _
  rw [if_neg h, if_neg h2]
theorem scr_a0 {l d : Nat} (hl : l < 6) : scr a0 l d = 0 := by
  unfold scr
  rw [a0_z (by omega)]
  rfl
theorem gs_a0 : gs a0 60 = 0 := by
  unfold gs
  exact sm_zero (fun d hd => by rw [a0_z (by omega), Nat.zero_mul])
theorem Rs_w0 : Rs w0 1 a0 := by
  refine ⟨⟨fun l hl => ?_, fun l q hl hq => ?_, fun l d hl hd => ?_, fun l hl => ?_, fun l hl => ?_, ?_, ?_⟩, ?_, ?_, ?_, fun z => ?_⟩
  · rw [w0_at (by omega) (by omega), a0_z (by omega)]; rfl
  · rw [a0_z (by omega)] at hq; omega
  · rw [w0_at (by omega) (by omega), scr_a0 hl]; rfl
  · rw [w0_at (by omega) (by omega), a0_z (by omega)]; rfl
  · rw [w0_at (by omega) (by omega), a0_z (by omega)]; rfl
  · rw [gs_a0]; rfl
  · rfl
  · rw [w0_at (by omega) (by omega)]; rfl
  · rw [w0_at (by omega) (by omega)]; rfl
  · rw [w0_at (by omega) (by omega)]; rfl
  · rw [a0_z (by omega)] at z; omega
theorem KW_w0 : KW w0 a0 := by
  refine ⟨Rs_w0, ⟨a0_IO, fun z => ?_⟩, 0, fun _ => a0, ⟨?_, by omega, ⟨fun i hi => ⟨i, hi, rfl⟩, fun i j hi hj hij => ?_⟩, fun j hj => by omega⟩, by omega, fun j hj => by omega⟩
  · rw [a0_z (by omega)] at z; omega
  · rw [w0_at (by omega) (by omega)]; rfl
  · show 19 + 16 * i ≠ 19 + 16 * j
    omega
theorem BS_a0 : BS a0 0 := ⟨a0_z (by omega), a0_z (by omega), a0_z (by omega), fun m hm => a0_z (by omega), fun d hd => a0_z (by omega), rfl, fun m hm h => by omega, fun m hm h => ⟨a0_z (by omega), a0_z (by omega)⟩, fun m hm => by rw [a0_z (by omega)]; omega, fun l e hl he => scr_a0 hl⟩
theorem cnt_all {P : Nat → Prop} : ∀ n, (∀ i, i < n → P i) → cnt P n = n := by
  intro n
  induction n with
  | zero => intro _; rfl
  | succ n ih =>
    intro h
    rw [cnt_s (h n (by omega)), ih (fun i hi => h i (by omega))]
theorem BS_qs {l : Nat} (B : BS a l) (hl : l ≤ 6) : qs a = l := by
  unfold qs
  rw [cnt_ext (m := l) 6 hl (fun i h1 h2 z => by
    have := (B.2.2.2.2.2.2.2.1 i h2 h1).1
    unfold asks at z
    omega)]
  exact cnt_all l (fun i hi => B.2.2.2.2.2.2.1 i (by omega) hi)
theorem bs_up (I : IO a) {k v d : Nat} (hk : 486 ≤ k) : bs (has (up a k v) d) 6 = bs (has a d) 6 := sb_ext _ (bs_lt _ 6 (by omega)) _ (bs_lt _ 6 (by omega)) (fun j hj => by
  rw [Bool.eq_iff_iff, bs_tb 6 (by omega) j hj, bs_tb 6 (by omega) j hj]
  unfold has
  rw [scr_up I hk hj])
theorem D12_up (I : IO a) (D : D12 a) {k v : Nat} (hk : 486 ≤ k) : D12 (up a k v) := fun l e hl he => by rw [scr_up I hk hl]; exact D l e hl he
theorem chp_sign (a : Nat → Nat) : ∀ i, i < 6 → ¬ (chp a i).1 < 0 := by
  intro i
  induction i with
  | zero => intro _; exact nI_pos (by omega)
  | succ i ih =>
    intro h
    rw [chp]
    split
    · exact nI_pos (by omega)
    · exact ih (by omega)
theorem chp_cong (h : ∀ v x, v ≤ 2 → x ≤ 1 → ansT a' v x 1 = ansT a v x 1) : ∀ i, i < 6 → chp a' i = chp a i := by
  intro i
  induction i with
  | zero => intro _; rw [chp, chp, h 0 0 (by omega) (by omega)]
  | succ i ih =>
    intro hi
    rw [chp, chp, ih (by omega), h ((i + 1) / 2) ((i + 1) % 2) (by omega) (by omega)]
theorem RO_ent (R : RO a) : ent a ≤ 200 := by
  have : ent a ≤ 6 * 9 := sm_le (fun l hl => R.2.2.2.2.2.1 l hl)
  omega
/-! the six readings -/
theorem lp_280 (hL : L ≤ 260) (R : RO a) (K : KW w a') (h559 : a' 559 = 0) (hk : ∀ k, k < 559 → a' k = a k) (Ia : IO a) {i x : Nat} (hi : i < 6) (hx : x = i % 2) {x6 x7 : Int32} (K255 : Wd → Int32 → Int32 → Int32 → Option Int32) : ∃ w' a2, KW w' a2 ∧ a2 559 = 0 ∧ (∀ k, k < 559 → a2 k = a k) ∧ a2 566 = a' 566 + 1 ∧ a2 567 = a' 567 ∧ bL_law_280 LY K255 w 0 111 L xs x6 x7 (nI i) (nI x) (nI (i / 2)) = (if x6 < 0 then K255 w' (nI i) (ansT a (i / 2) (i % 2) 1) (nI (i + 1)) else if x7 ≤ ansT a (i / 2) (i % 2) 1 then K255 w' x6 x7 (nI (i + 1)) else K255 w' (nI i) (ansT a (i / 2) (i % 2) 1) (nI (i + 1))) := by
  obtain ⟨v, ev⟩ := cell_ex xs hL (k := 2) (by omega)
  obtain ⟨r, hr, er⟩ := low_ex (v >>> (nI i &&& 31)) (n := 5) (by omega) (by omega)
  have I' := K.2.1.1
  have hq : qs a' ≠ 0 := by
    have : qs a' = qs a := cnt_cong (fun l hl => by unfold asks; rw [hk _ (by omega)])
    have := R.2.2.2.2.1
    omega
  have he : ent a' ≤ 200 := by
    have h1 : ent a' = ent a := sm_cong (fun l hl => hk _ (by omega))
    have := RO_ent R
    omega
  obtain ⟨w2, a2, c, e, T, hc, K2, F2, k2, o2, c2, d2⟩ := K_read K h559 hq (fun l hl => by rw [hk _ (by omega)]; exact R.2.2.2.1 l hl) he (v := i / 2) (x := x) (st := 1 + r) (by omega) (by omega) (by omega) (by omega)
  have T2 : ansT a (i / 2) (i % 2) 1 = nI c := by
    rw [← hx, ← T]
    exact ((xg_ans (xg_fin Ia I' hk (by omega) (by omega))).2).symm
  refine ⟨w2, a2, K2, o2, fun k hk' => (k2 k hk').trans (hk k hk'), c2, d2, ?_⟩
  unfold bL_law_280
  rw [show fL_cell w L xs 2 = some v from ev w, ob_some, show fL_low w (v >>> (nI i &&& 31)) 5 = some (nI r) from er w, ob_some, show (1 : Int32) + nI r = nI (1 + r) by rw [n1, nI_add], e, ob2_some, if_pos (by rw [l0, nI_le_ (by omega) (by omega)]; omega), show nI i + 1 = nI (i + 1) by rw [n1, nI_add], T2]
  unfold bL_law_318
  rw [show nI i + 1 = nI (i + 1) by rw [n1, nI_add]]
theorem lp_255 (hL : L ≤ 260) (R : RO a) (K : KW w a) : lL_law_255 LY 0 111 L xs 4096 w (-1) 0 0 = some 1 := by
  have Ia := K.2.1.1
  refine loopI (fun n (s : Wd × (Nat → Nat) × Int32 × Int32) i => lL_law_255 LY 0 111 L xs n s.1 s.2.2.1 s.2.2.2 (nI i)) (fun i s => KW s.1 s.2.1 ∧ s.2.1 559 = 0 ∧ (∀ k, k < 559 → s.2.1 k = a k) ∧ s.2.1 566 = i ∧ s.2.1 567 = 0 ∧ (i = 0 → s.2.2.1 = -1) ∧ (i ≠ 0 → s.2.2 = chp a (i - 1))) 0 6 (by omega) (fun z => z = some 1) (fun n i s hi hi2 hI => ?_) (fun n s hI => ?_) 4096 (w, a, -1, 0) (by omega) ⟨K, R.1, fun _ _ => rfl, R.2.1, R.2.2.1, fun _ => rfl, fun z => absurd rfl z⟩
  · obtain ⟨w1, a1, x6, x7⟩ := s
    obtain ⟨K1, o1, k1, c1, d1, g0, g1⟩ := hI
    dsimp only at K1 o1 k1 c1 d1 g0 g1
    obtain ⟨w2, a2, K2, o2, k2, c2, d2, e2⟩ := lp_280 (xs := xs) hL R K1 o1 k1 Ia hi2 (x := i % 2) rfl (x6 := x6) (x7 := x7) (fun w z0 z1 z2 => lL_law_255 LY 0 111 L xs n w z0 z1 z2)
    have un : lL_law_255 LY 0 111 L xs (n + 1) w1 x6 x7 (nI i) = (if x6 < 0 then lL_law_255 LY 0 111 L xs n w2 (nI i) (ansT a (i / 2) (i % 2) 1) (nI (i + 1)) else if x7 ≤ ansT a (i / 2) (i % 2) 1 then lL_law_255 LY 0 111 L xs n w2 x6 x7 (nI (i + 1)) else lL_law_255 LY 0 111 L xs n w2 (nI i) (ansT a (i / 2) (i % 2) 1) (nI (i + 1))) := by
      have em : nI i - nI i / 2 * 2 = nI (i % 2) := by rw [n2]; exact nI_mod (by omega) (by omega) (by omega)
      have ed : nI i / 2 = nI (i / 2) := by rw [n2]; exact nI_div (by omega) (by omega) (by omega)
      rw [lL_law_255, if_neg (by rw [n6, nI_le_ (by omega) (by omega)]; omega), em, ed]
      by_cases h2 : i % 2 = 1
      · rw [if_pos (by rw [h2]; rfl)]
        rw [h2] at e2 ⊢
        exact e2
      · have h0 : i % 2 = 0 := by omega
        rw [if_neg (by rw [h0]; decide)]
        rw [h0] at e2 ⊢
        exact e2
    show ∃ s', _ ∧ lL_law_255 LY 0 111 L xs (n + 1) w1 x6 x7 (nI i) = _
    rw [un]
    by_cases hi0 : i = 0
    · refine ⟨(w2, a2, nI i, ansT a (i / 2) (i % 2) 1), ⟨K2, o2, k2, by show a2 566 = i + 1; omega, by show a2 567 = 0; omega, fun z => by omega, fun _ => ?_⟩, ?_⟩
      · subst hi0
        rfl
      · rw [if_pos (by rw [g0 hi0]; decide)]
    · have h7 := g1 hi0
      obtain ⟨i, rfl⟩ : ∃ q, i = q + 1 := ⟨i - 1, by omega⟩
      rw [Nat.add_sub_cancel] at h7
      have h6 : ¬ x6 < 0 := by
        have := chp_sign a i (by omega)
        rw [← h7] at this
        exact this
      have e7 : x7 = (chp a i).2 := by rw [← h7]
      rw [if_neg h6]
      by_cases hlt : ansT a ((i + 1) / 2) ((i + 1) % 2) 1 < (chp a i).2
      · refine ⟨(w2, a2, nI (i + 1), ansT a ((i + 1) / 2) ((i + 1) % 2) 1), ⟨K2, o2, k2, by show a2 566 = i + 1 + 1; omega, by show a2 567 = 0; omega, fun z => by omega, fun _ => ?_⟩, ?_⟩
        · show (nI (i + 1), ansT a ((i + 1) / 2) ((i + 1) % 2) 1) = chp a (i + 1)
          rw [chp, if_pos hlt]
        · rw [if_neg (by rw [e7]; exact nle_of_lt hlt)]
      · refine ⟨(w2, a2, x6, x7), ⟨K2, o2, k2, by show a2 566 = i + 1 + 1; omega, by show a2 567 = 0; omega, fun z => by omega, fun _ => ?_⟩, ?_⟩
        · show (x6, x7) = chp a (i + 1)
          rw [chp, if_neg hlt]
          exact h7
        · rw [if_pos (by rw [e7]; exact le_of_nlt hlt)]
  · obtain ⟨w1, a1, x6, x7⟩ := s
    obtain ⟨K1, o1, k1, c1, d1, g0, g1⟩ := hI
    dsimp only at K1 o1 k1 c1 d1 g0 g1
    have h7 := g1 (by omega)
    have I1 := K1.2.1.1
    have hq : qs a1 ≠ 0 := by
      have : qs a1 = qs a := cnt_cong (fun l hl => by unfold asks; rw [k1 _ (by omega)])
      have := R.2.2.2.2.1
      omega
    have k560 : ∀ k, k < 560 → a1 k = a k := fun k hk => by
      by_cases h : k = 559
      · rw [h, o1, R.1]
      · exact k1 k (by omega)
    have D1 : D12 a1 := fun l e hl he => by rw [ag_scr k560 Ia hl]; exact R.2.2.2.2.2.2 l e hl he
    obtain ⟨w2, e2, K2, F2⟩ := K_cheapest K1 hq
    have ec : chp a1 5 = chp a 5 := chp_cong (fun v x hv hx => (xg_ans (xg_fin Ia I1 k1 hv hx)).2) 5 (by omega)
    have e6 : x6 = (chp a 5).1 := by
      have : (x6, x7) = chp a 5 := h7
      rw [← this]
    obtain ⟨w3, e3, K3, F3, V3⟩ := K_reckon K2 D1
    show lL_law_255 LY 0 111 L xs (n + 1) w1 x6 x7 (nI 6) = some 1
    rw [lL_law_255, if_pos (by decide), e2, ob2_some, ec, ← e6, if_pos rfl, K_cnt5 K2 o1, ob_some, if_pos rfl, K_cnt6 K2, ob_some, c1, if_pos (show nI 6 = 6 from rfl), K_cnt7 K2, ob_some, d1, if_pos (show nI 0 = 0 from rfl), e3, ob2_some, if_neg (by decide)]
/-! some documents are deleted -/
theorem lp_168 (hL : L ≤ 260) (R : RO a) (hg : ∀ d, d < 60 → a (498 + d) = 0) (K : KW w a) (g : Int32) : lL_law_168 LY 0 111 L xs 4096 w g 0 = some 1 := by
  refine loopI (fun n (s : Wd × (Nat → Nat)) i => lL_law_168 LY 0 111 L xs n s.1 g (nI i)) (fun i s => KW s.1 s.2 ∧ RO s.2 ∧ ∀ d, d < 60 → i ≤ d → s.2 (498 + d) = 0) 0 12 (by omega) (fun z => z = some 1) (fun n i s hi hi2 hI => ?_) (fun n s hI => ?_) 4096 (w, a) (by omega) ⟨K, R, fun d hd _ => hg d hd⟩
  · obtain ⟨w1, a1⟩ := s
    obtain ⟨K1, R1, g1⟩ := hI
    dsimp only at K1 R1 g1
    have I1 := K1.2.1.1
    have hd : i < 60 := by omega
    obtain ⟨r, hr, er⟩ := low_ex (g >>> ((8 + nI i) &&& 31)) (n := 4) (by omega) (by omega)
    have e1 : nI i + 1 = nI (i + 1) := by rw [n1, nI_add]
    show ∃ s', _ ∧ lL_law_168 LY 0 111 L xs (n + 1) w1 g (nI i) = _
    by_cases h0 : r = 0
    · obtain ⟨w2, e2, K2, F2⟩ := K_del K1 R1.1 hd (g1 i hd (Nat.le_refl _))
      have hb64 : bs (has a1 i) 6 < 64 := bs_lt _ 6 (by omega)
      have q2 := K_doc2 K2 hd
      rw [bs_up I1 (by omega)] at q2
      have e3 := K_del1 K2 (by rw [up_n _ _ (by omega)]; exact R1.1) hd (up_s _ _ _)
      refine ⟨(w2, up a1 (498 + i) 1), ⟨K2, ⟨?_, ?_, ?_, fun m hm => ?_, ?_, fun m hm => ?_, D12_up I1 R1.2.2.2.2.2.2 (by omega)⟩, fun d hd' h => ?_⟩, ?_⟩
      · show up a1 (498 + i) 1 559 = 0
        rw [up_n _ _ (by omega)]; exact R1.1
      · show up a1 (498 + i) 1 566 = 0
        rw [up_n _ _ (by omega)]; exact R1.2.1
      · show up a1 (498 + i) 1 567 = 0
        rw [up_n _ _ (by omega)]; exact R1.2.2.1
      · show up a1 (498 + i) 1 (492 + m) = 0
        rw [up_n _ _ (by omega)]; exact R1.2.2.2.1 m hm
      · have : qs (up a1 (498 + i) 1) = qs a1 := cnt_cong (fun l hl => by unfold asks; rw [up_n _ _ (by omega)])
        show qs (up a1 (498 + i) 1) ≠ 0
        have := R1.2.2.2.2.1
        omega
      · show up a1 (498 + i) 1 (480 + m) ≤ 9
        rw [up_n _ _ (by omega)]; exact R1.2.2.2.2.2.1 m hm
      · show up a1 (498 + i) 1 (498 + d) = 0
        rw [up_n _ _ (by omega)]; exact g1 d hd' (by omega)
      · rw [lL_law_168, if_neg (by rw [show (12 : Int32) = nI 12 from rfl, nI_le_ (by omega) (by omega)]; omega), show fL_low w1 (g >>> ((8 + nI i) &&& 31)) 4 = some (nI r) from er w1, ob_some, if_pos (by rw [h0]; rfl), e2, ob2_some, q2, ob_some, bits_ok hb64, ob_some, if_pos rfl, e3, ob2_some, if_pos rfl, e1]
    · refine ⟨(w1, a1), ⟨K1, R1, fun d hd' h => g1 d hd' (by omega)⟩, ?_⟩
      rw [lL_law_168, if_neg (by rw [show (12 : Int32) = nI 12 from rfl, nI_le_ (by omega) (by omega)]; omega), show fL_low w1 (g >>> ((8 + nI i) &&& 31)) 4 = some (nI r) from er w1, ob_some, if_neg (by rw [l0, nI_eq_ (by omega) (by omega)]; exact h0), e1]
  · obtain ⟨w1, a1⟩ := s
    obtain ⟨K1, R1, g1⟩ := hI
    dsimp only at K1 R1 g1
    obtain ⟨w2, e2, K2, F2, V2⟩ := K_reckon K1 R1.2.2.2.2.2.2
    show lL_law_168 LY 0 111 L xs (n + 1) w1 g (nI 12) = some 1
    rw [lL_law_168, if_pos (by decide), e2, ob2_some, if_neg (by decide), K_areWanted K2 R1.2.2.2.2.2.2 V2, ob_some, if_neg (by decide)]
    exact lp_255 hL R1 K2
theorem lp_58 (hL : L ≤ 260) {r : Nat} (hr : r < 4) : lL_law_58 LY 0 111 L xs 4096 w0 (nI (1 + r)) 0 = some 1 := by
  refine loopI (fun n (s : Wd × (Nat → Nat)) i => lL_law_58 LY 0 111 L xs n s.1 (nI (1 + r)) (nI i)) (fun i s => KW s.1 s.2 ∧ BS s.2 i) 0 (1 + r) (by omega) (fun z => z = some 1) (fun n i s hi hi2 hI => ?_) (fun n s hI => ?_) 4096 (w0, a0) (by omega) ⟨KW_w0, BS_a0⟩
  · obtain ⟨w1, a1⟩ := s
    obtain ⟨K1, B1⟩ := hI
    dsimp only at K1 B1
    have hl : i < 6 := by omega
    have e1 : nI i + 1 = nI (i + 1) := by rw [n1, nI_add]
    obtain ⟨b1, b2, b3, b4, b5, b6, b7, b8, b9, b10⟩ := B1
    obtain ⟨w2, a2, e2, K2, F2, U2, s2, c2⟩ := K_fill (xs := xs) hL K1 b1 hl (fr := 8 + 12 * i) (by omega) (b8 i hl (Nat.le_refl _)).2
    obtain ⟨v, ev⟩ := cell_ex xs hL (k := 60 + i) (by omega)
    obtain ⟨q, hq, eq⟩ := low_ex v (n := 9) (by omega) (by omega)
    have far : ∀ k, k < 706 → 486 ≤ k → a2 k = a1 k := U2.2
    have hw0 : a2 (486 + i) = 0 := by rw [far _ (by omega) (by omega)]; exact (b8 i hl (Nat.le_refl _)).1
    have I2 := K2.2.1.1
    obtain ⟨w3, e3, K3, F3⟩ := K_weight K2 (by rw [far _ (by omega) (by omega)]; exact b1) hl (s := 1 + q) (by omega) (by omega)
    show ∃ s', _ ∧ lL_law_58 LY 0 111 L xs (n + 1) w1 (nI (1 + r)) (nI i) = _
    refine ⟨(w3, up a2 (486 + i) (1 + q)), ⟨K3, ?_, ?_, ?_, fun m hm => ?_, fun d hd => ?_, ?_, fun m hm h => ?_, fun m hm h => ⟨?_, ?_⟩, fun m hm => ?_, ?_⟩, ?_⟩
    · show up a2 (486 + i) (1 + q) 559 = 0
      rw [up_n _ _ (by omega), far _ (by omega) (by omega)]; exact b1
    · show up a2 (486 + i) (1 + q) 566 = 0
      rw [up_n _ _ (by omega), far _ (by omega) (by omega)]; exact b2
    · show up a2 (486 + i) (1 + q) 567 = 0
      rw [up_n _ _ (by omega), far _ (by omega) (by omega)]; exact b3
    · show up a2 (486 + i) (1 + q) (492 + m) = 0
      rw [up_n _ _ (by omega), far _ (by omega) (by omega)]; exact b4 m hm
    · show up a2 (486 + i) (1 + q) (498 + d) = 0
      rw [up_n _ _ (by omega), far _ (by omega) (by omega)]; exact b5 d hd
    · show up a2 (486 + i) (1 + q) 558 = 3
      rw [up_n _ _ (by omega), far _ (by omega) (by omega)]; exact b6
    · show 1 ≤ up a2 (486 + i) (1 + q) (486 + m)
      by_cases hmi : m = i
      · rw [hmi, up_s]; omega
      · rw [up_n _ _ (by omega), far _ (by omega) (by omega)]; exact b7 m hm (by omega)
    · show up a2 (486 + i) (1 + q) (486 + m) = 0
      rw [up_n _ _ (by omega), far _ (by omega) (by omega)]; exact (b8 m hm (by omega)).1
    · show up a2 (486 + i) (1 + q) (480 + m) = 0
      rw [up_n _ _ (by omega), (U2.1 m hm (by omega)).1]; exact (b8 m hm (by omega)).2
    · show up a2 (486 + i) (1 + q) (480 + m) ≤ 9
      rw [up_n _ _ (by omega)]
      by_cases hmi : m = i
      · rw [hmi]; exact s2
      · rw [(U2.1 m hm hmi).1]; exact b9 m hm
    · refine D12_up I2 (fun m e hm he => ?_) (by omega)
      by_cases hmi : m = i
      · rw [hmi]; exact c2 e he
      · rw [(U2.1 m hm hmi).2 e]; exact b10 m e hm he
    · rw [lL_law_58, if_neg (by rw [nI_le_ (by omega) (by omega)]; omega), show (8 : Int32) + (12 * nI i) = nI (8 + 12 * i) by rw [show (12 : Int32) = nI 12 from rfl, show (8 : Int32) = nI 8 from rfl, nI_mul, nI_add], e2, ob2_some, if_neg (by decide), show (60 : Int32) + nI i = nI (60 + i) by rw [n60, nI_add], ev, ob_some, show fL_low w2 v 9 = some (nI q) from eq w2, ob_some, show (1 : Int32) + nI q = nI (1 + q) by rw [n1, nI_add], e3, ob2_some, hw0, if_pos (show nI 0 = 0 from rfl), e1]
  · obtain ⟨w1, a1⟩ := s
    obtain ⟨K1, B1⟩ := hI
    dsimp only at K1 B1
    have hqs := BS_qs B1 (by omega)
    obtain ⟨b1, b2, b3, b4, b5, b6, b7, b8, b9, b10⟩ := B1
    have I1 := K1.2.1.1
    obtain ⟨v, ev⟩ := cell_ex xs hL (k := 1) (by omega)
    obtain ⟨q, hq, eq⟩ := low_ex v (n := 10) (by omega) (by omega)
    have hk : (1 : Int32) + nI q = nI (1 + q) := by rw [n1, nI_add]
    show lL_law_58 LY 0 111 L xs (n + 1) w1 (nI (1 + r)) (nI (1 + r)) = some 1
    by_cases h3 : 1 + q = 3
    · rw [lL_law_58, if_pos (by rw [nI_le_ (by omega) (by omega)]; omega), show fL_cell w1 L xs 1 = some v from ev w1, ob_some, show fL_low w1 v 10 = some (nI q) from eq w1, ob_some, hk, K_wantS K1 b1 (by omega) (by omega) (by rw [b6, h3]), ob2_some, if_pos (by rw [h3]; rfl)]
      unfold bL_law_151
      rw [if_pos rfl, K_cnt1 K1, ob_some, hqs, if_pos rfl]
      exact lp_168 hL ⟨b1, b2, b3, b4, by omega, b9, b10⟩ b5 K1 v
    · obtain ⟨w2, e2, K2, F2⟩ := K_want K1 b1 (s := 1 + q) (by omega) (by omega) (by omega)
      have hq2 : qs (up a1 558 (1 + q)) = 1 + r := by
        rw [← hqs]
        exact cnt_cong (fun l hl => by unfold asks; rw [up_n _ _ (by omega)])
      rw [lL_law_58, if_pos (by rw [nI_le_ (by omega) (by omega)]; omega), show fL_cell w1 L xs 1 = some v from ev w1, ob_some, show fL_low w1 v 10 = some (nI q) from eq w1, ob_some, hk, e2, ob2_some, if_neg (by rw [n3, nI_eq_ (by omega) (by omega)]; exact h3), b6]
      unfold bL_law_151
      rw [if_pos (show nI 3 = 3 from rfl), K_cnt1 K2, ob_some, hq2, if_pos rfl]
      exact lp_168 hL ⟨by rw [up_n _ _ (by omega)]; exact b1, by rw [up_n _ _ (by omega)]; exact b2, by rw [up_n _ _ (by omega)]; exact b3, fun m hm => by rw [up_n _ _ (by omega)]; exact b4 m hm, by omega, fun m hm => by rw [up_n _ _ (by omega)]; exact b9 m hm, D12_up I1 b10 (by omega)⟩ (fun d hd => by rw [up_n _ _ (by omega)]; exact b5 d hd) K2 v
theorem pure_main (L : Nat) (xs : Nat → Int32) (hL : L ≤ 260) : bL_law_13 LY w0 0 111 L xs = some 1 := by
  obtain ⟨v, ev⟩ := cell_ex xs hL (k := 0) (by omega)
  obtain ⟨r, hr, er⟩ := low_ex v (n := 4) (by omega) (by omega)
  have hq : qs a0 = 0 := BS_qs BS_a0 (by omega)
  have hw : wmany a0 = 0 := cnt_0 (fun d hd z => by
    have h1 : val a0 d = 0 := sm_zero (fun l hl => by rw [scr_a0 hl, Nat.mul_zero])
    have := z.2
    omega)
  have e1 : fX5_begin LY w0 0 0 0 = some (-4, w0) := K_begOff KW_w0 (Or.inr hq) (v := 0) (b := 0) (by omega)
  unfold bL_law_13
  rw [show fL_cell w0 L xs 0 = some v from ev w0, ob_some, show fL_low w0 v 4 = some (nI r) from er w0, ob_some, e1, ob2_some, if_pos rfl, K_chOff KW_w0 hq, ob2_some, if_pos rfl, K_cnt4 KW_w0, ob_some, hw, Nat.zero_min, if_pos (show nI 0 = 0 from rfl), show (1 : Int32) + nI r = nI (1 + r) by rw [n1, nI_add]]
  exact lp_58 hL hr
end LAWP
