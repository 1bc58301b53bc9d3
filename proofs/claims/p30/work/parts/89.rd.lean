/-! PURE PART: a whole reading of the law -/
section RDG
variable {w w1 w2 : Wd} {a b e : Nat → Nat} {N : Nat}
theorem lk_le : ∀ (j : Nat) (a : Nat → Nat), HX a → (∀ i, i < j → ¬ ov (itr a i)) → ∀ m, m < 6 → itr a j (580 + m) ≤ a (580 + m) + j := by
  intro j
  induction j with
  | zero => intro a _ _ m _; exact Nat.le_refl _
  | succ j ih =>
    intro a H h m hm
    have h0 : ¬ ov a := h 0 (by omega)
    obtain ⟨h1, h2, h3, S, T⟩ := nx_facts H.1 h0
    have i1 := ih (nxt a) (HX_nxt H h0).1 (fun i hi => h (i + 1) (by omega)) m hm
    have t := T.2.2.2.2.2.1 m hm
    have t2 : nxt a (580 + m) ≤ a (580 + m) + 1 := by
      rw [t]
      split <;> omega
    show itr (nxt a) j (580 + m) ≤ _
    omega
theorem RDL (H : HX b) (O : OV b N) (hN : N ≤ 200) (h559 : b 559 = 1) {st : Nat} (h1 : 1 ≤ st) (hs : st ≤ 240) {v x : Int32} : ∀ (n j : Nat) (w : Wd), j ≤ N → N - j < n → KW w (itr b j) → ∃ w', lL_read_11 LY 0 n w v x (nI st) (nI (itr b j 562)) (nI j) = bL_read_74 LY w' 0 v x (nI 1) (nI N) ∧ KW w' (itr b N) ∧ Fr 1 83 w w' := by
  intro n
  induction n with
  | zero => intro j w hj hn; omega
  | succ n ih =>
    intro j w hj hn K
    obtain ⟨Hj, kj, -⟩ := HX_itr j b H (fun i hi => O.2 i (by omega))
    have G := Hj.1
    rw [lL_read_11]
    by_cases hjN : j = N
    · subst hjN
      have e562 : itr b j 562 = 1 := G.2.2.2.mp O.1
      refine ⟨w, ?_, K, Fr.rfl'⟩
      rw [e562, if_neg (show ¬ nI 1 = 0 by decide)]
    · have hov : ¬ ov (itr b j) := O.2 j (by omega)
      have e562 : itr b j 562 = 0 := by
        have h2 := G.2.2.1
        have h3 : itr b j 562 ≠ 1 := fun z => hov (G.2.2.2.mpr z)
        omega
      have eo : itr b j 559 = 1 := by rw [kj 559 (by omega)]; exact h559
      obtain ⟨w1, e1, K1, F1⟩ := K_step K eo hov h1 hs
      have er : run (itr b j) st = min st (N - j) := OV_run st _ _ (OV_from O (by omega))
      obtain ⟨r, hr⟩ : ∃ r, r = min st (N - j) := ⟨_, rfl⟩
      rw [er, ← hr] at e1 K1
      rw [← itr_add] at K1
      obtain ⟨Hr, kr, -⟩ := HX_itr (j + r) b H (fun i hi => O.2 i (by omega))
      have eo2 : itr b (j + r) 559 = 1 := by rw [kr 559 (by omega)]; exact h559
      have e6 := (K_rea K1 eo2).2.2.2.2.1
      obtain ⟨w2, e2, K2, F2⟩ := ih (j + r) w1 (by omega) (by omega) K1
      refine ⟨w2, ?_, K2, F1.trans F2⟩
      rw [e562, if_pos (show nI 0 = 0 from rfl), if_neg (by rw [n240, nI_le_ (by omega) (by omega)]; omega), e1, ob2_some, e6, ob_some, if_neg (by rw [n1, nI_lt_ (by omega) (by omega)]; omega), if_neg (by rw [nI_lt_ (by omega) (by omega)]; omega), nI_add]
      by_cases h6 : itr b (j + r) 562 = 0
      · have hlt : j + r ≠ N := fun z => by
          have := Hr.1.2.2.2.mp (by rw [z]; exact O.1)
          omega
        rw [if_pos (show nI (itr b (j + r) 562) = 0 by rw [h6]; rfl), if_pos (by rw [nI_le_ (by omega) (by omega)]; omega)]
        exact e2
      · have h7 := Hr.1.2.2.1
        rw [if_neg (show ¬ nI (itr b (j + r) 562) = 0 by rw [l0, nI_eq_ (by omega) (by omega)]; exact h6)]
        exact e2
theorem RDE (K : KW w e) (H : HX e) (hov : ov e) (h559 : e 559 = 1) (h564 : e 564 = N) (hN : N ≤ 240) (hc : N + 3 * sums e 580 < 100000) (hq : qs e ≠ 0) {v x : Nat} (hv : v ≤ 2) (hx : x ≤ 1) (T0 : ansT e v x 0 = nI N) (T1 : ansT e v x 1 = nI (N + 3 * sums e 580)) (T2 : ansT e v x 2 = 0) (T3 : ansT e v x 3 = 0) : ∃ w', bL_read_74 LY w 0 (nI v) (nI x) (nI 1) (nI N) = some (nI (N + 3 * sums e 580), w') ∧ KW w' (up e 559 0) ∧ Fr 1 111 w w' := by
  obtain ⟨r0, r2, r3, r5, -, r7, r10, r11, r12⟩ := K_rea K h559
  obtain ⟨f, m, F, t1, t2⟩ := K_told K h559
  have hm := FR_m F
  have h60 := F.1
  rw [h564] at r0 r3
  rw [HX_574 H] at r10
  rw [told_tnw H hov F] at r11
  rw [HX_tls H] at r12
  rw [hm] at r5
  have hcn := K_cnt4 K
  rw [told_many H hov F] at hcn
  obtain ⟨M, hM⟩ : ∃ M, M = min m (e 558) := ⟨_, rfl⟩
  rw [← hM] at r5 hcn t1 t2
  have hs1 : fX5_step LY w 0 1 = some (-5, w) := K_stepO K h559 hov (s := 1) (by omega) (by omega)
  have loop : lL_read_188 LY 0 4096 w (nI v) (nI x) (nI N) 1 (nI M) 0 = bL_read_243 LY w 0 (nI v) (nI x) (nI N) 1 (nI M) := by
    refine loopN (fun n i => lL_read_188 LY 0 n w (nI v) (nI x) (nI N) 1 (nI M) (nI i)) M _ (fun n i hi => ?_) (fun n => ?_) 4096 (by omega)
    · show lL_read_188 LY 0 (n + 1) w (nI v) (nI x) (nI N) 1 (nI M) (nI i) = _
      have hf := F.2.1 i (by omega)
      have hw := told_wtd H hov F (p := i) (by omega)
      have hwl := wct_le e (f i) 60
      rw [lL_read_188, if_neg (by rw [nI_le_ (by omega) (by omega)]; omega), if_neg (show ¬ (1 : Int32) = 0 by decide), t1 i hi, ob_some, (K_doc3 K hf.1).1 hw, ob_some, if_neg (nI_pos (by omega)), ob_some, K_seen3 K h559 hf.1 hf.2, ob_some, fpl_f F (by omega), if_pos rfl, n1, nI_add]
    · show lL_read_188 LY 0 (n + 1) w (nI v) (nI x) (nI N) 1 (nI M) (nI M) = _
      rw [lL_read_188, if_pos (by rw [nI_le_ (by omega) (by omega)]; omega)]
  obtain ⟨y1, p1, K1, F1⟩ := K_trial K hq hv hx (q := 0) (by omega)
  obtain ⟨y2, p2, K2, F2⟩ := K_trial K1 hq hv hx (q := 1) (by omega)
  obtain ⟨y3, p3, K3, F3⟩ := K_trial K2 hq hv hx (q := 2) (by omega)
  obtain ⟨y4, p4, K4, F4⟩ := K_trial K3 hq hv hx (q := 3) (by omega)
  rw [T0] at p1
  rw [T1] at p2
  rw [T2] at p3
  rw [T3] at p4
  have p1' : fX5_trial w 0 (nI v) (nI x) 0 = some (nI N, y1) := p1
  have p2' : fX5_trial y1 0 (nI v) (nI x) 1 = some (nI (N + 3 * sums e 580), y2) := p2
  have p3' : fX5_trial y2 0 (nI v) (nI x) 2 = some (0, y3) := p3
  have p4' : fX5_trial y3 0 (nI v) (nI x) 3 = some (0, y4) := p4
  have qa : fX5_add LY y4 0 0 0 1 = some (-4, y4) := K_addOff K4 h559 (l := 0) (d := 0) (s := 1) (by omega) (by omega) (by omega) (by omega)
  have qb : fX5_begin LY y4 0 0 1 = some (-4, y4) := K_begOff K4 (Or.inl h559) (v := 0) (b := 1) (by omega)
  have qr := (K_rea K4 h559).1
  rw [h564] at qr
  obtain ⟨y5, p5, K5, F5⟩ := K_end K4 h559
  rw [hm, ← hM] at p5
  have qo := K_reaOff K5 (up_s _ _ _)
  refine ⟨y5, ?_, K5, ?_⟩
  · unfold bL_read_74
    rw [if_pos (show nI 1 = 1 from rfl), r0, ob_some, if_pos rfl, r10, ob_some, if_pos (show nI 0 = 0 from rfl), r11, ob_some, if_pos (show nI 0 = 0 from rfl), r12, ob_some, if_pos (show nI 0 = 0 from rfl), r7 hov, ob_some, if_pos rfl, hs1, ob2_some, if_pos rfl]
    unfold bL_read_143
    rw [r5, ob_some, if_neg (show ¬ (1 : Int32) = 0 by decide), hcn, ob_some, if_pos rfl, t2, ob_some, if_pos rfl, loop]
    unfold bL_read_243
    rw [r3, ob_some, if_neg (show ¬ (1 : Int32) = 0 by decide), r2, ob_some, if_pos (by rw [n3, nI_mul, nI_add]), p1', ob2_some, if_pos rfl, p2', ob2_some, if_pos rfl, p3', ob2_some, if_pos rfl, p4', ob2_some, if_pos rfl]
    unfold bL_read_319
    rw [if_neg (show ¬ (1 : Int32) = 0 by decide), qa, ob2_some, if_pos rfl, qb, ob2_some, if_pos rfl, qr, ob_some, if_pos rfl]
    unfold bL_read_364
    rw [if_neg (show ¬ (1 : Int32) = 0 by decide), p5, ob2_some, if_pos rfl, qo, ob_some, if_pos rfl]
  · exact ((((F1.trans F2).trans F3).trans F4).wide (by omega) (by omega)).trans (F5.wide (by omega) (by omega))
/-- a whole reading by honest clerks, purely -/
theorem fin_HX (I : IO a) (hb : ∀ l, l < 6 → a (492 + l) = 0) (he : ent a ≤ 200) {v x : Nat} (hv : v ≤ 2) (hx : x ≤ 1) : ∃ N, N ≤ 200 ∧ OV (stA a v x) N ∧ fin a v x = itr (stA a v x) N ∧ HX (fin a v x) ∧ ov (fin a v x) := by
  have H := HX_stA I hb hv hx
  have S := (stA_ok I hv hx).1
  have e1 : ent (stA a v x) = ent a := sm_cong (fun l hl => S.1 _ (by omega))
  have e2 : stA a v x 564 = 0 := S.2.2.2.2.2.2.2.1
  obtain ⟨N, hN, O⟩ := OV_ex 200 _ H.1 (by rw [e1, e2]; omega)
  have er : fin a v x = itr (stA a v x) N := by
    unfold fin
    rw [OV_run 240 _ _ O, show min 240 N = N by omega]
  refine ⟨N, hN, O, er, ?_, ?_⟩
  · rw [er]; exact (HX_itr N _ H (fun i hi => O.2 i hi)).1
  · rw [er]; exact O.1
theorem xg_sums (h : XG b a) : sums b 580 = sums a 580 := sm_cong (fun l hl => h _ (by omega) (by omega))
theorem xg_ans {v x : Nat} (h : XG (fin b v x) (fin a v x)) : ansT b v x 0 = ansT a v x 0 ∧ ansT b v x 1 = ansT a v x 1 := by
  unfold ansT
  refine ⟨?_, ?_⟩
  · rw [if_pos rfl, if_pos rfl, h 564 (by omega) (by omega)]
  · rw [if_neg (show ¬ (1 : Nat) = 0 by omega), if_neg (show ¬ (1 : Nat) = 0 by omega), if_pos rfl, if_pos rfl, h 564 (by omega) (by omega), xg_sums h]
theorem K_read (K : KW w a) (ho : a 559 = 0) (hq : qs a ≠ 0) (hb : ∀ l, l < 6 → a (492 + l) = 0) (he : ent a ≤ 200) {v x st : Nat} (hv : v ≤ 2) (hx : x ≤ 1) (h1 : 1 ≤ st) (hs : st ≤ 240) : ∃ w' a' c, fL_read LY w 0 (nI v) (nI x) (nI st) = some (nI c, w') ∧ ansT a v x 1 = nI c ∧ c < 100000 ∧ KW w' a' ∧ Fr 1 111 w w' ∧ (∀ k, k < 559 → a' k = a k) ∧ a' 559 = 0 ∧ a' 566 = a 566 + 1 ∧ a' 567 = a 567 := by
  have I := K.2.1.1
  obtain ⟨w1, e1, K1, F1⟩ := K_begin K ho hq hv hx
  obtain ⟨a1, ha1⟩ : ∃ y, y = up a 566 (a 566 + 1) := ⟨_, rfl⟩
  rw [← ha1] at e1 K1
  have u1 : ∀ k, k ≠ 566 → a1 k = a k := fun k hk => by rw [ha1, up_n _ _ hk]
  have u566 : a1 566 = a 566 + 1 := by rw [ha1, up_s]
  have I1 : IO a1 := IO_of I (fun k hk => u1 k (by omega))
  have hb1 : ∀ l, l < 6 → a1 (492 + l) = 0 := fun l hl => by rw [u1 _ (by omega)]; exact hb l hl
  have he1 : ent a1 ≤ 200 := by
    have : ent a1 = ent a := sm_cong (fun l hl => u1 _ (by omega))
    omega
  have H := HX_stA I1 hb1 hv hx
  have S := (stA_ok I1 hv hx).1
  obtain ⟨N, hN, O, efin, -, -⟩ := fin_HX I1 hb1 he1 hv hx
  obtain ⟨b, hb'⟩ : ∃ b, b = stA a1 v x := ⟨_, rfl⟩
  rw [← hb'] at e1 K1 H S O efin
  have b559 : b 559 = 1 := S.2.2.2.1
  have b564 : b 564 = 0 := S.2.2.2.2.2.2.2.1
  obtain ⟨w2, e2, K2, F2⟩ := RDL H O hN b559 h1 hs (v := nI v) (x := nI x) 4096 0 w1 (by omega) (by omega) K1
  obtain ⟨He, ke, k566, k567, k564⟩ := HX_itr N b H (fun i hi => O.2 i hi)
  have hlk := lk_le N b H (fun i hi => O.2 i hi)
  obtain ⟨e, hedef⟩ : ∃ e, e = itr b N := ⟨_, rfl⟩
  rw [← hedef] at K2 He ke k566 k567 k564 hlk efin
  have hov : ov e := by rw [hedef]; exact O.1
  have hea : ∀ k, k < 559 → e k = a k := fun k hk => by rw [ke k (by omega), S.1 k hk, u1 k (by omega)]
  have hea1 : ∀ k, k < 559 → e k = a1 k := fun k hk => by rw [ke k (by omega), S.1 k hk]
  have Ie := He.1.1
  have hqe : qs e ≠ 0 := by
    have : qs e = qs a := cnt_cong (fun l hl => by unfold asks; rw [hea _ (by omega)])
    omega
  have hent : ent e ≤ 200 := by
    have : ent e = ent a := sm_cong (fun l hl => hea _ (by omega))
    omega
  have hbe : ∀ l, l < 6 → e (492 + l) = 0 := fun l hl => by rw [hea _ (by omega)]; exact hb l hl
  have hsum : sums e 580 ≤ 6 * 200 := sm_le (fun l hl => by
    have h2 := hlk l hl
    have h3 : b (580 + l) = 0 := (S.2.2.2.2.2.2.2.2.2.1 l hl).2.2
    omega)
  -- the trials
  have X1 : XG (fin e v x) e := by
    have := xg_fin I1 Ie hea1 hv hx
    rw [efin] at this
    exact this
  have X2 : XG (fin a v x) e := by
    have := xg_fin I1 I (fun k hk => (u1 k (by omega)).symm) hv hx
    rw [efin] at this
    exact this
  obtain ⟨-, -, -, -, Hf, hovf⟩ := fin_HX Ie hbe hent hv hx
  obtain ⟨wf, ff, mf, -, -, RCf, -, -, -⟩ := C_rehearse (v := v) (x := x) K2.1.1 Ie hv hx
  have Ff : FR (fin e v x) ff mf := RCf.2.2.2.2.2.2.2.2.2.2.2.2.2.2.2
  have h564 : e 564 = N := by omega
  have T0 : ansT e v x 0 = nI N := by
    unfold ansT
    rw [if_pos rfl, X1 564 (by omega) (by omega), h564]
  have T1 : ansT e v x 1 = nI (N + 3 * sums e 580) := by
    unfold ansT
    rw [if_neg (by omega), if_pos rfl, X1 564 (by omega) (by omega), h564, xg_sums X1]
  have T2 : ansT e v x 2 = 0 := by
    unfold ansT
    rw [if_neg (by omega), if_neg (by omega), if_pos rfl, told_tnw Hf hovf Ff]
    rfl
  have T3 : ansT e v x 3 = 0 := by
    unfold ansT
    rw [if_neg (by omega), if_neg (by omega), if_neg (by omega), HX_574 Hf]
    rfl
  have TA : ansT a v x 1 = nI (N + 3 * sums e 580) := by
    unfold ansT
    rw [if_neg (by omega), if_pos rfl, X2 564 (by omega) (by omega), h564, xg_sums X2]
  have h559 : e 559 = 1 := by rw [ke 559 (by omega)]; exact b559
  obtain ⟨w3, e3, K3, F3⟩ := RDE K2 He hov h559 h564 (by omega) (by omega) hqe hv hx T0 T1 T2 T3
  refine ⟨w3, up e 559 0, N + 3 * sums e 580, ?_, TA, by omega, K3, ((F1.wide (by omega) (by omega)).trans (F2.wide (by omega) (by omega))).trans F3, fun k hk => ?_, up_s _ _ _, ?_, ?_⟩
  · unfold fL_read
    rw [e1, ob2_some]
    exact e2.trans e3
  · rw [up_n _ _ (by omega)]; exact hea k hk
  · rw [up_n _ _ (by omega), k566, S.2.1, u566]
  · rw [up_n _ _ (by omega), k567, S.2.2.1, u1 _ (by omega)]
end RDG
