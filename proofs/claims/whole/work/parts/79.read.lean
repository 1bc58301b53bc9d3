/-! PURE PART: begin, step, trial, cheapest -/
section BEG
variable {w w1 w2 w3 : Wd} {a a' : Nat → Nat} {h : Nat} {p : Nat → Nat → Nat} {c : Nat} {ks : Nat → Nat} {n : Nat} {t : Nat → Nat}
theorem way_cases (x : Int32) : (∃ v, v ≤ 2 ∧ x = nI v) ∨ (x < 0) ∨ (¬ x < 0 ∧ 2 < x) := by
  rcases num_cases x with h0 | ⟨s, hs, rfl⟩
  · exact Or.inr (Or.inl h0)
  · by_cases h : s ≤ 2
    · exact Or.inl ⟨s, h, rfl⟩
    · exact Or.inr (Or.inr ⟨nI_pos (by omega), by rw [n2, nI_lt_ (by omega) (by omega)]; omega⟩)
theorem isWay_y {v : Nat} (h : v ≤ 2) : fX5_isWay w (nI v) = some 1 := by
  unfold fX5_isWay
  rw [if_neg (nI_pos (by omega)), if_neg (by rw [n2, nI_lt_ (by omega) (by omega)]; omega)]
  rfl
theorem isWay_n {x : Int32} (h : x < 0 ∨ (¬ x < 0 ∧ 2 < x)) : fX5_isWay w x = some 0 := by
  unfold fX5_isWay
  rcases h with h | ⟨h, h2⟩
  · rw [if_pos h]; rfl
  · rw [if_neg h, if_pos h2]; rfl
/-- a row begun, purely: what a start leaves is a good row -/
theorem stA_ok (Z : ZA (w.1 112) a) (I : IO a) {v x : Nat} (hv : v ≤ 2) (hx : x ≤ 1) : SB a (stA a v x) v x ∧ GR (stA a v x) := by
  obtain ⟨w', b, e, Z', S, J, F, rfl⟩ := M_startReading Z I hv hx
  exact ⟨S, IO_559 I S.1 (by rw [S.2.2.2.1]; omega), J⟩
theorem C_begin0 {r v x : Nat} (O : OC w 2 a) (I : IO a) (S : SB a (stA a v x) v x) (hv : v ≤ 2) (hx : x ≤ 1) (hr : 8 ≤ r) : ∃ w', fX2_start w r 2 (nI v) (nI x) = some w' ∧ Fr r (r + 9) w w' ∧ bz (w'.1 r 0) = 1 ∧ RC w' r (stA a v x) (fun _ => 0) 0 ∧ OC w' 2 (stA a v x) := C_start O I S hv hx (by omega)
theorem oneIf_ov (G : GR a) : fX5_oneIf w (@ite Int32 (ov a) (Classical.propDecidable _) 1 0) = some (nI (a 562)) := by
  have := G.2.2
  by_cases h : ov a
  · rw [if_pos h, this.2.mp h]; rfl
  · have h0 : a 562 = 0 := by
      have : a 562 ≠ 1 := fun z => h (this.2.mpr z)
      omega
    rw [if_neg h, h0]; rfl
theorem qs_0 (I : IO a) : (nI (qs a) = 0 ↔ qs a = 0) := by
  have : qs a ≤ 6 := cnt_le _ _
  exact nI_eq (b := 0) (by omega) (by omega)
theorem sim_begin (x : Int32) (b : Nat) (hb : b ≤ 1) : Sim (fun w => fX5_begin LY w 0 x (nI b)) (fun w => fX6_begin w 111 x (nI b)) := by
  rintro w ⟨a, h, p, c, ks, n, t, C, R, V⟩
  have hMR : MR w := ⟨a, h, p, c, ks, n, t, C, R, V⟩
  have I := V.1.1
  have Rs1 := C.1
  have O : OC w 2 a := Rs1.1
  have Z := R.1
  show ∃ v w1 w2, fX5_begin LY w 0 x (nI b) = some (v, w1) ∧ fX6_begin w1 111 x (nI b) = some (v, w2) ∧ MR w2
  have stay : ∀ v, fX5_begin LY w 0 x (nI b) = some (v, w) → fX6_begin w 111 x (nI b) = some (v, w) → ∃ v w1 w2, fX5_begin LY w 0 x (nI b) = some (v, w1) ∧ fX6_begin w1 111 x (nI b) = some (v, w2) ∧ MR w2 := fun v e1 e2 => ⟨v, w, w, e1, e2, hMR⟩
  rcases way_cases x with ⟨v, hv, rfl⟩ | hx
  rotate_left
  · apply stay (-2)
    · unfold fX5_begin
      rw [isWay_n hx, ob_some, if_pos rfl]
    · unfold fX6_begin
      rcases hx with hx | ⟨hx, hx2⟩
      · rw [if_pos hx]
      · rw [if_neg hx, if_neg (fun z => absurd hx2 (by
          rw [Int32.lt_iff_toInt_lt]
          rw [Int32.le_iff_toInt_le] at z
          omega))]
  have hc5 : ∀ w', fX5_begin LY w' 0 (nI v) (nI b) = (if (bz (w'.1 8 0)) = 0 then (fX1_questionSize w' 2).bind fun v4 => (if v4 = 0 then some ((-4 : Int32), w') else (fX0_record LY w' 17 1).bind fun w6 => (pI w6 1 2 ((w6.1 1 2) + 1)).bind fun w7 => (fX2_start w7 8 2 (nI v) (nI b)).bind fun w8 => (fX2_isOver w8 8 2).bind fun v9 => (fX5_oneIf w8 v9).bind fun v10 => some (v10, w8)) else some ((-4 : Int32), w')) := by
    intro w'
    unfold fX5_begin
    rw [isWay_y hv, ob_some, if_neg (by decide)]
  have hc6 : ∀ w', fX6_begin w' 111 (nI v) (nI b) = ((ldI 706 w' 112 559).bind fun v3 => if v3 = 1 then some ((-4), w') else (fX6_asked w' 111).bind fun v5 => if v5 = 0 then some ((-4), w') else (fX6_record w' 111).bind fun w7 => (ldI 706 w7 112 566).bind fun v8 => (stI 706 w7 112 566 (v8 + 1)).bind fun w9 => (fX6_startReading w9 111 (nI v) (nI b)).bind fun w10 => (ldI 706 w10 112 562).bind fun v11 => some (v11, w10)) := by
    intro w'
    unfold fX6_begin
    rw [if_neg (nI_pos (by omega)), if_pos (by rw [n2, nI_le_ (by omega) (by omega)]; omega)]
  have hon := on_0 Rs1 I
  have zon : ∀ w', ZA (w'.1 112) a → ldI 706 w' 112 559 = some (nI (a 559)) := fun w' Z' => by rw [n559]; exact zl Z' (by omega) (by omega)
  by_cases ho : a 559 = 0
  rotate_left
  · refine stay (-4) (by rw [hc5, if_neg (hon.2 ho).2]) ?_
    rw [hc6, zon w Z, ob_some, (hon.2 ho).1, if_pos (show nI 1 = 1 from rfl)]
  have hb0 := hon.1 ho
  have e559 : ¬ nI (a 559) = 1 := by rw [ho]; decide
  by_cases hq : qs a = 0
  · refine stay (-4) (by rw [hc5, if_pos hb0, C_questionSize O I, ob_some, if_pos ((qs_0 I).mpr hq)]) ?_
    rw [hc6, zon w Z, ob_some, if_neg e559, M_asked Z I, ob_some, if_pos ((qs_0 I).mpr hq)]
  have hqn : ¬ nI (qs a) = 0 := fun z => hq ((qs_0 I).mp z)
  obtain ⟨w1, e1, R1, H1, F1⟩ := REC_C C V
  obtain ⟨a1, ha1⟩ : ∃ y, y = up a 566 (a 566 + 1) := ⟨_, rfl⟩
  have u1 : ∀ k, k ≠ 566 → a1 k = a k := fun k hk => by rw [ha1, up_n _ _ hk]
  have u566 : a1 566 = a 566 + 1 := by rw [ha1, up_s]
  have I1 : IO a1 := IO_of I (fun k hk => u1 k (by omega))
  obtain ⟨w2, hw2⟩ : ∃ y, y = sI w1 1 2 (nI (a 566 + 1)) := ⟨_, rfl⟩
  have F2 : Fr 1 2 w1 w2 := by rw [hw2]; exact Fr.rfl'.sI (by omega) (by omega)
  have O2 : OC w2 2 a1 := OC_ag (fun k hk => u1 k (by omega)) I (OC_fr R1.1 I F2 (by omega))
  obtain ⟨wz, -, Zz, -⟩ := zs2 Z 566 (a 566 + 1) (by omega) (by omega)
  rw [← ha1] at Zz
  obtain ⟨S, G⟩ := stA_ok Zz I1 hv hb
  obtain ⟨w3, e3, F3, b3, RC3, O3⟩ := C_begin0 (r := 8) O2 I1 S hv hb (by omega)
  have R3 := RR_fr (RR_fr (RR_fr R F1 (by omega)) F2 (by omega)) F3 (by omega)
  obtain ⟨w4, e4, F4, g112, g111, H4⟩ := M_record (w := w3) R3.2.1 V.2.1 R3.1
  have Z4 : ZA (w4.1 112) a := by rw [g112]; exact R3.1
  obtain ⟨w5, e5, Z5, F5⟩ := zs2 Z4 566 (a 566 + 1) (by omega) (by omega)
  rw [← ha1] at Z5
  obtain ⟨w6, b6, e6, Z6, -, -, F6, rfl⟩ := M_startReading Z5 I1 hv hb
  obtain ⟨s1, s566, s567, s559, -⟩ := id S
  have Rs3 : Rs w3 1 (stA a1 v b) := by
    refine ⟨O3, ?_, ?_, ?_, fun _ => ⟨_, _, RC3⟩⟩
    · rw [show 1 + 7 = 8 from rfl, b3, s559]; rfl
    · rw [F3.1 1 (by omega), hw2, sI_1, if_pos rfl, upd_1, if_pos rfl, s566, u566]
    · rw [F3.1 1 (by omega), hw2, sI_1, if_pos rfl, upd_1, if_neg (by omega), s567, u1 _ (by omega)]; exact R1.2.2.2.1
  have HC3 : HC w3 (rh h) (rp p h a) := by
    have hp := fun j hj => (rp_GD V.1 V.2.1 V.2.2.1 j hj).1
    exact HC_fr (HC_fr H1 hp F2 (by omega)) hp F3 (by omega)
  refine ⟨nI (stA a1 v b 562), w3, w6, ?_, ?_, MR_rec C R V Rs3 HC3 ((F1.wide (by omega) (by omega)).trans ((F2.wide (by omega) (by omega)).trans (F3.wide (by omega) (by omega)))) F4 g111 H4 (F5.fm.trans F6) Z6 ⟨G.1, fun _ => G.2⟩⟩
  · rw [hc5, if_pos hb0, C_questionSize O I, ob_some, if_neg hqn, e1, ob_some]
    unfold pI
    rw [ob_some, R1.2.2.1, n1, nI_add, ← hw2, e3, ob_some, C_isOver O3 RC3 G.1 G.2.1, ob_some, oneIf_ov G, ob_some]
  · rw [hc6, zon w3 R3.1, ob_some, if_neg e559, M_asked R3.1 I, ob_some, if_neg hqn, e4, ob_some, n566, zl Z4 (by omega) (by omega), ob_some, n1, nI_add, e5, ob_some, e6, ob_some, n562, zl Z6 (by omega) (by omega), ob_some]
theorem add_sub_nI {X Y Zc W : Nat} (h : W + Zc = X + Y) : nI X + (nI Y - nI Zc) = nI W := by
  have h1 : nI W + nI Zc = nI X + nI Y := by rw [nI_add, nI_add, h]
  rw [Int32.sub_eq_add_neg, ← Int32.add_assoc, ← h1, ← Int32.sub_eq_add_neg, Int32.add_sub_cancel]
theorem sim_step (x : Int32) : Sim (fun w => fX5_step LY w 0 x) (fun w => fX6_step w 111 x) := by
  rintro w ⟨a, h, p, c, ks, n, t, C, R, V⟩
  have hMR : MR w := ⟨a, h, p, c, ks, n, t, C, R, V⟩
  have I := V.1.1
  have Rs1 := C.1
  have O : OC w 2 a := Rs1.1
  have Z := R.1
  show ∃ v w1 w2, fX5_step LY w 0 x = some (v, w1) ∧ fX6_step w1 111 x = some (v, w2) ∧ MR w2
  have stay : ∀ v, fX5_step LY w 0 x = some (v, w) → fX6_step w 111 x = some (v, w) → ∃ v w1 w2, fX5_step LY w 0 x = some (v, w1) ∧ fX6_step w1 111 x = some (v, w2) ∧ MR w2 := fun v e1 e2 => ⟨v, w, w, e1, e2, hMR⟩
  have hc5 : ∀ w', fX5_step LY w' 0 x = (if x < 1 then some ((-2 : Int32), w') else if x ≤ 240 then (if (bz (w'.1 8 0)) = 0 then some ((-4 : Int32), w') else (fX2_isOver w' 8 2).bind fun v4 => if v4 = 0 then (fX0_record LY w' 17 1).bind fun w6 => (fX2_caughtSize w6 8).bind fun v7 => ob2 (fX2_goOn w6 8 2 x) fun v8 w9 => (fX2_caughtSize w9 8).bind fun v10 => (pI w9 1 3 ((w9.1 1 3) + (v10 - v7))).bind fun w11 => some (v8, w11) else some ((-5 : Int32), w')) else some ((-2 : Int32), w')) := fun w' => rfl
  have hc6 : ∀ w', fX6_step w' 111 x = (if x < 1 then some ((-2 : Int32), w') else if x ≤ 240 then (ldI 706 w' 112 559).bind fun v3 => (if v3 = 0 then some ((-4 : Int32), w') else (ldI 706 w' 112 562).bind fun v5 => if v5 = 1 then some ((-5 : Int32), w') else (fX6_record w' 111).bind fun w7 => lX6_step_50 111 4096 w7 x 0) else some ((-2 : Int32), w')) := fun w' => rfl
  by_cases h1 : x < 1
  · exact stay (-2) (by rw [hc5, if_pos h1]) (by rw [hc6, if_pos h1])
  rcases num_cases x with h0 | ⟨s, hs, rfl⟩
  · exact absurd (neg_lt1 h0) h1
  by_cases h2 : nI s ≤ 240
  rotate_left
  · exact stay (-2) (by rw [hc5, if_neg h1, if_neg h2]) (by rw [hc6, if_neg h1, if_neg h2])
  have hs1 : 1 ≤ s := by
    rw [n1, nI_lt_ (by omega) (by omega)] at h1
    omega
  have hs9 : s ≤ 240 := by
    rw [n240, nI_le_ (by omega) (by omega)] at h2
    exact h2
  have hon := on_0 Rs1 I
  have zon : ∀ w', ZA (w'.1 112) a → ldI 706 w' 112 559 = some (nI (a 559)) := fun w' Z' => by rw [n559]; exact zl Z' (by omega) (by omega)
  have z562 : ∀ w', ZA (w'.1 112) a → ldI 706 w' 112 562 = some (nI (a 562)) := fun w' Z' => by rw [n562]; exact zl Z' (by omega) (by omega)
  by_cases ho : a 559 = 0
  · refine stay (-4) (by rw [hc5, if_neg h1, if_pos h2, if_pos (hon.1 ho)]) ?_
    rw [hc6, if_neg h1, if_pos h2, zon w Z, ob_some, ho, if_pos (show nI 0 = 0 from rfl)]
  have ho1 := (hon.2 ho).1
  have hb0 := (hon.2 ho).2
  have e559 : ¬ nI (a 559) = 0 := by rw [ho1]; decide
  have J := V.1.2 ho1
  have G : GR a := ⟨I, J⟩
  obtain ⟨f, m, RC0⟩ := Rs1.2.2.2.2 ho1
  have RC0' : RC w 8 a f m := RC0
  by_cases hov : ov a
  · refine stay (-5) (by rw [hc5, if_neg h1, if_pos h2, if_neg hb0, C_isOver O RC0' I J.1, if_pos hov, ob_some, if_neg (by decide)]) ?_
    rw [hc6, if_neg h1, if_pos h2, zon w Z, ob_some, if_neg e559, z562 w Z, ob_some, J.2.2.mp hov, if_pos (show nI 1 = 1 from rfl)]
  have h562 : a 562 = 0 := by
    have h3 : a 562 ≠ 1 := fun z => hov (J.2.2.mpr z)
    have h4 := J.2.1
    omega
  obtain ⟨w1, e1, R1, H1, F1⟩ := REC_C C V
  obtain ⟨f1, m1, RC1⟩ := R1.2.2.2.2 ho1
  have RC1' : RC w1 8 a f1 m1 := RC1
  have O1 : OC w1 2 a := R1.1
  obtain ⟨w2, f2, m2, e2, F2, g0, RC2, O2, G2, HF, h560, h566⟩ := C_goOn (r := 8) (o := 2) hs9 (by omega) O1 RC1' G
  obtain ⟨e, he⟩ : ∃ y, y = itr a (run a s) := ⟨_, rfl⟩
  have hcr := caught_run s a G
  rw [← he] at RC2 O2 G2 h560 h566 hcr
  obtain ⟨w3, hw3⟩ : ∃ y, y = sI w2 1 3 (nI (e 567)) := ⟨_, rfl⟩
  have F3 : Fr 1 2 w2 w3 := by rw [hw3]; exact Fr.rfl'.sI (by omega) (by omega)
  have R3 := RR_fr (RR_fr (RR_fr R F1 (by omega)) F2 (by omega)) F3 (by omega)
  obtain ⟨w4, e4, F4, g112, g111, H4⟩ := M_record (w := w3) R3.2.1 V.2.1 R3.1
  have Z4 : ZA (w4.1 112) a := by rw [g112]; exact R3.1
  obtain ⟨w5, e5, F5, Z5⟩ := M_step0 s hs9 s 0 4096 w4 a (by omega) (by omega) Z4 G HF
  rw [← he] at Z5
  rw [Nat.zero_add] at e5
  have Rs3 : Rs w3 1 e := by
    refine ⟨OC_fr O2 G2.1 F3 (by omega), ?_, ?_, ?_, fun _ => ⟨f2, m2, RC_fr RC2 F3 (by omega)⟩⟩
    · rw [F3.1 _ (by omega), show 1 + 7 = 8 from rfl, g0, h560 _ (by omega)]; exact R1.2.1
    · rw [hw3, sI_1, if_pos rfl, upd_1, if_neg (by omega), F2.1 1 (by omega), h566]; exact R1.2.2.1
    · rw [hw3, sI_1, if_pos rfl, upd_1, if_pos rfl]
  have HC3 : HC w3 (rh h) (rp p h a) := by
    have hp := fun j hj => (rp_GD V.1 V.2.1 V.2.2.1 j hj).1
    exact HC_fr (HC_fr H1 hp F2 (by omega)) hp F3 (by omega)
  refine ⟨nI (run a s), w3, w5, ?_, ?_, MR_rec C R V Rs3 HC3 ((F1.wide (by omega) (by omega)).trans ((F2.wide (by omega) (by omega)).trans (F3.wide (by omega) (by omega)))) F4 g111 H4 F5 Z5 ⟨G2.1, fun _ => G2.2⟩⟩
  · rw [hc5, if_neg h1, if_pos h2, if_neg hb0, C_isOver O RC0' I J.1, if_neg hov, ob_some, if_pos rfl, e1, ob_some, C_caughtSize RC1' J.1, ob_some, e2, ob2_some, C_caughtSize RC2 G2.2.1, ob_some]
    unfold pI
    rw [ob_some, F2.1 1 (by omega), R1.2.2.2.1, add_sub_nI hcr, ← hw3]
  · rw [hc6, if_neg h1, if_pos h2, zon w3 R3.1, ob_some, if_neg e559, z562 w3 R3.1, ob_some, h562, if_neg (show ¬ nI 0 = 1 by decide), e4, ob_some]
    exact e5
/-- the end of a whole reading that begins now -/
noncomputable def fin (a : Nat → Nat) (v x : Nat) : Nat → Nat := itr (stA a v x) (run (stA a v x) 240)
noncomputable def ansT (a : Nat → Nat) (v x : Nat) (q : Nat) : Int32 := if q = 0 then nI (fin a v x 564) else if q = 1 then nI (fin a v x 564 + 3 * sums (fin a v x) 580) else if q = 2 then nI (tnw (fin a v x)) else nI (sums (fin a v x) 574)
theorem C_rehearse {v x : Nat} (O : OC w 2 a) (I : IO a) (Z : ZA (w3.1 112) a) (hv : v ≤ 2) (hx : x ≤ 1) : ∃ w' f m, (∀ {ρ : Type} (K : Int32 → Wd → Option ρ), ((fX2_start w 102 2 (nI v) (nI x)).bind fun w7 => ob2 (fX2_goOn w7 102 2 240) K) = K (nI (run (stA a v x) 240)) w') ∧ Fr 102 111 w w' ∧ RC w' 102 (fin a v x) f m ∧ OC w' 2 (fin a v x) ∧ OC w' 2 a ∧ GR (fin a v x) ∧ (∀ j, j ≤ run (stA a v x) 240 → ∃ f m, FR (itr (stA a v x) j) f m) := by
  obtain ⟨S, G⟩ := stA_ok Z I hv hx
  obtain ⟨w1, e1, F1, b1, RC1, O1⟩ := C_begin0 (r := 102) O I S hv hx (by omega)
  obtain ⟨w2, f2, m2, e2, F2, g0, RC2, O2, G2, HF, h560, h566⟩ := C_goOn (r := 102) (o := 2) (lim := 240) (by omega) (by omega) O1 RC1 G
  refine ⟨w2, f2, m2, fun K => ?_, (F1.trans F2), RC2, O2, OC_fr O I (F1.trans F2) (by omega), G2, HF⟩
  rw [e1, ob_some, n240, e2, ob2_some]
theorem M_tr120 {v : Int32} {b : Nat → Nat} (Z : ZA (w.1 115) b) : ∃ w', lX6_tried_120 111 4096 w v 0 = some (v, w') ∧ Fr 112 113 w w' ∧ ZA (w'.1 112) b := by
  refine loopI (fun n w' i => lX6_tried_120 111 n w' v (nI i)) (fun i w' => Fr 112 113 w w' ∧ ∀ k, k < i → w'.1 112 k = w.1 115 k) 0 706 (by omega) (fun q => ∃ w', q = some (v, w') ∧ Fr 112 113 w w' ∧ ZA (w'.1 112) b) (fun n i w' hi hi2 hI => ?_) (fun n w' hI => ?_) 4096 _ (by omega) ⟨Fr.rfl', fun k hk => by omega⟩
  · obtain ⟨F, d⟩ := hI
    refine ⟨sI w' 112 i (w.1 115 i), ⟨F.sI (by omega) (by omega), fun k hk => ?_⟩, ?_⟩
    · rw [sI_1, if_pos rfl, upd_1]
      by_cases h1 : k = i
      · rw [if_pos h1, h1]
      · rw [if_neg h1]; exact d k (by omega)
    · show lX6_tried_120 111 (n + 1) w' v (nI i) = _
      rw [lX6_tried_120]
      simp (disch := omega) only [Nat.reduceAdd, n706, n1, nI_le_, ldI_n, ob_some, nI_add, stI_n, F.1 115 (by omega)]
      rw [if_neg (by omega)]
  · obtain ⟨F, d⟩ := hI
    refine ⟨w', ?_, F, ZA_ext (fun k hk => d k hk) Z⟩
    show lX6_tried_120 111 (n + 1) w' v (nI 706) = _
    rw [lX6_tried_120, if_pos (by decide)]
theorem M_TR {e b : Nat → Nat} {q : Nat} (Z : ZA (w.1 112) e) (G : GR e) (Z5 : ZA (w.1 115) b) (hq : q ≤ 3) : ∃ w', TR w (nI q) = some ((if q = 0 then nI (e 564) else if q = 1 then nI (e 564 + 3 * sums e 580) else if q = 2 then nI (tnw e) else nI (sums e 574)), w') ∧ Fm w w' ∧ ZA (w'.1 112) b := by
  unfold TR
  obtain rfl | rfl | rfl | rfl : q = 0 ∨ q = 1 ∨ q = 2 ∨ q = 3 := by omega
  · obtain ⟨w', e1, F1, Z1⟩ := M_tr120 (v := nI (e 564)) Z5
    exact ⟨w', by rw [if_pos (show nI 0 = 0 from rfl), n564, zl Z (by omega) (by omega), ob_some, e1, if_pos rfl], F1.fm, Z1⟩
  · obtain ⟨w', e1, F1, Z1⟩ := M_tr120 (v := nI (e 564 + 3 * sums e 580)) Z5
    exact ⟨w', by rw [if_neg (show ¬ nI 1 = 0 by decide), if_pos (show nI 1 = 1 from rfl), M_cost Z, ob_some, e1, if_neg (by omega), if_pos rfl], F1.fm, Z1⟩
  · obtain ⟨w2, e2, F2⟩ := M_tnw Z G.1 G.2.1
    obtain ⟨w', e1, F1, Z1⟩ := M_tr120 (w := w2) (v := nI (tnw e)) (b := b) (by rw [F2.1 115 (by omega)]; exact Z5)
    exact ⟨w', by rw [if_neg (show ¬ nI 2 = 0 by decide), if_neg (show ¬ nI 2 = 1 by decide), if_pos (show nI 2 = 2 from rfl), e2, ob2_some, e1, if_neg (by omega), if_neg (by omega), if_pos rfl], F2.fm6.trans F1.fm, Z1⟩
  · obtain ⟨w', e1, F1, Z1⟩ := M_tr120 (v := nI (sums e 574)) Z5
    exact ⟨w', by rw [if_neg (show ¬ nI 3 = 0 by decide), if_neg (show ¬ nI 3 = 1 by decide), if_neg (show ¬ nI 3 = 2 by decide), n574, M_sumOf Z (by omega) (by omega), ob_some, e1, if_neg (by omega), if_neg (by omega), if_neg (by omega)], F1.fm, Z1⟩
theorem M_tried {v x q : Nat} (Z : ZA (w.1 112) a) (I : IO a) (hv : v ≤ 2) (hx : x ≤ 1) (hq : q ≤ 3) (HF : ∀ j, j ≤ run (stA a v x) 240 → ∃ f m, FR (itr (stA a v x) j) f m) (G2 : GR (fin a v x)) : ∃ w', fX6_tried w 111 (nI v) (nI x) (nI q) = some (ansT a v x q, w') ∧ Ft w w' ∧ ZA (w'.1 112) a := by
  have head : ∃ w1, fX6_tried w 111 (nI v) (nI x) (nI q) = ((fX6_startReading w1 111 (nI v) (nI x)).bind fun w2 => lX6_tried_40 111 4096 w2 (nI q) 0) ∧ Fr 115 116 w w1 ∧ ZA (w1.1 115) a := by
    refine loopI (fun n w' i => lX6_tried_3 111 n w' (nI v) (nI x) (nI q) (nI i)) (fun i w' => Fr 115 116 w w' ∧ ∀ k, k < i → w'.1 115 k = w.1 112 k) 0 706 (by omega) (fun z => ∃ w1, z = ((fX6_startReading w1 111 (nI v) (nI x)).bind fun w2 => lX6_tried_40 111 4096 w2 (nI q) 0) ∧ Fr 115 116 w w1 ∧ ZA (w1.1 115) a) (fun n i w' hi hi2 hI => ?_) (fun n w' hI => ?_) 4096 _ (by omega) ⟨Fr.rfl', fun k hk => by omega⟩
    · obtain ⟨F, d⟩ := hI
      refine ⟨sI w' 115 i (w.1 112 i), ⟨F.sI (by omega) (by omega), fun k hk => ?_⟩, ?_⟩
      · rw [sI_1, if_pos rfl, upd_1]
        by_cases h1 : k = i
        · rw [if_pos h1, h1]
        · rw [if_neg h1]; exact d k (by omega)
      · show lX6_tried_3 111 (n + 1) w' (nI v) (nI x) (nI q) (nI i) = _
        rw [lX6_tried_3]
        simp (disch := omega) only [Nat.reduceAdd, n706, n1, nI_le_, ldI_n, ob_some, nI_add, stI_n, F.1 112 (by omega)]
        rw [if_neg (by omega)]
    · obtain ⟨F, d⟩ := hI
      refine ⟨w', ?_, F, ZA_ext (fun k hk => d k hk) Z⟩
      show lX6_tried_3 111 (n + 1) w' (nI v) (nI x) (nI q) (nI 706) = _
      rw [lX6_tried_3, if_pos (by decide)]
  obtain ⟨w1, e1, F1, Z15⟩ := head
  have Z1 : ZA (w1.1 112) a := by rw [F1.1 112 (by omega)]; exact Z
  obtain ⟨w2, b2, e2, Z2, S2, J2, F2, rfl⟩ := M_startReading Z1 I hv hx
  have G : GR (stA a v x) := ⟨IO_559 I S2.1 (by rw [S2.2.2.2.1]; omega), J2⟩
  obtain ⟨w3, e3, F3, Z3⟩ := M_tried0 (nI q) 240 0 4096 w2 _ (by omega) (by omega) Z2 G HF
  have Z35 : ZA (w3.1 115) a := by
    rw [F3.2.2.2, F2.2.2.2]
    exact Z15
  obtain ⟨w4, e4, F4, Z4⟩ := M_TR (q := q) Z3 G2 Z35 hq
  refine ⟨w4, ?_, F1.ft5.trans ((F2.trans F3).trans F4).ft, Z4⟩
  rw [e1, e2, ob_some]
  show lX6_tried_40 111 4096 w2 (nI q) (nI 0) = _
  rw [e3, e4]
  rfl
theorem MR_try (C : CRel w a h p c ks n t) (R : RRel w a h p c ks n t) (V : PV a h p c ks n t) (F1 : Fr 102 111 w w1) (F2 : Ft w1 w2) (Z2 : ZA (w2.1 112) a) : MR w2 := by
  obtain ⟨c1, c2, c3, c4, c5, c6⟩ := C
  have R1 := RR_fr R F1 (by omega)
  obtain ⟨r1, r2, r3, r4, r5, r6⟩ := R1
  obtain ⟨F2, g3, g4⟩ := F2
  have hp := fun j hj => (V.2.2.1 j hj).1
  refine ⟨a, h, p, c, ks, n, t, ⟨Rs_fr (Rs_fr c1 V.1.1 F1 (by omega)) V.1.1 F2 (by omega), HC_fr (HC_fr c2 hp F1 (by omega)) hp F2 (by omega), ?_, fun hc => Rs_fr (Rs_fr (c4 hc) (V.2.2.2.2.1 hc).1 F1 (by omega)) (V.2.2.2.2.1 hc).1 F2 (by omega), ?_, fun i hi => ?_⟩, ⟨Z2, ⟨?_, fun j hj => ?_⟩, ?_, fun hc => ?_, ?_, fun i hi => ?_⟩, V⟩
  · rw [F2.1 0 (by omega), F1.1 0 (by omega)]; exact c3
  · rw [F2.1 99 (by omega), F1.1 99 (by omega)]; exact c5
  · rw [F2.1 100 (by omega), F1.1 100 (by omega)]; exact c6 i hi
  · rw [F2.1 111 (by omega)]; exact r2.1
  · rw [g3]; exact r2.2 j hj
  · rw [F2.1 111 (by omega)]; exact r3
  · rw [g4]; exact r4 hc
  · rw [F2.1 111 (by omega)]; exact r5
  · rw [F2.1 117 (by omega)]; exact r6 i hi
theorem C_ansT {v x q : Nat} {r : Nat} {f : Nat → Nat} {m : Nat} (O : OC w 2 (fin a v x)) (RC0 : RC w r (fin a v x) f m) (G : GR (fin a v x)) (hq : q ≤ 3) {ρ : Type} (K : Int32 → Option ρ) : (if nI q = 0 then K (w.1 r 4) else if nI q = 1 then (fX2_cost w r).bind K else if nI q = 2 then (fX2_toldNotWanted w r 2).bind K else (fX2_caughtSize w r).bind K) = K (ansT a v x q) := by
  unfold ansT
  obtain rfl | rfl | rfl | rfl : q = 0 ∨ q = 1 ∨ q = 2 ∨ q = 3 := by omega
  · rw [if_pos (show nI 0 = 0 from rfl), if_pos rfl, RC0.2.2.2.1]
  · rw [if_neg (show ¬ nI 1 = 0 by decide), if_pos (show nI 1 = 1 from rfl), C_cost RC0, ob_some, if_neg (by omega), if_pos rfl]
  · rw [if_neg (show ¬ nI 2 = 0 by decide), if_neg (show ¬ nI 2 = 1 by decide), if_pos (show nI 2 = 2 from rfl), C_tnw O RC0 G.1, ob_some, if_neg (by omega), if_neg (by omega), if_pos rfl]
  · rw [if_neg (show ¬ nI 3 = 0 by decide), if_neg (show ¬ nI 3 = 1 by decide), if_neg (show ¬ nI 3 = 2 by decide), C_caughtSize RC0 G.2.1, ob_some, if_neg (by omega), if_neg (by omega), if_neg (by omega)]
theorem sim_trial (x : Int32) (b : Nat) (hb : b ≤ 1) (y : Int32) : Sim (fun w => fX5_trial w 0 x (nI b) y) (fun w => fX6_trial w 111 x (nI b) y) := by
  rintro w ⟨a, h, p, c, ks, n, t, C, R, V⟩
  have hMR : MR w := ⟨a, h, p, c, ks, n, t, C, R, V⟩
  have I := V.1.1
  have O : OC w 2 a := C.1.1
  have Z := R.1
  show ∃ v w1 w2, fX5_trial w 0 x (nI b) y = some (v, w1) ∧ fX6_trial w1 111 x (nI b) y = some (v, w2) ∧ MR w2
  have stay : ∀ v, fX5_trial w 0 x (nI b) y = some (v, w) → fX6_trial w 111 x (nI b) y = some (v, w) → ∃ v w1 w2, fX5_trial w 0 x (nI b) y = some (v, w1) ∧ fX6_trial w1 111 x (nI b) y = some (v, w2) ∧ MR w2 := fun v e1 e2 => ⟨v, w, w, e1, e2, hMR⟩
  rcases way_cases x with ⟨v, hv, rfl⟩ | hx
  rotate_left
  · apply stay (-2)
    · unfold fX5_trial
      rw [isWay_n hx, ob_some, if_pos rfl]
    · unfold fX6_trial
      rcases hx with hx | ⟨hx, hx2⟩
      · rw [if_pos hx]
      · rw [if_neg hx, if_pos hx2]
  have hc5 : ∀ w', fX5_trial w' 0 (nI v) (nI b) y = (if y < 0 then some ((-2 : Int32), w') else if y ≤ 3 then (fX1_questionSize w' 2).bind fun v5 => (if v5 = 0 then some ((-4 : Int32), w') else (fX2_start w' 102 2 (nI v) (nI b)).bind fun w7 => ob2 (fX2_goOn w7 102 2 240) fun v8 w9 => if y = 0 then some (w9.1 102 4, w9) else if y = 1 then (fX2_cost w9 102).bind fun v12 => some (v12, w9) else if y = 2 then (fX2_toldNotWanted w9 102 2).bind fun v14 => some (v14, w9) else (fX2_caughtSize w9 102).bind fun v15 => some (v15, w9)) else some ((-2 : Int32), w')) := by
    intro w'
    unfold fX5_trial
    rw [isWay_y hv, ob_some, if_neg (by decide)]
  have hc6 : ∀ w', fX6_trial w' 111 (nI v) (nI b) y = (if y < 0 then some ((-2 : Int32), w') else if y ≤ 3 then (fX6_asked w' 111).bind fun v5 => (if v5 = 0 then some ((-4 : Int32), w') else ob2 (fX6_tried w' 111 (nI v) (nI b) y) fun v7 w8 => some (v7, w8)) else some ((-2 : Int32), w')) := by
    intro w'
    unfold fX6_trial
    rw [if_neg (nI_pos (by omega)), if_neg (by rw [n2, nI_lt_ (by omega) (by omega)]; omega)]
  rcases num_cases y with h0 | ⟨q, hq0, rfl⟩
  · exact stay (-2) (by rw [hc5, if_pos h0]) (by rw [hc6, if_pos h0])
  have hn0 : ¬ nI q < 0 := nI_pos (by omega)
  by_cases h3 : nI q ≤ 3
  rotate_left
  · exact stay (-2) (by rw [hc5, if_neg hn0, if_neg h3]) (by rw [hc6, if_neg hn0, if_neg h3])
  have hq : q ≤ 3 := by
    rw [n3, nI_le_ (by omega) (by omega)] at h3
    exact h3
  by_cases hqs : qs a = 0
  · refine stay (-4) (by rw [hc5, if_neg hn0, if_pos h3, C_questionSize O I, ob_some, if_pos ((qs_0 I).mpr hqs)]) ?_
    rw [hc6, if_neg hn0, if_pos h3, M_asked Z I, ob_some, if_pos ((qs_0 I).mpr hqs)]
  have hqn : ¬ nI (qs a) = 0 := fun z => hqs ((qs_0 I).mp z)
  obtain ⟨w1, f, m, e1, F1, RC1, O1, O1a, G1, HF⟩ := C_rehearse (v := v) (x := b) O I Z hv hb
  have R1 := RR_fr R F1 (by omega)
  obtain ⟨w2, e2, F2, Z2⟩ := M_tried (q := q) R1.1 I hv hb hq HF G1
  refine ⟨ansT a v b q, w1, w2, ?_, ?_, MR_try C R V F1 F2 Z2⟩
  · rw [hc5, if_neg hn0, if_pos h3, C_questionSize O I, ob_some, if_neg hqn, e1]
    exact C_ansT O1 RC1 G1 hq (fun z => some (z, w1))
  · rw [hc6, if_neg hn0, if_pos h3, M_asked R1.1 I, ob_some, if_neg hqn, e2, ob2_some]
theorem ch_bit : ∀ i, i < 6 → ((nI i &&& 1 = 1 ↔ i % 2 = 1) ∧ nI i >>> ((1 : Int32) &&& 31) = nI (i / 2)) := by decide +kernel
/-- the best of the first i + 1 readings, and its cost -/
noncomputable def chp (a : Nat → Nat) : Nat → Int32 × Int32
  | 0 => (nI 0, ansT a 0 0 1)
  | i + 1 => if ansT a ((i + 1) / 2) ((i + 1) % 2) 1 < (chp a i).2 then (nI (i + 1), ansT a ((i + 1) / 2) ((i + 1) % 2) 1) else chp a i
theorem le_of_nlt {x y : Int32} (h : ¬ x < y) : y ≤ x := by
  rw [Int32.lt_iff_toInt_lt] at h
  rw [Int32.le_iff_toInt_le]
  omega
theorem nle_of_lt {x y : Int32} (h : x < y) : ¬ y ≤ x := by
  rw [Int32.lt_iff_toInt_lt] at h
  rw [Int32.le_iff_toInt_le]
  omega
theorem chp_sign (a : Nat → Nat) : ∀ i, i < 6 → ¬ (chp a i).1 < 0 := by
  intro i
  induction i with
  | zero => intro _; exact nI_pos (by omega)
  | succ i ih =>
    intro h
    rw [chp]
    split
    · exact nI_pos (by omega)
    · exact ih (by omega)
theorem sim_cheapest : Sim (fun w => fX5_cheapest w 0) (fun w => fX6_cheapest w 111) := by
  rintro w ⟨a, h, p, c, ks, n, t, C, R, V⟩
  have hMR : MR w := ⟨a, h, p, c, ks, n, t, C, R, V⟩
  have I := V.1.1
  have O : OC w 2 a := C.1.1
  have Z := R.1
  show ∃ v w1 w2, fX5_cheapest w 0 = some (v, w1) ∧ fX6_cheapest w1 111 = some (v, w2) ∧ MR w2
  have hc5 : ∀ w', fX5_cheapest w' 0 = ((fX1_questionSize w' 2).bind fun v1 => if v1 = 0 then some ((-4 : Int32), w') else lX5_cheapest_22 0 4096 w' 0 0 0) := fun w' => rfl
  have hc6 : ∀ w', fX6_cheapest w' 111 = ((fX6_asked w' 111).bind fun v1 => if v1 = 0 then some ((-4 : Int32), w') else lX6_cheapest_16 111 4096 w' (-1) 0 0) := fun w' => rfl
  by_cases hqs : qs a = 0
  · refine ⟨-4, w, w, by rw [hc5, C_questionSize O I, ob_some, if_pos ((qs_0 I).mpr hqs)], ?_, hMR⟩
    rw [hc6, M_asked Z I, ob_some, if_pos ((qs_0 I).mpr hqs)]
  have hqn : ¬ nI (qs a) = 0 := fun z => hqs ((qs_0 I).mp z)
  have cls : ∃ w', lX5_cheapest_22 0 4096 w 0 0 0 = some ((chp a 5).1, w') ∧ Fr 102 111 w w' := by
    refine loopI (fun n (s : Wd × Int32 × Int32) i => lX5_cheapest_22 0 n s.1 s.2.1 s.2.2 (nI i)) (fun i s => Fr 102 111 w s.1 ∧ (i ≠ 0 → s.2 = chp a (i - 1))) 0 6 (by omega) (fun z => ∃ w', z = some ((chp a 5).1, w') ∧ Fr 102 111 w w') (fun n i s hi hi2 hI => ?_) (fun n s hI => ?_) 4096 (w, 0, 0) (by omega) ⟨Fr.rfl', fun z => absurd rfl z⟩
    · obtain ⟨F, hs⟩ := hI
      have Os : OC s.1 2 a := OC_fr O I F (by omega)
      have hx := ch_bit i hi2
      obtain ⟨w1, f, m, e1, F1, RC1, O1, O1a, G1, HF⟩ := C_rehearse (v := i / 2) (x := i % 2) Os I Z (by omega) (by omega)
      have ec := C_cost RC1
      have ev : nI (fin a (i / 2) (i % 2) 564 + 3 * sums (fin a (i / 2) (i % 2)) 580) = ansT a (i / 2) (i % 2) 1 := rfl
      rw [ev] at ec
      have un : lX5_cheapest_22 0 (n + 1) s.1 s.2.1 s.2.2 (nI i) = (if nI i = 0 then lX5_cheapest_22 0 n w1 (nI i) (ansT a (i / 2) (i % 2) 1) (nI (i + 1)) else if s.2.2 ≤ ansT a (i / 2) (i % 2) 1 then lX5_cheapest_22 0 n w1 s.2.1 s.2.2 (nI (i + 1)) else lX5_cheapest_22 0 n w1 (nI i) (ansT a (i / 2) (i % 2) 1) (nI (i + 1))) := by
        have n1' : nI i + 1 = nI (i + 1) := by rw [n1, nI_add]
        rw [lX5_cheapest_22, if_neg (by rw [n6, nI_le_ (by omega) (by omega)]; omega), hx.2, n1']
        by_cases h2 : i % 2 = 1
        · rw [if_pos (hx.1.mpr h2)]
          have e1' := e1 (ρ := Int32 × Wd)
          rw [h2] at e1' ec ⊢
          have := e1' (fun v12 w13 => (fX2_cost w13 102).bind fun v14 => if nI i = 0 then lX5_cheapest_22 0 n w13 (nI i) v14 (nI (i + 1)) else if s.2.2 ≤ v14 then lX5_cheapest_22 0 n w13 s.2.1 s.2.2 (nI (i + 1)) else lX5_cheapest_22 0 n w13 (nI i) v14 (nI (i + 1)))
          rw [ec, ob_some] at this
          exact this
        · have h0 : i % 2 = 0 := by omega
          rw [if_neg (fun z => h2 (hx.1.mp z))]
          have e1' := e1 (ρ := Int32 × Wd)
          rw [h0] at e1' ec ⊢
          have := e1' (fun v12 w13 => (fX2_cost w13 102).bind fun v14 => if nI i = 0 then lX5_cheapest_22 0 n w13 (nI i) v14 (nI (i + 1)) else if s.2.2 ≤ v14 then lX5_cheapest_22 0 n w13 s.2.1 s.2.2 (nI (i + 1)) else lX5_cheapest_22 0 n w13 (nI i) v14 (nI (i + 1)))
          rw [ec, ob_some] at this
          exact this
      cases i with
      | zero =>
        refine ⟨(w1, nI 0, ansT a 0 0 1), ⟨F.trans F1, fun _ => rfl⟩, ?_⟩
        rw [un, if_pos (show nI 0 = 0 from rfl)]
      | succ i =>
        have hs' := hs (by omega)
        rw [Nat.add_sub_cancel] at hs'
        have hn : ¬ nI (i + 1) = 0 := by rw [l0, nI_eq_ (by omega) (by omega)]; omega
        by_cases hlt : ansT a ((i + 1) / 2) ((i + 1) % 2) 1 < (chp a i).2
        · refine ⟨(w1, nI (i + 1), ansT a ((i + 1) / 2) ((i + 1) % 2) 1), ⟨F.trans F1, fun _ => ?_⟩, ?_⟩
          · show _ = chp a (i + 1)
            rw [chp, if_pos hlt]
          · rw [un, if_neg hn, hs', if_neg (nle_of_lt hlt)]
        · refine ⟨(w1, chp a i), ⟨F.trans F1, fun _ => ?_⟩, ?_⟩
          · show _ = chp a (i + 1)
            rw [chp, if_neg hlt]
          · rw [un, if_neg hn, hs', if_pos (le_of_nlt hlt)]
    · obtain ⟨F, hs⟩ := hI
      refine ⟨s.1, ?_, F⟩
      show lX5_cheapest_22 0 (n + 1) s.1 s.2.1 s.2.2 (nI 6) = _
      rw [lX5_cheapest_22, if_pos (by decide), hs (by omega)]
  obtain ⟨w1, e1, F1⟩ := cls
  have R1 := RR_fr R F1 (by omega)
  have ref : ∃ w', lX6_cheapest_16 111 4096 w1 (-1) 0 0 = some ((chp a 5).1, w') ∧ Ft w1 w' ∧ ZA (w'.1 112) a := by
    refine loopI (fun n (s : Wd × Int32 × Int32) i => lX6_cheapest_16 111 n s.1 s.2.1 s.2.2 (nI i)) (fun i s => Ft w1 s.1 ∧ ZA (s.1.1 112) a ∧ (i ≠ 0 → s.2 = chp a (i - 1)) ∧ (i = 0 → s.2.1 = -1)) 0 6 (by omega) (fun z => ∃ w', z = some ((chp a 5).1, w') ∧ Ft w1 w' ∧ ZA (w'.1 112) a) (fun n i s hi hi2 hI => ?_) (fun n s hI => ?_) 4096 (w1, -1, 0) (by omega) ⟨Ft.rfl', R1.1, fun z => absurd rfl z, fun _ => rfl⟩
    · obtain ⟨F, Zs, hs, hs0⟩ := hI
      obtain ⟨-, -, -, -, -, -, -, -, G1, HF⟩ := C_rehearse (v := i / 2) (x := i % 2) O I Z (by omega) (by omega)
      obtain ⟨w2, e2, F2, Z2⟩ := M_tried (q := 1) Zs I (show i / 2 ≤ 2 by omega) (show i % 2 ≤ 1 by omega) (by omega) HF G1
      have un : lX6_cheapest_16 111 (n + 1) s.1 s.2.1 s.2.2 (nI i) = (if s.2.1 < 0 then lX6_cheapest_16 111 n w2 (nI i) (ansT a (i / 2) (i % 2) 1) (nI (i + 1)) else if s.2.2 ≤ ansT a (i / 2) (i % 2) 1 then lX6_cheapest_16 111 n w2 s.2.1 s.2.2 (nI (i + 1)) else lX6_cheapest_16 111 n w2 (nI i) (ansT a (i / 2) (i % 2) 1) (nI (i + 1))) := by
        have n1' : nI i + 1 = nI (i + 1) := by rw [n1, nI_add]
        have em : nI i - nI i / 2 * 2 = nI (i % 2) := by rw [n2]; exact nI_mod (by omega) (by omega) (by omega)
        have ed : nI i / 2 = nI (i / 2) := by rw [n2]; exact nI_div (by omega) (by omega) (by omega)
        rw [lX6_cheapest_16, if_neg (by rw [n6, nI_le_ (by omega) (by omega)]; omega), em, ed, n1']
        by_cases h2 : i % 2 = 1
        · rw [h2] at e2 ⊢
          rw [if_pos (show nI 1 = 1 from rfl), show (1 : Int32) = nI 1 from rfl, e2, ob2_some]
        · have h0 : i % 2 = 0 := by omega
          rw [h0] at e2 ⊢
          rw [if_neg (show ¬ nI 0 = 1 by decide), show fX6_tried s.1 111 (nI (i / 2)) 0 1 = some (ansT a (i / 2) 0 1, w2) from e2, ob2_some]
      cases i with
      | zero =>
        refine ⟨(w2, nI 0, ansT a 0 0 1), ⟨F.trans F2, Z2, fun _ => rfl, fun z => by omega⟩, ?_⟩
        rw [un, hs0 rfl, if_pos (by decide)]
      | succ i =>
        have hs' := hs (by omega)
        rw [Nat.add_sub_cancel] at hs'
        have hn := chp_sign a i (by omega)
        by_cases hlt : ansT a ((i + 1) / 2) ((i + 1) % 2) 1 < (chp a i).2
        · refine ⟨(w2, nI (i + 1), ansT a ((i + 1) / 2) ((i + 1) % 2) 1), ⟨F.trans F2, Z2, fun _ => ?_, fun z => by omega⟩, ?_⟩
          · show _ = chp a (i + 1)
            rw [chp, if_pos hlt]
          · rw [un, hs', if_neg hn, if_neg (nle_of_lt hlt)]
        · refine ⟨(w2, chp a i), ⟨F.trans F2, Z2, fun _ => ?_, fun z => by omega⟩, ?_⟩
          · show _ = chp a (i + 1)
            rw [chp, if_neg hlt]
          · rw [un, hs', if_neg hn, if_pos (le_of_nlt hlt)]
    · obtain ⟨F, Zs, hs, hs0⟩ := hI
      refine ⟨s.1, ?_, F, Zs⟩
      show lX6_cheapest_16 111 (n + 1) s.1 s.2.1 s.2.2 (nI 6) = _
      rw [lX6_cheapest_16, if_pos (by decide), hs (by omega)]
  obtain ⟨w2, e2, F2, Z2⟩ := ref
  refine ⟨(chp a 5).1, w1, w2, ?_, ?_, MR_try C R V F1 F2 Z2⟩
  · rw [hc5, C_questionSize O I, ob_some, if_neg hqn, e1]
  · rw [hc6, M_asked R1.1 I, ob_some, if_neg hqn, e2]
end BEG
