/-! PURE PART: begin, step, trial, cheapest -/
section KREAD
variable {w w1 w2 w3 : Wd} {a a' : Nat → Nat}
theorem isWay_y {v : Nat} (h : v ≤ 2) : fX5_isWay w (nI v) = some 1 := by
  unfold fX5_isWay
  rw [if_neg (nI_pos (by omega)), if_neg (by rw [n2, nI_lt_ (by omega) (by omega)]; omega)]
  rfl
/-- a row begun, purely: what a start leaves is a good row -/
theorem stA_ok (I : IO a) {v x : Nat} (hv : v ≤ 2) (hx : x ≤ 1) : SB a (stA a v x) v x ∧ GR (stA a v x) := by
  obtain ⟨wz, Z⟩ := Zex a
  obtain ⟨w', b, e, Z', S, J, F, rfl⟩ := M_startReading Z I hv hx
  exact ⟨S, IO_559 I S.1 (by rw [S.2.2.2.1]; omega), J⟩
theorem C_begin0 {r v x : Nat} (O : OC w 2 a) (I : IO a) (S : SB a (stA a v x) v x) (hv : v ≤ 2) (hx : x ≤ 1) (hr : 8 ≤ r) : ∃ w', fX2_start w r 2 (nI v) (nI x) = some w' ∧ Fr r (r + 9) w w' ∧ bz (w'.1 r 0) = 1 ∧ RC w' r (stA a v x) (fun _ => 0) 0 ∧ OC w' 2 (stA a v x) := C_start O I S hv hx (by omega)
theorem oneIf_ov (G : GR a) : fX5_oneIf w (@ite Int32 (ov a) (Classical.propDecidable _) 1 0) = some (nI (a 562)) := by
  have := G.2.2
  by_cases h : ov a
  · rw [if_pos h, this.2.mp h]; rfl
  · have h0 : a 562 = 0 := by
      have : a 562 ≠ 1 := fun z => h (this.2.mpr z)
      omega
    rw [if_neg h, h0]; rfl
theorem qs_0 : (nI (qs a) = 0 ↔ qs a = 0) := by
  have : qs a ≤ 6 := cnt_le _ _
  exact nI_eq (b := 0) (by omega) (by omega)
theorem c5_beg {v b : Nat} (hv : v ≤ 2) : fX5_begin LY w 0 (nI v) (nI b) = (if (bz (w.1 8 0)) = 0 then (fX1_questionSize w 2).bind fun v4 => (if v4 = 0 then some ((-4 : Int32), w) else (fX0_record LY w 17 1).bind fun w6 => (pI w6 1 2 ((w6.1 1 2) + 1)).bind fun w7 => (fX2_start w7 8 2 (nI v) (nI b)).bind fun w8 => (fX2_isOver w8 8 2).bind fun v9 => (fX5_oneIf w8 v9).bind fun v10 => some (v10, w8)) else some ((-4 : Int32), w)) := by
  unfold fX5_begin
  rw [isWay_y hv, ob_some, if_neg (by decide)]
theorem K_begOff (K : KW w a) (h : a 559 = 1 ∨ qs a = 0) {v b : Nat} (hv : v ≤ 2) : fX5_begin LY w 0 (nI v) (nI b) = some (-4, w) := by
  have I := K.2.1.1
  have O : OC w 2 a := K.1.1
  have hon := on_0 K.1 I
  by_cases ho : a 559 = 0
  · have hq : qs a = 0 := by omega
    rw [c5_beg hv, if_pos (hon.1 ho), C_questionSize O I, ob_some, if_pos (qs_0.mpr hq)]
  · rw [c5_beg hv, if_neg (hon.2 ho).2]
theorem K_begin (K : KW w a) (ho : a 559 = 0) (hq : qs a ≠ 0) {v b : Nat} (hv : v ≤ 2) (hb : b ≤ 1) : ∃ w', fX5_begin LY w 0 (nI v) (nI b) = some (nI (stA (up a 566 (a 566 + 1)) v b 562), w') ∧ KW w' (stA (up a 566 (a 566 + 1)) v b) ∧ Fr 1 83 w w' := by
  have I := K.2.1.1
  have O : OC w 2 a := K.1.1
  have hb0 := (on_0 K.1 I).1 ho
  have hqn : ¬ nI (qs a) = 0 := fun z => hq (qs_0.mp z)
  obtain ⟨w1, e1, R1, H1, F1⟩ := KREC K
  obtain ⟨a1, ha1⟩ : ∃ y, y = up a 566 (a 566 + 1) := ⟨_, rfl⟩
  have u1 : ∀ k, k ≠ 566 → a1 k = a k := fun k hk => by rw [ha1, up_n _ _ hk]
  have u566 : a1 566 = a 566 + 1 := by rw [ha1, up_s]
  rw [← ha1]
  have I1 : IO a1 := IO_of I (fun k hk => u1 k (by omega))
  obtain ⟨w2, hw2⟩ : ∃ y, y = sI w1 1 2 (nI (a 566 + 1)) := ⟨_, rfl⟩
  have F2 : Fr 1 2 w1 w2 := by rw [hw2]; exact Fr.rfl'.sI (by omega) (by omega)
  have O2 : OC w2 2 a1 := OC_ag (fun k hk => u1 k (by omega)) I (OC_fr R1.1 I F2 (by omega))
  obtain ⟨S, G⟩ := stA_ok I1 hv hb
  obtain ⟨w3, e3, F3, b3, RC3, O3⟩ := C_begin0 (r := 8) O2 I1 S hv hb (by omega)
  obtain ⟨s1, s566, s567, s559, -⟩ := id S
  have Rs3 : Rs w3 1 (stA a1 v b) := by
    refine ⟨O3, ?_, ?_, ?_, fun _ => ⟨_, _, RC3⟩⟩
    · rw [show 1 + 7 = 8 from rfl, b3, s559]; rfl
    · rw [F3.1 1 (by omega), hw2, sI_1, if_pos rfl, upd_1, if_pos rfl, s566, u566]
    · rw [F3.1 1 (by omega), hw2, sI_1, if_pos rfl, upd_1, if_neg (by omega), s567, u1 _ (by omega)]; exact R1.2.2.2.1
  refine ⟨w3, ?_, ⟨Rs3, ⟨G.1, fun _ => G.2⟩, HH_fr (HH_fr H1 F2 (by omega)) F3 (by omega)⟩, (F1.wide (by omega) (by omega)).trans ((F2.wide (by omega) (by omega)).trans (F3.wide (by omega) (by omega)))⟩
  rw [c5_beg hv, if_pos hb0, C_questionSize O I, ob_some, if_neg hqn, e1, ob_some]
  unfold pI
  rw [ob_some, R1.2.2.1, n1, nI_add, ← hw2, e3, ob_some, C_isOver O3 RC3 G.1 G.2.1, ob_some, oneIf_ov G, ob_some]
theorem add_sub_nI {X Y Zc W : Nat} (h : W + Zc = X + Y) : nI X + (nI Y - nI Zc) = nI W := by
  have h1 : nI W + nI Zc = nI X + nI Y := by rw [nI_add, nI_add, h]
  rw [Int32.sub_eq_add_neg, ← Int32.add_assoc, ← h1, ← Int32.sub_eq_add_neg, Int32.add_sub_cancel]
theorem c5_stp {s : Nat} (h1 : 1 ≤ s) (hs : s ≤ 240) : fX5_step LY w 0 (nI s) = (if (bz (w.1 8 0)) = 0 then some ((-4 : Int32), w) else (fX2_isOver w 8 2).bind fun v4 => if v4 = 0 then (fX0_record LY w 17 1).bind fun w6 => (fX2_caughtSize w6 8).bind fun v7 => ob2 (fX2_goOn w6 8 2 (nI s)) fun v8 w9 => (fX2_caughtSize w9 8).bind fun v10 => (pI w9 1 3 ((w9.1 1 3) + (v10 - v7))).bind fun w11 => some (v8, w11) else some ((-5 : Int32), w)) := by
  have e : fX5_step LY w 0 (nI s) = (if nI s < 1 then some ((-2 : Int32), w) else if nI s ≤ 240 then (if (bz (w.1 8 0)) = 0 then some ((-4 : Int32), w) else (fX2_isOver w 8 2).bind fun v4 => if v4 = 0 then (fX0_record LY w 17 1).bind fun w6 => (fX2_caughtSize w6 8).bind fun v7 => ob2 (fX2_goOn w6 8 2 (nI s)) fun v8 w9 => (fX2_caughtSize w9 8).bind fun v10 => (pI w9 1 3 ((w9.1 1 3) + (v10 - v7))).bind fun w11 => some (v8, w11) else some ((-5 : Int32), w)) else some ((-2 : Int32), w)) := rfl
  rw [e, if_neg (by rw [n1, nI_lt_ (by omega) (by omega)]; omega), if_pos (by rw [n240, nI_le_ (by omega) (by omega)]; exact hs)]
theorem K_stepO (K : KW w a) (ho1 : a 559 = 1) (hov : ov a) {s : Nat} (h1 : 1 ≤ s) (hs : s ≤ 240) : fX5_step LY w 0 (nI s) = some (-5, w) := by
  obtain ⟨f, m, R, F⟩ := K_front K ho1
  rw [c5_stp h1 hs, if_neg ((on_0 K.1 K.2.1.1).2 (by omega)).2, C_isOver K.1.1 R K.2.1.1 (K.2.1.2 ho1).1, if_pos hov, ob_some, if_neg (by decide)]
theorem K_step (K : KW w a) (ho1 : a 559 = 1) (hov : ¬ ov a) {s : Nat} (h1 : 1 ≤ s) (hs : s ≤ 240) : ∃ w', fX5_step LY w 0 (nI s) = some (nI (run a s), w') ∧ KW w' (itr a (run a s)) ∧ Fr 1 83 w w' := by
  have I := K.2.1.1
  have O : OC w 2 a := K.1.1
  have hb0 := ((on_0 K.1 I).2 (by omega)).2
  have J := K.2.1.2 ho1
  have G : GR a := ⟨I, J⟩
  obtain ⟨f, m, RC0, -⟩ := K_front K ho1
  obtain ⟨w1, e1, R1, H1, F1⟩ := KREC K
  obtain ⟨f1, m1, RC1⟩ := R1.2.2.2.2 ho1
  have RC1' : RC w1 8 a f1 m1 := RC1
  have O1 : OC w1 2 a := R1.1
  obtain ⟨w2, f2, m2, e2, F2, g0, RC2, O2, G2, HF, h560, h566⟩ := C_goOn (r := 8) (o := 2) hs (by omega) O1 RC1' G
  obtain ⟨e, he⟩ : ∃ y, y = itr a (run a s) := ⟨_, rfl⟩
  have hcr := caught_run s a G
  rw [← he] at RC2 O2 G2 h560 h566 hcr ⊢
  obtain ⟨w3, hw3⟩ : ∃ y, y = sI w2 1 3 (nI (e 567)) := ⟨_, rfl⟩
  have F3 : Fr 1 2 w2 w3 := by rw [hw3]; exact Fr.rfl'.sI (by omega) (by omega)
  have Rs3 : Rs w3 1 e := by
    refine ⟨OC_fr O2 G2.1 F3 (by omega), ?_, ?_, ?_, fun _ => ⟨f2, m2, RC_fr RC2 F3 (by omega)⟩⟩
    · rw [F3.1 _ (by omega), show 1 + 7 = 8 from rfl, g0, h560 _ (by omega)]; exact R1.2.1
    · rw [hw3, sI_1, if_pos rfl, upd_1, if_neg (by omega), F2.1 1 (by omega), h566]; exact R1.2.2.1
    · rw [hw3, sI_1, if_pos rfl, upd_1, if_pos rfl]
  refine ⟨w3, ?_, ⟨Rs3, ⟨G2.1, fun _ => G2.2⟩, HH_fr (HH_fr H1 F2 (by omega)) F3 (by omega)⟩, (F1.wide (by omega) (by omega)).trans ((F2.wide (by omega) (by omega)).trans (F3.wide (by omega) (by omega)))⟩
  rw [c5_stp h1 hs, if_neg hb0, C_isOver O RC0 I J.1, if_neg hov, ob_some, if_pos rfl, e1, ob_some, C_caughtSize RC1' J.1, ob_some, e2, ob2_some, C_caughtSize RC2 G2.2.1, ob_some]
  unfold pI
  rw [ob_some, F2.1 1 (by omega), R1.2.2.2.1, add_sub_nI hcr, ← hw3]
/-- the end of a whole reading that begins now -/
noncomputable def fin (a : Nat → Nat) (v x : Nat) : Nat → Nat := itr (stA a v x) (run (stA a v x) 240)
noncomputable def ansT (a : Nat → Nat) (v x : Nat) (q : Nat) : Int32 := if q = 0 then nI (fin a v x 564) else if q = 1 then nI (fin a v x 564 + 3 * sums (fin a v x) 580) else if q = 2 then nI (tnw (fin a v x)) else nI (sums (fin a v x) 574)
theorem C_rehearse {v x : Nat} (O : OC w 2 a) (I : IO a) (hv : v ≤ 2) (hx : x ≤ 1) : ∃ w' f m, (∀ {ρ : Type} (K : Int32 → Wd → Option ρ), ((fX2_start w 102 2 (nI v) (nI x)).bind fun w7 => ob2 (fX2_goOn w7 102 2 240) K) = K (nI (run (stA a v x) 240)) w') ∧ Fr 102 111 w w' ∧ RC w' 102 (fin a v x) f m ∧ OC w' 2 (fin a v x) ∧ OC w' 2 a ∧ GR (fin a v x) := by
  obtain ⟨S, G⟩ := stA_ok I hv hx
  obtain ⟨w1, e1, F1, b1, RC1, O1⟩ := C_begin0 (r := 102) O I S hv hx (by omega)
  obtain ⟨w2, f2, m2, e2, F2, g0, RC2, O2, G2, HF, h560, h566⟩ := C_goOn (r := 102) (o := 2) (lim := 240) (by omega) (by omega) O1 RC1 G
  refine ⟨w2, f2, m2, fun K => ?_, (F1.trans F2), RC2, O2, OC_fr O I (F1.trans F2) (by omega), G2⟩
  rw [e1, ob_some, n240, e2, ob2_some]
theorem C_ansT {v x q : Nat} {r : Nat} {f : Nat → Nat} {m : Nat} (O : OC w 2 (fin a v x)) (RC0 : RC w r (fin a v x) f m) (G : GR (fin a v x)) (hq : q ≤ 3) {ρ : Type} (K : Int32 → Option ρ) : (if nI q = 0 then K (w.1 r 4) else if nI q = 1 then (fX2_cost w r).bind K else if nI q = 2 then (fX2_toldNotWanted w r 2).bind K else (fX2_caughtSize w r).bind K) = K (ansT a v x q) := by
  unfold ansT
  obtain rfl | rfl | rfl | rfl : q = 0 ∨ q = 1 ∨ q = 2 ∨ q = 3 := by omega
  · rw [if_pos (show nI 0 = 0 from rfl), if_pos rfl, RC0.2.2.2.1]
  · rw [if_neg (show ¬ nI 1 = 0 by decide), if_pos (show nI 1 = 1 from rfl), C_cost RC0, ob_some, if_neg (by omega), if_pos rfl]
  · rw [if_neg (show ¬ nI 2 = 0 by decide), if_neg (show ¬ nI 2 = 1 by decide), if_pos (show nI 2 = 2 from rfl), C_tnw O RC0 G.1, ob_some, if_neg (by omega), if_neg (by omega), if_pos rfl]
  · rw [if_neg (show ¬ nI 3 = 0 by decide), if_neg (show ¬ nI 3 = 1 by decide), if_neg (show ¬ nI 3 = 2 by decide), C_caughtSize RC0 G.2.1, ob_some, if_neg (by omega), if_neg (by omega), if_neg (by omega)]
theorem K_trial (K : KW w a) (hqs : qs a ≠ 0) {v b q : Nat} (hv : v ≤ 2) (hb : b ≤ 1) (hq : q ≤ 3) : ∃ w', fX5_trial w 0 (nI v) (nI b) (nI q) = some (ansT a v b q, w') ∧ KW w' a ∧ Fr 102 111 w w' := by
  have I := K.2.1.1
  have O : OC w 2 a := K.1.1
  have hc5 : fX5_trial w 0 (nI v) (nI b) (nI q) = (if nI q < 0 then some ((-2 : Int32), w) else if nI q ≤ 3 then (fX1_questionSize w 2).bind fun v5 => (if v5 = 0 then some ((-4 : Int32), w) else (fX2_start w 102 2 (nI v) (nI b)).bind fun w7 => ob2 (fX2_goOn w7 102 2 240) fun v8 w9 => if nI q = 0 then some (w9.1 102 4, w9) else if nI q = 1 then (fX2_cost w9 102).bind fun v12 => some (v12, w9) else if nI q = 2 then (fX2_toldNotWanted w9 102 2).bind fun v14 => some (v14, w9) else (fX2_caughtSize w9 102).bind fun v15 => some (v15, w9)) else some ((-2 : Int32), w)) := by
    unfold fX5_trial
    rw [isWay_y hv, ob_some, if_neg (by decide)]
  have hqn : ¬ nI (qs a) = 0 := fun z => hqs (qs_0.mp z)
  obtain ⟨w1, f, m, e1, F1, RC1, O1, O1a, G1⟩ := C_rehearse (v := v) (x := b) O I hv hb
  refine ⟨w1, ?_, KW_fr K F1 (by omega), F1⟩
  rw [hc5, if_neg (nI_pos (by omega)), if_pos (by rw [n3, nI_le_ (by omega) (by omega)]; exact hq), C_questionSize O I, ob_some, if_neg hqn, e1]
  exact C_ansT O1 RC1 G1 hq (fun z => some (z, w1))
theorem ch_bit : ∀ i, i < 6 → ((nI i &&& 1 = 1 ↔ i % 2 = 1) ∧ nI i >>> ((1 : Int32) &&& 31) = nI (i / 2)) := by decide +kernel
/-- the best of the first i + 1 readings, and its cost -/
noncomputable def chp (a : Nat → Nat) : Nat → Int32 × Int32
  | 0 => (nI 0, ansT a 0 0 1)
  | i + 1 => if ansT a ((i + 1) / 2) ((i + 1) % 2) 1 < (chp a i).2 then (nI (i + 1), ansT a ((i + 1) / 2) ((i + 1) % 2) 1) else chp a i
theorem le_of_nlt {x y : Int32} (h : ¬ x < y) : y ≤ x := by
  rw [Int32.lt_iff_toInt_lt] at h
  rw [Int32.le_iff_toInt_le]
  omega
theorem nle_of_lt {x y : Int32} (h : x < y) : ¬ y ≤ x := by
  rw [Int32.lt_iff_toInt_lt] at h
  rw [Int32.le_iff_toInt_le]
  omega
theorem K_chOff (K : KW w a) (hqs : qs a = 0) : fX5_cheapest w 0 = some (-4, w) := by
  have hc5 : fX5_cheapest w 0 = ((fX1_questionSize w 2).bind fun v1 => if v1 = 0 then some ((-4 : Int32), w) else lX5_cheapest_22 0 4096 w 0 0 0) := rfl
  rw [hc5, C_questionSize K.1.1 K.2.1.1, ob_some, if_pos (qs_0.mpr hqs)]
theorem K_cheapest (K : KW w a) (hqs : qs a ≠ 0) : ∃ w', fX5_cheapest w 0 = some ((chp a 5).1, w') ∧ KW w' a ∧ Fr 102 111 w w' := by
  have I := K.2.1.1
  have O : OC w 2 a := K.1.1
  have hc5 : fX5_cheapest w 0 = ((fX1_questionSize w 2).bind fun v1 => if v1 = 0 then some ((-4 : Int32), w) else lX5_cheapest_22 0 4096 w 0 0 0) := rfl
  have hqn : ¬ nI (qs a) = 0 := fun z => hqs (qs_0.mp z)
  have cls : ∃ w', lX5_cheapest_22 0 4096 w 0 0 0 = some ((chp a 5).1, w') ∧ Fr 102 111 w w' := by
    refine loopI (fun n (s : Wd × Int32 × Int32) i => lX5_cheapest_22 0 n s.1 s.2.1 s.2.2 (nI i)) (fun i s => Fr 102 111 w s.1 ∧ (i ≠ 0 → s.2 = chp a (i - 1))) 0 6 (by omega) (fun z => ∃ w', z = some ((chp a 5).1, w') ∧ Fr 102 111 w w') (fun n i s hi hi2 hI => ?_) (fun n s hI => ?_) 4096 (w, 0, 0) (by omega) ⟨Fr.rfl', fun z => absurd rfl z⟩
    · obtain ⟨F, hs⟩ := hI
      have Os : OC s.1 2 a := OC_fr O I F (by omega)
      have hx := ch_bit i hi2
      obtain ⟨w1, f, m, e1, F1, RC1, O1, O1a, G1⟩ := C_rehearse (v := i / 2) (x := i % 2) Os I (by omega) (by omega)
      have ec := C_cost RC1
      have ev : nI (fin a (i / 2) (i % 2) 564 + 3 * sums (fin a (i / 2) (i % 2)) 580) = ansT a (i / 2) (i % 2) 1 := rfl
      rw [ev] at ec
      have un : lX5_cheapest_22 0 (n + 1) s.1 s.2.1 s.2.2 (nI i) = (if nI i = 0 then lX5_cheapest_22 0 n w1 (nI i) (ansT a (i / 2) (i % 2) 1) (nI (i + 1)) else if s.2.2 ≤ ansT a (i / 2) (i % 2) 1 then lX5_cheapest_22 0 n w1 s.2.1 s.2.2 (nI (i + 1)) else lX5_cheapest_22 0 n w1 (nI i) (ansT a (i / 2) (i % 2) 1) (nI (i + 1))) := by
        have n1' : nI i + 1 = nI (i + 1) := by rw [n1, nI_add]
        rw [lX5_cheapest_22, if_neg (by rw [n6, nI_le_ (by omega) (by omega)]; omega), hx.2, n1']
        by_cases h2 : i % 2 = 1
        · rw [if_pos (hx.1.mpr h2)]
          have e1' := e1 (ρ := Int32 × Wd)
          rw [h2] at e1' ec ⊢
          have := e1' (fun v12 w13 => (fX2_cost w13 102).bind fun v14 => if nI i = 0 then lX5_cheapest_22 0 n w13 (nI i) v14 (nI (i + 1)) else if s.2.2 ≤ v14 then lX5_cheapest_22 0 n w13 s.2.1 s.2.2 (nI (i + 1)) else lX5_cheapest_22 0 n w13 (nI i) v14 (nI (i + 1)))
          rw [ec, ob_some] at this
          exact this
        · have h0 : i % 2 = 0 := by omega
          rw [if_neg (fun z => h2 (hx.1.mp z))]
          have e1' := e1 (ρ := Int32 × Wd)
          rw [h0] at e1' ec ⊢
          have := e1' (fun v12 w13 => (fX2_cost w13 102).bind fun v14 => if nI i = 0 then lX5_cheapest_22 0 n w13 (nI i) v14 (nI (i + 1)) else if s.2.2 ≤ v14 then lX5_cheapest_22 0 n w13 s.2.1 s.2.2 (nI (i + 1)) else lX5_cheapest_22 0 n w13 (nI i) v14 (nI (i + 1)))
          rw [ec, ob_some] at this
          exact this
      cases i with
      | zero =>
        refine ⟨(w1, nI 0, ansT a 0 0 1), ⟨F.trans F1, fun _ => rfl⟩, ?_⟩
        rw [un, if_pos (show nI 0 = 0 from rfl)]
      | succ i =>
        have hs' := hs (by omega)
        rw [Nat.add_sub_cancel] at hs'
        have hn : ¬ nI (i + 1) = 0 := by rw [l0, nI_eq_ (by omega) (by omega)]; omega
        by_cases hlt : ansT a ((i + 1) / 2) ((i + 1) % 2) 1 < (chp a i).2
        · refine ⟨(w1, nI (i + 1), ansT a ((i + 1) / 2) ((i + 1) % 2) 1), ⟨F.trans F1, fun _ => ?_⟩, ?_⟩
          · show _ = chp a (i + 1)
            rw [chp, if_pos hlt]
          · rw [un, if_neg hn, hs', if_neg (nle_of_lt hlt)]
        · refine ⟨(w1, chp a i), ⟨F.trans F1, fun _ => ?_⟩, ?_⟩
          · show _ = chp a (i + 1)
            rw [chp, if_neg hlt]
          · rw [un, if_neg hn, hs', if_pos (le_of_nlt hlt)]
    · obtain ⟨F, hs⟩ := hI
      refine ⟨s.1, ?_, F⟩
      show lX5_cheapest_22 0 (n + 1) s.1 s.2.1 s.2.2 (nI 6) = _
      rw [lX5_cheapest_22, if_pos (by decide), hs (by omega)]
  obtain ⟨w1, e1, F1⟩ := cls
  refine ⟨w1, ?_, KW_fr K F1 (by omega), F1⟩
  rw [hc5, C_questionSize O I, ob_some, if_neg hqn, e1]
end KREAD
