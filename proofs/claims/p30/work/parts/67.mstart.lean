/-! PURE PART: a reading of the reference begins -/
def SB (a b : Nat → Nat) (v x : Nat) : Prop :=
  (∀ k, k < 559 → b k = a k) ∧ b 566 = a 566 ∧ b 567 = a 567 ∧ b 559 = 1 ∧ b 560 = v ∧ b 561 = x ∧ b 563 = 0 ∧ b 564 = 0 ∧ b 565 = 0 ∧
  (∀ m, m < 6 → b (568 + m) = 0 ∧ b (574 + m) = 0 ∧ b (580 + m) = 0) ∧ (∀ d, d < 60 → b (586 + d) = 0 ∧ b (646 + d) = 0)
theorem IO_559 {a b : Nat → Nat} (I : IO a) (h : ∀ k, k < 559 → b k = a k) (h1 : b 559 ≤ 1) : IO b := by
  have := IO_of (a := a) (a' := up b 559 (a 559)) I (fun k hk => by
    by_cases h2 : k = 559
    · rw [h2, up_s]
    · rw [up_n _ _ h2]; exact h k (by omega))
  have u : ∀ k, k ≠ 559 → up b 559 (a 559) k = b k := fun k hk => up_n _ _ hk
  refine ⟨fun l hl => ?_, fun l p hl hp => ?_, fun l p q hl hpq hq => ?_, fun l p q hl hpq hq => ?_, fun d hd => ?_, ?_, h1⟩
  · have := this.1 l hl
    rw [u _ (by omega), u _ (by omega), u _ (by omega)] at this
    exact this
  · have h2 := this.1 l hl
    rw [u _ (by omega), u _ (by omega), u _ (by omega)] at h2
    have := this.2.1 l p hl (by rw [u _ (by omega)]; exact hp)
    rw [u _ (by omega), u _ (by omega)] at this
    exact this
  · have h2 := this.1 l hl
    rw [u _ (by omega), u _ (by omega), u _ (by omega)] at h2
    have := this.2.2.1 l p q hl hpq (by rw [u _ (by omega)]; exact hq)
    rw [u (240 + 40 * l + q) (by omega), u (240 + 40 * l + p) (by omega), u (40 * l + p) (by omega), u (40 * l + q) (by omega)] at this
    exact this
  · have h2 := this.1 l hl
    rw [u _ (by omega), u _ (by omega), u _ (by omega)] at h2
    have := this.2.2.2.1 l p q hl hpq (by rw [u _ (by omega)]; exact hq)
    rw [u (40 * l + p) (by omega), u (40 * l + q) (by omega)] at this
    exact this
  · have := this.2.2.2.2.1 d hd
    rw [u _ (by omega)] at this
    exact this
  · have := this.2.2.2.2.2.1
    rw [u _ (by omega)] at this
    exact this
theorem SB_IR0 {a b : Nat → Nat} {v x : Nat} (S : SB a b v x) (hv : v ≤ 2) (hx : x ≤ 1) : IR0 b := by
  obtain ⟨s1, s2, s3, s4, s5, s6, s7, s8, s9, s10, s11⟩ := S
  refine ⟨fun m hm => ?_, fun e he => ?_, fun e o he ho hb => ?_, fun e he => ?_, fun e he hs => ?_, fun m p hm hp hg' => ?_, ?_, ?_, ?_, ?_, fun e he => ?_⟩
  · rw [(s10 m hm).1, (s10 m hm).2.1]; omega
  · rw [(s11 e he).2]; omega
  · rw [(s11 e he).2] at hb; exact absurd rfl (tb0 hb)
  · unfold sn; rw [(s11 e he).1, (s11 e he).2]; omega
  · unfold sn at hs; rw [(s11 e he).1] at hs; omega
  · rw [(s10 m hm).1] at hp; omega
  · rw [s8]; exact (sm_zero (fun m hm => (s10 m hm).1)).symm
  · rw [s5]; exact hv
  · rw [s6]; exact hx
  · rw [s7]; omega
  · rw [(s11 e he).1]; omega
theorem SB_FR {a b : Nat → Nat} {v x : Nat} (S : SB a b v x) (f : Nat → Nat) : FR b f 0 := by
  refine ⟨by omega, fun p hp => by omega, fun p q hpq hq => by omega, fun d hd hs => ?_⟩
  have := (S.2.2.2.2.2.2.2.2.2.2 d hd).1
  unfold sn at hs
  omega
theorem SB_flag {a b : Nat → Nat} {v x y : Nat} (S : SB a b v x) : SB a (up b 562 y) v x := by
  obtain ⟨s1, s2, s3, s4, s5, s6, s7, s8, s9, s10, s11⟩ := S
  have u : ∀ k, k ≠ 562 → up b 562 y k = b k := fun k hk => up_n _ _ hk
  refine ⟨fun k hk => ?_, ?_, ?_, ?_, ?_, ?_, ?_, ?_, ?_, fun m hm => ?_, fun d hd => ?_⟩
  · rw [u k (by omega)]; exact s1 k hk
  · rw [u _ (by omega)]; exact s2
  · rw [u _ (by omega)]; exact s3
  · rw [u _ (by omega)]; exact s4
  · rw [u _ (by omega)]; exact s5
  · rw [u _ (by omega)]; exact s6
  · rw [u _ (by omega)]; exact s7
  · rw [u _ (by omega)]; exact s8
  · rw [u _ (by omega)]; exact s9
  · rw [u (568 + m) (by omega), u (574 + m) (by omega), u (580 + m) (by omega)]; exact s10 m hm
  · rw [u (586 + d) (by omega), u (646 + d) (by omega)]; exact s11 d hd
def zr1 (a : Nat → Nat) (i : Nat) : Nat → Nat := fun k => if (568 ≤ k ∧ k < 568 + i) ∨ (574 ≤ k ∧ k < 574 + i) ∨ (580 ≤ k ∧ k < 580 + i) then 0 else a k
def zr2 (a : Nat → Nat) (i : Nat) : Nat → Nat := fun k => if (586 ≤ k ∧ k < 586 + i) ∨ (646 ≤ k ∧ k < 646 + i) then 0 else a k
section MSB
variable {w : Wd} {a : Nat → Nat}
theorem M_start111 (Z : ZA (w.1 112) a) (hF : IO (zr2 a 60) ∧ IR0 (zr2 a 60) ∧ FR (zr2 a 60) (fun _ => 0) 0) : ∃ w', lX6_startReading_111 111 4096 w 0 = some w' ∧ ZA (w'.1 112) (up (zr2 a 60) 562 (@ite Nat (ov (zr2 a 60)) (Classical.propDecidable _) 1 0)) ∧ Fm w w' := by
  refine loopI (fun n w' i => lX6_startReading_111 111 n w' (nI i)) (fun i w' => ZA (w'.1 112) (zr2 a i) ∧ Fr 112 113 w w') 0 60 (by omega) (fun q => ∃ w', q = some w' ∧ ZA (w'.1 112) (up (zr2 a 60) 562 (@ite Nat (ov (zr2 a 60)) (Classical.propDecidable _) 1 0)) ∧ Fm w w') (fun n i w' hi hi2 hI => ?_) (fun n w' hI => ?_) 4096 w (by omega) ⟨?_, Fr.rfl'⟩
  · obtain ⟨Z', F'⟩ := hI
    obtain ⟨w2, e2, Z2, F2⟩ := zs2 Z' (586 + i) 0 (by omega) (by omega)
    obtain ⟨w3, e3, Z3, F3⟩ := zs2 Z2 (646 + i) 0 (by omega) (by omega)
    have : up (up (zr2 a i) (586 + i) 0) (646 + i) 0 = zr2 a (i + 1) := by
      funext k
      unfold up zr2
      by_cases h1 : k = 646 + i
      · rw [if_pos h1, if_pos (by omega)]
      · rw [if_neg h1]
        by_cases h2 : k = 586 + i
        · rw [if_pos h2, if_pos (by omega)]
        · rw [if_neg h2]
          by_cases h3 : (586 ≤ k ∧ k < 586 + i) ∨ (646 ≤ k ∧ k < 646 + i)
          · rw [if_pos h3, if_pos (by omega)]
          · rw [if_neg h3, if_neg (by omega)]
    rw [this] at Z3
    refine ⟨w3, ⟨Z3, (F'.trans F2).trans F3⟩, ?_⟩
    show lX6_startReading_111 111 (n + 1) w' (nI i) = _
    rw [lX6_startReading_111]
    simp (disch := omega) only [Nat.reduceAdd, Nat.reduceMul, Nat.reduceSub, l0, n1, n2, n3, n4, n5, n6, n40, n60, n240, n480, n486, n492, n498, n558, n559, n560, n561, n562, n563, n564, n565, n566, n567, n568, n574, n580, n586, n646, nI_add, nI_mul, Nat.zero_add, Nat.add_zero, ob_some, ob2_some, nI_le_, nI_lt_, nI_eq_, e2, e3]
    rw [if_neg (by omega)]
  · obtain ⟨Z', F'⟩ := hI
    obtain ⟨w5, e5, Z5, F5⟩ := M_flag Z' hF.1 hF.2.1 hF.2.2 (fun w => some w)
    refine ⟨w5, ?_, Z5, (F'.fm).trans F5⟩
    show lX6_startReading_111 111 (n + 1) w' (nI 60) = _
    rw [lX6_startReading_111, if_pos (by decide)]
    exact e5
  · have : zr2 a 0 = a := by
      funext k
      unfold zr2
      rw [if_neg (by omega)]
    rw [this]
    exact Z
theorem M_start64 (Z : ZA (w.1 112) a) (hF : IO (zr2 (zr1 a 6) 60) ∧ IR0 (zr2 (zr1 a 6) 60) ∧ FR (zr2 (zr1 a 6) 60) (fun _ => 0) 0) : ∃ w', lX6_startReading_64 111 4096 w 0 = some w' ∧ ZA (w'.1 112) (up (zr2 (zr1 a 6) 60) 562 (@ite Nat (ov (zr2 (zr1 a 6) 60)) (Classical.propDecidable _) 1 0)) ∧ Fm w w' := by
  refine loopI (fun n w' i => lX6_startReading_64 111 n w' (nI i)) (fun i w' => ZA (w'.1 112) (zr1 a i) ∧ Fr 112 113 w w') 0 6 (by omega) (fun q => ∃ w', q = some w' ∧ ZA (w'.1 112) (up (zr2 (zr1 a 6) 60) 562 (@ite Nat (ov (zr2 (zr1 a 6) 60)) (Classical.propDecidable _) 1 0)) ∧ Fm w w') (fun n i w' hi hi2 hI => ?_) (fun n w' hI => ?_) 4096 w (by omega) ⟨?_, Fr.rfl'⟩
  · obtain ⟨Z', F'⟩ := hI
    obtain ⟨w2, e2, Z2, F2⟩ := zs2 Z' (568 + i) 0 (by omega) (by omega)
    obtain ⟨w3, e3, Z3, F3⟩ := zs2 Z2 (574 + i) 0 (by omega) (by omega)
    obtain ⟨w4, e4, Z4, F4⟩ := zs2 Z3 (580 + i) 0 (by omega) (by omega)
    have : up (up (up (zr1 a i) (568 + i) 0) (574 + i) 0) (580 + i) 0 = zr1 a (i + 1) := by
      funext k
      unfold up zr1
      by_cases h1 : k = 580 + i
      · rw [if_pos h1, if_pos (by omega)]
      · rw [if_neg h1]
        by_cases h2 : k = 574 + i
        · rw [if_pos h2, if_pos (by omega)]
        · rw [if_neg h2]
          by_cases h4 : k = 568 + i
          · rw [if_pos h4, if_pos (by omega)]
          · rw [if_neg h4]
            by_cases h3 : (568 ≤ k ∧ k < 568 + i) ∨ (574 ≤ k ∧ k < 574 + i) ∨ (580 ≤ k ∧ k < 580 + i)
            · rw [if_pos h3, if_pos (by omega)]
            · rw [if_neg h3, if_neg (by omega)]
    rw [this] at Z4
    refine ⟨w4, ⟨Z4, ((F'.trans F2).trans F3).trans F4⟩, ?_⟩
    show lX6_startReading_64 111 (n + 1) w' (nI i) = _
    rw [lX6_startReading_64]
    simp (disch := omega) only [Nat.reduceAdd, Nat.reduceMul, Nat.reduceSub, l0, n1, n2, n3, n4, n5, n6, n40, n60, n240, n480, n486, n492, n498, n558, n559, n560, n561, n562, n563, n564, n565, n566, n567, n568, n574, n580, n586, n646, nI_add, nI_mul, Nat.zero_add, Nat.add_zero, ob_some, ob2_some, nI_le_, nI_lt_, nI_eq_, e2, e3, e4]
    rw [if_neg (by omega)]
  · obtain ⟨Z', F'⟩ := hI
    obtain ⟨w5, e5, Z5, F5⟩ := M_start111 Z' hF
    refine ⟨w5, ?_, Z5, (F'.fm).trans F5⟩
    show lX6_startReading_64 111 (n + 1) w' (nI 6) = _
    rw [lX6_startReading_64, if_pos (by decide)]
    exact e5
  · have : zr1 a 0 = a := by
      funext k
      unfold zr1
      rw [if_neg (by omega)]
    rw [this]
    exact Z
noncomputable def stA (a : Nat → Nat) (v x : Nat) : Nat → Nat := up (zr2 (zr1 (up (up (up (up (up (up a 559 1) 560 v) 561 x) 563 0) 564 0) 565 0) 6) 60) 562 (@ite Nat (ov (zr2 (zr1 (up (up (up (up (up (up a 559 1) 560 v) 561 x) 563 0) 564 0) 565 0) 6) 60)) (Classical.propDecidable _) 1 0)
theorem M_startReading (Z : ZA (w.1 112) a) (I : IO a) {v x : Nat} (hv : v ≤ 2) (hx : x ≤ 1) : ∃ w' b, fX6_startReading w 111 (nI v) (nI x) = some w' ∧ ZA (w'.1 112) b ∧ SB a b v x ∧ IR b ∧ Fm w w' ∧ b = stA a v x := by
  obtain ⟨w1, e1, Z1, F1⟩ := zs2 Z 559 1 (by omega) (by omega)
  obtain ⟨w2, e2, Z2, F2⟩ := zs2 Z1 560 v (by omega) (by omega)
  obtain ⟨w3, e3, Z3, F3⟩ := zs2 Z2 561 x (by omega) (by omega)
  obtain ⟨w4, e4, Z4, F4⟩ : ∃ w', stI 706 w3 112 563 (-1) = some w' ∧ ZA (w'.1 112) (up (up (up (up a 559 1) 560 v) 561 x) 563 0) ∧ Fr 112 113 w3 w' := by
    refine ⟨_, by rw [n563]; exact stI_z (by omega), ⟨fun k hk h2 => ?_, ?_⟩, Fr.rfl'.sI (by omega) (by omega)⟩
    · rw [sI_1, if_pos rfl, upd_1, if_neg h2, up_n _ _ h2]; exact Z3.1 k hk h2
    · rw [sI_1, if_pos rfl, upd_1, if_pos rfl, up_s]; rfl
  obtain ⟨w5, e5, Z5, F5⟩ := zs2 Z4 564 0 (by omega) (by omega)
  obtain ⟨w6, e6, Z6, F6⟩ := zs2 Z5 565 0 (by omega) (by omega)
  obtain ⟨a6, ha6⟩ : ∃ y, y = up (up (up (up (up (up a 559 1) 560 v) 561 x) 563 0) 564 0) 565 0 := ⟨_, rfl⟩
  rw [← ha6] at Z6
  have hSB : SB a (zr2 (zr1 a6 6) 60) v x := by
    have u : ∀ k, ¬ (568 ≤ k ∧ k < 586) → ¬ (586 ≤ k ∧ k < 706) → zr2 (zr1 a6 6) 60 k = a6 k := fun k h1 h2 => by
      unfold zr2 zr1
      rw [if_neg (by omega), if_neg (by omega)]
    refine ⟨fun k hk => ?_, ?_, ?_, ?_, ?_, ?_, ?_, ?_, ?_, fun m hm => ⟨?_, ?_, ?_⟩, fun d hd => ⟨?_, ?_⟩⟩
    · rw [u k (by omega) (by omega), ha6]
      simp (disch := omega) only [up_n]
    · rw [u _ (by omega) (by omega), ha6]
      simp (disch := omega) only [up_n]
    · rw [u _ (by omega) (by omega), ha6]
      simp (disch := omega) only [up_n]
    · rw [u _ (by omega) (by omega), ha6]
      simp (disch := omega) only [up_n, up_s]
    · rw [u _ (by omega) (by omega), ha6]
      simp (disch := omega) only [up_n, up_s]
    · rw [u _ (by omega) (by omega), ha6]
      simp (disch := omega) only [up_n, up_s]
    · rw [u _ (by omega) (by omega), ha6]
      simp (disch := omega) only [up_n, up_s]
    · rw [u _ (by omega) (by omega), ha6]
      simp (disch := omega) only [up_n, up_s]
    · rw [u _ (by omega) (by omega), ha6]
      simp (disch := omega) only [up_n, up_s]
    · unfold zr2 zr1
      rw [if_neg (by omega), if_pos (by omega)]
    · unfold zr2 zr1
      rw [if_neg (by omega), if_pos (by omega)]
    · unfold zr2 zr1
      rw [if_neg (by omega), if_pos (by omega)]
    · unfold zr2
      rw [if_pos (by omega)]
    · unfold zr2
      rw [if_pos (by omega)]
  have hI : IO (zr2 (zr1 a6 6) 60) := IO_559 I hSB.1 (by rw [hSB.2.2.2.1]; omega)
  have hJ := SB_IR0 hSB hv hx
  obtain ⟨w7, e7, Z7, F7⟩ := M_start64 Z6 ⟨hI, hJ, SB_FR hSB _⟩
  refine ⟨w7, _, ?_, Z7, SB_flag hSB, IR_flag hI hJ, ((((((F1.trans F2).trans F3).trans F4).trans F5).trans F6).fm).trans F7, by rw [ha6]; rfl⟩
  unfold fX6_startReading
  rw [n559, n1, e1, ob_some, n560, e2, ob_some]
  by_cases hx0 : x = 0
  · subst hx0
    rw [if_pos (show nI 0 = 0 from rfl), n561, l0, e3, ob_some, show (-nI 1 : Int32) = -1 from rfl, e4, ob_some, n564, e5, ob_some, n565, e6, ob_some, ← l0, e7]
  · have : x = 1 := by omega
    subst this
    rw [if_neg (show ¬ nI 1 = 0 by decide), n561, e3, ob_some, show (-nI 1 : Int32) = -1 from rfl, e4, ob_some, n564, l0, e5, ob_some, n565, e6, ob_some, ← l0, e7]
end MSB
