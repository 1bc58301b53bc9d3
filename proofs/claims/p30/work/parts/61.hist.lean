/-! PURE PART: history, snapshot, undo -/
theorem ldR_n {q : Nat} {w : Wd} {k j : Nat} (h : j < q) (hq : q < 2147483648) : ldR q w k (nI j) = some (w.2.2 k j) := by
  have hj : j < 2 ^ 31 := by omega
  have h0 : ¬ (nI j < 0 ∨ q ≤ (nI j).toNatClampNeg) := by
    rintro (h1 | h1)
    · exact nI_pos hj h1
    · rw [nI_clamp hj] at h1
      omega
  rw [ldR, if_neg h0, nI_clamp hj]
theorem stR_n {q : Nat} {w : Wd} {k j : Nat} {x : Nat} (h : j < q) (hq : q < 2147483648) : stR q w k (nI j) x = some (sR w k j x) := by
  have hj : j < 2 ^ 31 := by omega
  have h0 : ¬ (nI j < 0 ∨ q ≤ (nI j).toNatClampNeg) := by
    rintro (h1 | h1)
    · exact nI_pos hj h1
    · rw [nI_clamp hj] at h1
      omega
  rw [stR, if_neg h0, nI_clamp hj]
theorem sR_22 (w : Wd) (k j x a i : Nat) : (sR w k j x).2.2 a i = if a = k then (if i = j then x else w.2.2 k i) else w.2.2 a i := by
  show (if a = k then va_up (w.2.2 k) j x else w.2.2 a) i = _
  by_cases h : a = k
  · rw [if_pos h, if_pos h]; rfl
  · rw [if_neg h, if_neg h]
theorem gd_t {ρ : Type} {b : Bool} {o : Option ρ} (h : b = true) : gd b o = o := by unfold gd; rw [if_pos h]
theorem LY_Sh : ∀ t, t < 4 → (decide (shS LY (19 + 16 * t))) = true := by decide +kernel
def Pm (w : Wd) : Prop := (∀ i, i < 4 → ∃ t, t < 4 ∧ w.2.2 18 i = 19 + 16 * t) ∧ (∀ i j, i < 4 → j < 4 → i ≠ j → w.2.2 18 i ≠ w.2.2 18 j)
def HC (w : Wd) (h : Nat) (p : Nat → Nat → Nat) : Prop := w.1 17 1 = nI h ∧ h ≤ 4 ∧ Pm w ∧ ∀ j, j < h → Rs w (w.2.2 18 j) (p j)
def HM (w : Wd) (h : Nat) (p : Nat → Nat → Nat) : Prop := w.1 111 5 = nI h ∧ ∀ j, j < h → ZA (fun k => w.1 113 (706 * j + k)) (p j)
def rh (h : Nat) : Nat := if h < 4 then h + 1 else 4
def rp (p : Nat → Nat → Nat) (h : Nat) (a : Nat → Nat) : Nat → Nat → Nat := fun j => if h < 4 then (if j = h then a else p j) else (if j = 3 then a else p (j + 1))
section HIS
variable {w : Wd} {a : Nat → Nat} {h : Nat} {p : Nat → Nat → Nat}
/-- the copy of the state into the free place -/
theorem C_into {w : Wd} {j : Nat} (P : Pm w) (hj : j < 4) (R : Rs w 1 a) (I : IO a) : ∃ w', fX3_copyFrom w (w.2.2 18 j) 1 = some w' ∧ Fr 19 83 w w' ∧ Rs w' (w.2.2 18 j) a ∧ ∀ i b, i < 4 → i ≠ j → IO b → Rs w (w.2.2 18 i) b → Rs w' (w.2.2 18 i) b := by
  obtain ⟨t, ht, e⟩ := P.1 j hj
  obtain ⟨w', e1, F, c⟩ := C_copyS (w := w) (s := w.2.2 18 j) (t := 1) (by omega)
  refine ⟨w', e1, F.wide (by omega) (by omega), c a I R, fun i b hi hij Ib Rb => Rs_fr Rb Ib F ?_⟩
  obtain ⟨t', ht', e'⟩ := P.1 i hi
  have := P.2 i j hi hj hij
  omega
theorem C_rot (P : Pm w) : ∃ w', fX0_moveOldestToEnd LY w 17 = some w' ∧ Pm w' ∧ Fr 18 19 w w' ∧ w'.1 = w.1 ∧ w'.2.1 = w.2.1 ∧ w'.2.2 18 0 = w.2.2 18 1 ∧ w'.2.2 18 1 = w.2.2 18 2 ∧ w'.2.2 18 2 = w.2.2 18 3 ∧ w'.2.2 18 3 = w.2.2 18 0 := by
  unfold fX0_moveOldestToEnd
  have key := loopI (fun n w' i => lX0_moveOldestToEnd_2 LY 17 n w' (nI i)) (fun i w' => Pm w' ∧ Fr 18 19 w w' ∧ w'.1 = w.1 ∧ w'.2.1 = w.2.1 ∧ ∀ j, j < 4 → w'.2.2 18 j = w.2.2 18 (if j + 1 < i then j + 1 else if j + 1 = i then 0 else j)) 1 4 (by omega) (fun q => ∃ w', q = some w' ∧ Pm w' ∧ Fr 18 19 w w' ∧ w'.1 = w.1 ∧ w'.2.1 = w.2.1 ∧ w'.2.2 18 0 = w.2.2 18 1 ∧ w'.2.2 18 1 = w.2.2 18 2 ∧ w'.2.2 18 2 = w.2.2 18 3 ∧ w'.2.2 18 3 = w.2.2 18 0) (fun n i w' hi hi2 hI => ?_) (fun n w' hI => ?_) 4096 w (by omega) ⟨P, Fr.rfl', rfl, rfl, fun j hj => by
    congr 1
    by_cases hj0 : j = 0
    · subst hj0; rfl
    · rw [if_neg (by omega), if_neg (by omega)]⟩
  · exact key
  · obtain ⟨P', F, f1, f2, c⟩ := hI
    obtain ⟨w2, hw2⟩ : ∃ x, x = sR (sR w' 18 (i - 1) (w'.2.2 18 i)) 18 i (w'.2.2 18 (i - 1)) := ⟨_, rfl⟩
    have v : ∀ j, w2.2.2 18 j = if j = i then w'.2.2 18 (i - 1) else if j = i - 1 then w'.2.2 18 i else w'.2.2 18 j := by
      intro j
      rw [hw2, sR_22, if_pos rfl, sR_22, if_pos rfl]
    refine ⟨w2, ⟨⟨fun j hj => ?_, fun j k hj hk hjk => ?_⟩, ?_, ?_, ?_, fun j hj => ?_⟩, ?_⟩
    · rw [v]
      by_cases h1 : j = i
      · rw [if_pos h1]; exact P'.1 _ (by omega)
      · rw [if_neg h1]
        by_cases h2 : j = i - 1
        · rw [if_pos h2]; exact P'.1 _ (by omega)
        · rw [if_neg h2]; exact P'.1 _ (by omega)
    · rw [v, v]
      by_cases h1 : j = i
      · rw [if_pos h1]
        by_cases h2 : k = i
        · omega
        · rw [if_neg h2]
          by_cases h3 : k = i - 1
          · rw [if_pos h3]; exact P'.2 _ _ (by omega) (by omega) (by omega)
          · rw [if_neg h3]; exact P'.2 _ _ (by omega) (by omega) (by omega)
      · rw [if_neg h1]
        by_cases h2 : k = i
        · rw [if_pos h2]
          by_cases h3 : j = i - 1
          · rw [if_pos h3]; exact P'.2 _ _ (by omega) (by omega) (by omega)
          · rw [if_neg h3]; exact P'.2 _ _ (by omega) (by omega) (by omega)
        · rw [if_neg h2]
          by_cases h3 : j = i - 1
          · rw [if_pos h3]
            by_cases h4 : k = i - 1
            · omega
            · rw [if_neg h4]; exact P'.2 _ _ (by omega) (by omega) (by omega)
          · rw [if_neg h3]
            by_cases h4 : k = i - 1
            · rw [if_pos h4]; exact P'.2 _ _ (by omega) (by omega) (by omega)
            · rw [if_neg h4]; exact P'.2 _ _ (by omega) (by omega) (by omega)
    · rw [hw2]; exact (F.sR (by omega) (by omega)).sR (by omega) (by omega)
    · rw [hw2]; exact f1
    · rw [hw2]; exact f2
    · rw [v]
      by_cases h1 : j = i
      · rw [if_pos h1, c _ (by omega), if_neg (by omega), if_pos (by omega), if_neg (by omega), if_pos (by omega)]
      · rw [if_neg h1]
        by_cases h2 : j = i - 1
        · rw [if_pos h2, c _ (by omega), if_neg (by omega), if_neg (by omega), if_pos (by omega), show j + 1 = i by omega]
        · rw [if_neg h2, c _ (by omega)]
          by_cases h3 : j + 1 < i
          · rw [if_pos h3, if_pos (by omega)]
          · rw [if_neg h3, if_neg (by omega), if_neg (by omega), if_neg (by omega)]
    · show lX0_moveOldestToEnd_2 LY 17 (n + 1) w' (nI i) = _
      obtain ⟨t1, ht1, x1⟩ := P'.1 (i - 1) (by omega)
      obtain ⟨t2, ht2, x2⟩ := P'.1 i (by omega)
      have e1 : nI i - nI 1 = nI (i - 1) := nI_sub (by omega)
      have g1 : decide (shS LY (w'.2.2 18 (i - 1))) = true := by rw [x1]; exact LY_Sh t1 ht1
      have g2 : decide (shS LY (w'.2.2 18 i)) = true := by rw [x2]; exact LY_Sh t2 ht2
      rw [lX0_moveOldestToEnd_2]
      simp (disch := omega) only [n1, nI_le_, e1, ldR_n, ob_some, nI_add]
      rw [if_neg (by omega), gd_t g2, stR_n (by omega) (by omega), ob_some, gd_t g1, stR_n (by omega) (by omega), ob_some, hw2]
  · obtain ⟨P', F, f1, f2, c⟩ := hI
    refine ⟨w', ?_, P', F, f1, f2, c 0 (by omega), c 1 (by omega), c 2 (by omega), c 3 (by omega)⟩
    show lX0_moveOldestToEnd_2 LY 17 (n + 1) w' (nI 4) = _
    rw [lX0_moveOldestToEnd_2, if_pos (by decide)]
theorem stAt_n {w : Wd} {j : Nat} (hj : j < 4) : fX0_stateAt w 17 (nI j) = some (some (w.2.2 18 j)) := by
  unfold fX0_stateAt
  rw [if_neg (nI_pos (by omega)), if_neg (nI_ge hj (by omega)), ldR_n hj (by omega)]
  rfl
theorem C_record (H : HC w h p) (hI : ∀ j, j < h → IO (p j)) (R : Rs w 1 a) (I : IO a) : ∃ w', fX0_record LY w 17 1 = some w' ∧ HC w' (rh h) (rp p h a) ∧ Fr 17 83 w w' := by
  obtain ⟨H1, H2, P, HR⟩ := H
  unfold fX0_record
  rw [H1]
  by_cases hh : h < 4
  · rw [if_pos (by rw [n4, nI_lt_ (by omega) (by omega)]; exact hh), stAt_n hh, ob_some]
    obtain ⟨t, ht, x⟩ := P.1 h hh
    have g : decide (shS LY (w.2.2 18 h)) = true := by rw [x]; exact LY_Sh t ht
    obtain ⟨w1, e1, F, c1, c2⟩ := C_into P hh R I
    have k1 : w1.1 17 = w.1 17 := F.1 _ (by omega)
    have k2 : w1.2.2 18 = w.2.2 18 := F.2.2 _ (by omega)
    have G : Fr 17 18 w1 (sI w1 17 1 (nI (h + 1))) := Fr.rfl'.sI (by omega) (by omega)
    refine ⟨sI w1 17 1 (nI (h + 1)), ?_, ⟨?_, ?_, ?_, ?_⟩, (F.wide (by omega) (by omega)).sI (by omega) (by omega)⟩
    · show gd _ _ = _
      rw [gd_t g, e1, ob_some]
      unfold pI
      rw [ob_some, k1, H1, n1, nI_add]
    · rw [sI_1, if_pos rfl, upd_1, if_pos rfl]; unfold rh; rw [if_pos hh]
    · unfold rh; rw [if_pos hh]; omega
    · show (∀ i, i < 4 → ∃ t, t < 4 ∧ w1.2.2 18 i = 19 + 16 * t) ∧ (∀ i j, i < 4 → j < 4 → i ≠ j → w1.2.2 18 i ≠ w1.2.2 18 j)
      rw [k2]
      exact P
    · intro j hj
      show Rs (sI w1 17 1 (nI (h + 1))) (w1.2.2 18 j) _
      rw [k2]
      unfold rh at hj
      rw [if_pos hh] at hj
      obtain ⟨t', ht', x'⟩ := P.1 j (by omega)
      unfold rp
      rw [if_pos hh]
      by_cases hjh : j = h
      · subst hjh
        rw [if_pos rfl]
        exact Rs_fr c1 I G (by omega)
      · rw [if_neg hjh]
        exact Rs_fr (c2 j _ (by omega) hjh (hI j (by omega)) (HR j (by omega))) (hI j (by omega)) G (by omega)
  · have h4 : h = 4 := by omega
    subst h4
    rw [if_neg (by decide)]
    obtain ⟨w0, e0, P0, F0, f1, f2, r0, r1, r2, r3⟩ := C_rot P
    have R0 : ∀ s b, IO b → Rs w s b → Rs w0 s b := fun s b Ib Rb => Rs_of Ib (SO_fr (fun k _ _ => by rw [f1]) (by rw [f2])) (SD_fr (fun k _ _ => by rw [f1])) (by rw [f1]) (by rw [f1]) Rb
    obtain ⟨w1, hw1⟩ : ∃ x, x = sI w0 17 1 3 := ⟨_, rfl⟩
    have G1 : Fr 17 18 w0 w1 := by rw [hw1]; exact Fr.rfl'.sI (by omega) (by omega)
    have k22 : w1.2.2 18 = w0.2.2 18 := by rw [hw1]; rfl
    have P1 : Pm w1 := by
      show (∀ i, i < 4 → ∃ t, t < 4 ∧ w1.2.2 18 i = 19 + 16 * t) ∧ (∀ i j, i < 4 → j < 4 → i ≠ j → w1.2.2 18 i ≠ w1.2.2 18 j)
      rw [k22]
      exact P0
    have R1 : ∀ i b, i < 4 → IO b → Rs w (w0.2.2 18 i) b → Rs w1 (w0.2.2 18 i) b := fun i b hi Ib Rb => by
      obtain ⟨t', ht', x'⟩ := P0.1 i hi
      exact Rs_fr (R0 _ b Ib Rb) Ib G1 (by omega)
    have R1s : Rs w1 1 a := Rs_fr (R0 _ a I R) I G1 (by omega)
    obtain ⟨w2, e2, F, c1, c2⟩ := C_into P1 (show 3 < 4 by omega) R1s I
    have k1 : w2.1 17 = w1.1 17 := F.1 _ (by omega)
    have k2 : w2.2.2 18 = w0.2.2 18 := (F.2.2 _ (by omega)).trans k22
    have k3 : w1.1 17 1 = nI 3 := by rw [hw1, sI_1, if_pos rfl, upd_1, if_pos rfl]; rfl
    obtain ⟨t, ht, x⟩ := P1.1 3 (by omega)
    have g : decide (shS LY (w1.2.2 18 3)) = true := by rw [x]; exact LY_Sh t ht
    have G : Fr 17 18 w2 (sI w2 17 1 (nI 4)) := Fr.rfl'.sI (by omega) (by omega)
    refine ⟨sI w2 17 1 (nI 4), ?_, ⟨?_, ?_, ?_, ?_⟩, (((F0.wide (by omega) (by omega)).trans (G1.wide (by omega) (by omega))).trans (F.wide (by omega) (by omega))).sI (by omega) (by omega)⟩
    · rw [e0, ob_some]
      unfold pI
      rw [ob_some, ← hw1, k3, stAt_n (by omega), ob_some]
      show gd _ _ = _
      rw [gd_t g, e2, ob_some, ob_some, k1, k3]
      rfl
    · rw [sI_1, if_pos rfl, upd_1, if_pos rfl]; rfl
    · decide
    · show (∀ i, i < 4 → ∃ t, t < 4 ∧ w2.2.2 18 i = 19 + 16 * t) ∧ (∀ i j, i < 4 → j < 4 → i ≠ j → w2.2.2 18 i ≠ w2.2.2 18 j)
      rw [k2]
      exact P0
    · intro j hj
      show Rs (sI w2 17 1 (nI 4)) (w2.2.2 18 j) _
      rw [k2]
      have hj' : j < 4 := hj
      obtain ⟨t', ht', x'⟩ := P0.1 j hj'
      unfold rp
      rw [if_neg (by omega)]
      by_cases hjh : j = 3
      · subst hjh
        rw [if_pos rfl]
        rw [k22] at c1
        exact Rs_fr c1 I G (by omega)
      · rw [if_neg hjh]
        have hp := HR (j + 1) (by omega)
        have hx : w0.2.2 18 j = w.2.2 18 (j + 1) := by
          obtain rfl | rfl | rfl : j = 0 ∨ j = 1 ∨ j = 2 := by omega
          · exact r0
          · exact r1
          · exact r2
        rw [← hx] at hp
        have i1 := hI (j + 1) (by omega)
        have q := c2 j (p (j + 1)) hj' hjh i1 (by rw [k22]; exact R1 j _ hj' i1 hp)
        rw [k22] at q
        exact Rs_fr q i1 G (by omega)
end HIS
