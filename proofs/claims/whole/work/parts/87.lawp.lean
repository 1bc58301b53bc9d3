/-! PURE PART: the law -/
section LAWP
variable {w w1 w2 : Wd}
def a0 (k : Nat) : Nat := if k = 558 then 3 else 0
theorem a0_z {k : Nat} (h : k ≠ 558) : a0 k = 0 := if_neg h
theorem a0_IO : IO a0 := by
  refine ⟨fun l hl => ⟨?_, ?_, ?_⟩, fun l q hl hq => ?_, fun l q r hl hqr hr => ?_, fun l q r hl hqr hr => ?_, fun d hd => ?_, ?_, ?_⟩
  · rw [a0_z (by omega)]; omega
  · rw [a0_z (by omega)]; omega
  · rw [a0_z (by omega)]; omega
  · rw [a0_z (by omega)] at hq; omega
  · rw [a0_z (by omega)] at hr; omega
  · rw [a0_z (by omega)] at hr; omega
  · rw [a0_z (by omega)]; omega
  · decide
  · decide
theorem w0_at {k : Nat} (h : ¬ (k = 2 ∨ k = 20 ∨ k = 36 ∨ k = 52 ∨ k = 68 ∨ k = 84)) (h2 : k ≠ 99) (h3 : k ≠ 112) : w0.1 k = fun _ => 0 := by
  show (if k = 2 ∨ k = 20 ∨ k = 36 ∨ k = 52 ∨ k = 68 ∨ k = 84 then (fun j => if j = 6 then 3 else 0) else if k = 99 then (fun j => if j = 2 then -1 else 0) else if k = 112 then upd (upd (fun _ => 0) 558 3) 563 (-1) else fun _ => 0) = _
  rw [if_neg h, if_neg h2, if_neg h3]
theorem scr_a0 {l d : Nat} (hl : l < 6) : scr a0 l d = 0 := by
  unfold scr
  rw [a0_z (by omega)]
  rfl
theorem gs_a0 : gs a0 60 = 0 := by
  unfold gs
  exact sm_zero (fun d hd => by rw [a0_z (by omega), Nat.zero_mul])
theorem Rs_w0 : Rs w0 1 a0 := by
  refine ⟨⟨fun l hl => ?_, fun l q hl hq => ?_, fun l d hl hd => ?_, fun l hl => ?_, fun l hl => ?_, ?_, ?_⟩, ?_, ?_, ?_, fun z => ?_⟩
  · rw [w0_at (by omega) (by omega) (by omega), a0_z (by omega)]; rfl
  · rw [a0_z (by omega)] at hq; omega
  · rw [w0_at (by omega) (by omega) (by omega), scr_a0 hl]; rfl
  · rw [w0_at (by omega) (by omega) (by omega), a0_z (by omega)]; rfl
  · rw [w0_at (by omega) (by omega) (by omega), a0_z (by omega)]; rfl
  · rw [gs_a0]; rfl
  · rfl
  · rw [w0_at (by omega) (by omega) (by omega)]; rfl
  · rw [w0_at (by omega) (by omega) (by omega)]; rfl
  · rw [w0_at (by omega) (by omega) (by omega)]; rfl
  · rw [a0_z (by omega)] at z; omega
theorem ZA_w0 : ZA (w0.1 112) a0 := by
  have e : w0.1 112 = upd (upd (fun _ => 0) 558 3) 563 (-1) := rfl
  rw [e]
  refine ⟨fun k hk h => ?_, ?_⟩
  · rw [upd_1, if_neg h, upd_1]
    unfold a0
    by_cases h8 : k = 558
    · rw [if_pos h8, if_pos h8]; rfl
    · rw [if_neg h8, if_neg h8]; rfl
  · rw [upd_1, if_pos rfl]; rfl
theorem MR_w0 : MR w0 := by
  refine ⟨a0, 0, fun _ => a0, 0, a0, 0, fun _ => 0, ⟨Rs_w0, ⟨?_, by omega, ⟨fun i hi => ⟨i, hi, rfl⟩, fun i j hi hj hij => ?_⟩, fun j hj => by omega⟩, ?_, fun z => by omega, ?_, fun i hi => by omega⟩, ⟨ZA_w0, ⟨?_, fun j hj => by omega⟩, ?_, fun z => by omega, ?_, fun i hi => by omega⟩, ⟨a0_IO, fun z => ?_⟩, by omega, fun j hj => by omega, by omega, fun z => by omega, by omega, fun i hi => by omega⟩
  · rw [w0_at (by omega) (by omega) (by omega)]; rfl
  · show 19 + 16 * i ≠ 19 + 16 * j
    omega
  · rw [w0_at (by omega) (by omega) (by omega)]; rfl
  · rfl
  · rw [w0_at (by omega) (by omega) (by omega)]; rfl
  · rw [w0_at (by omega) (by omega) (by omega)]; rfl
  · rw [w0_at (by omega) (by omega) (by omega)]; rfl
  · rw [a0_z (by omega)] at z; omega
theorem stepS {cl rf : Wd → Option (Int32 × Wd)} (S : Sim cl rf) (H : MR w) : ∃ w2, MR w2 ∧ ∀ K : Wd → Option Int32, (ob2 (cl w) fun v w1 => ob2 (rf w1) fun v' w2 => if v = v' then K w2 else some 0) = K w2 := by
  obtain ⟨v, w1, w2, e1, e2, M⟩ := S w H
  refine ⟨w2, M, fun K => ?_⟩
  rw [e1, ob2_some, e2, ob2_some, if_pos rfl]
theorem stepQ {cl rf : Wd → Option Int32} (S : SimQ cl rf) (H : MR w) (K : Option Int32) : ((cl w).bind fun v => (rf w).bind fun v' => if v = v' then K else some 0) = K := by
  obtain ⟨v, e1, e2⟩ := S w H
  rw [e1, ob_some, e2, ob_some, if_pos rfl]
theorem stepH {cl : Wd → Option Int32} {rf : Wd → Option (Int32 × Wd)} (S : SimH cl rf) (H : MR w) : ∃ w2, MR w2 ∧ ∀ K : Wd → Option Int32, ((cl w).bind fun v => ob2 (rf w) fun v' w2 => if v = v' then K w2 else some 0) = K w2 := by
  obtain ⟨v, w2, e1, e2, M⟩ := S w H
  refine ⟨w2, M, fun K => ?_⟩
  rw [e1, ob_some, e2, ob2_some, if_pos rfl]
theorem ifc {q : Prop} [Decidable q] {x y r : Option Int32} (h1 : x = r) (h2 : y = r) : (if q then x else y) = r := by
  by_cases h : q
  · rw [if_pos h]; exact h1
  · rw [if_neg h]; exact h2
theorem char_n (v : Int32) : ∃ x, x < 65536 ∧ (Int32.toUInt32 v % 65536).toInt32 = nI x := by
  refine ⟨(Int32.toUInt32 v % 65536).toNat, ?_, ?_⟩
  · rw [UInt32.toNat_mod]
    exact Nat.mod_lt _ (by decide)
  · apply Int32.toBitVec_inj.mp
    apply BitVec.eq_of_toNat_eq
    simp [nI]
    have e : v.toUInt32.toNat = v.toBitVec.toNat := rfl
    rw [e]
    omega
theorem lawLoop (L b : Nat) (xs : Nat → Int32) (hL : L ≤ 2048) : ∀ N i w, i ≤ L → L < 4 * N + i → MR w → lL_law_18 LY 0 111 L b xs N w (nI i) = some 1 := by
  intro N
  induction N with
  | zero => intro i w hi hN; omega
  | succ N ih0 =>
    intro i w hi hN hM
    have hcond : (nI L - 4 < nI i) ↔ L < i + 4 := by
      rw [Int32.lt_iff_toInt_lt, n4]
      have e1 : (nI L - nI 4).toInt = (L : Int) - 4 := by
        by_cases h4 : 4 ≤ L
        · rw [nI_sub h4, nI_toInt (by omega)]; omega
        · obtain rfl | rfl | rfl | rfl : L = 0 ∨ L = 1 ∨ L = 2 ∨ L = 3 := by omega
          all_goals decide
      rw [e1, nI_toInt (by omega)]
      omega
    rw [lL_law_18]
    by_cases hend : L < i + 4
    · rw [if_pos (hcond.mpr hend)]
    rw [if_neg (fun z => hend (hcond.mp z))]
    have ih : ∀ w, MR w → lL_law_18 LY 0 111 L b xs N w (nI (i + 4)) = some 1 := fun w h => ih0 (i + 4) w (by omega) (by omega) h
    have lx : ∀ j, j < L → ldX L xs (nI j) = some (xs j) := fun j hj => by
      have h0 : ¬ (nI j < 0 ∨ L ≤ (nI j).toNatClampNeg) := by
        rintro (h1 | h1)
        · exact nI_pos (n := j) (by omega) h1
        · rw [nI_clamp (by omega)] at h1
          omega
      rw [ldX, if_neg h0, nI_clamp (by omega)]
    rw [show nI i + 1 = nI (i + 1) by rw [n1, nI_add], show nI i + 2 = nI (i + 2) by rw [n2, nI_add], show nI i + 3 = nI (i + 3) by rw [n3, nI_add], show nI i + 4 = nI (i + 4) by rw [n4, nI_add], lx i (by omega), lx (i + 1) (by omega), lx (i + 2) (by omega), lx (i + 3) (by omega)]
    obtain ⟨x1, hx1⟩ : ∃ y, y = xs (i + 1) := ⟨_, rfl⟩
    obtain ⟨x2, hx2⟩ : ∃ y, y = xs (i + 2) := ⟨_, rfl⟩
    obtain ⟨x3, hx3⟩ : ∃ y, y = xs (i + 3) := ⟨_, rfl⟩
    obtain ⟨x0, hx0⟩ : ∃ y, y = xs i := ⟨_, rfl⟩
    rw [← hx0, ← hx1, ← hx2, ← hx3]
    simp only [ob_some]
    have S : ∀ {cl rf : Wd → Option (Int32 × Wd)}, Sim cl rf → (ob2 (cl w) fun v w1 => ob2 (rf w1) fun v' w2 => if v = v' then lL_law_18 LY 0 111 L b xs N w2 (nI (i + 4)) else some 0) = some 1 := fun h => by
      obtain ⟨w2, M2, hs⟩ := stepS h hM
      exact (hs (fun w2 => lL_law_18 LY 0 111 L b xs N w2 (nI (i + 4)))).trans (ih w2 M2)
    have Q : ∀ {cl rf : Wd → Option Int32}, SimQ cl rf → ((cl w).bind fun v => (rf w).bind fun v' => if v = v' then lL_law_18 LY 0 111 L b xs N w (nI (i + 4)) else some 0) = some 1 := fun h => (stepQ h hM _).trans (ih w hM)
    have H : ∀ {cl : Wd → Option Int32} {rf : Wd → Option (Int32 × Wd)}, SimH cl rf → ((cl w).bind fun v => ob2 (rf w) fun v' w2 => if v = v' then lL_law_18 LY 0 111 L b xs N w2 (nI (i + 4)) else some 0) = some 1 := fun h => by
      obtain ⟨w2, M2, hs⟩ := stepH h hM
      exact (hs (fun w2 => lL_law_18 LY 0 111 L b xs N w2 (nI (i + 4)))).trans (ih w2 M2)
    refine ifc ?_ ?_
    · exact S ((sim_add x1 x2 x3).sim)
    refine ifc ?_ ?_
    · exact S ((sim_drop x1 x2).sim)
    refine ifc ?_ ?_
    · exact S ((simT_delete x1).sim)
    refine ifc ?_ ?_
    · exact S ((simT_bring x1).sim)
    refine ifc ?_ ?_
    · exact S ((simT_weight x1 x2).sim)
    refine ifc ?_ ?_
    · exact S ((sim_want x1).sim)
    refine ifc ?_ ?_
    · exact S ((simT_bribe x1 x2).sim)
    refine ifc ?_ ?_
    · by_cases hb : x2 = 0
      · simp only [if_pos hb]
        exact S (sim_begin x1 0 (by omega))
      · simp only [if_neg hb]
        exact S (sim_begin x1 1 (by omega))
    refine ifc ?_ ?_
    · exact S (sim_step x1)
    refine ifc ?_ ?_
    · exact S (sim_end)
    refine ifc ?_ ?_
    · obtain ⟨ch, hch, ech⟩ := char_n x1
      rw [ech]
      exact S (sim_type ch hch)
    refine ifc ?_ ?_
    · exact S (sim_clearText)
    refine ifc ?_ ?_
    · exact S (sim_perform)
    refine ifc ?_ ?_
    · exact S (sim_undo)
    refine ifc ?_ ?_
    · exact S (sim_keep)
    refine ifc ?_ ?_
    · exact S (sim_restore)
    refine ifc ?_ ?_
    · exact Q (sim_list x1 x2)
    refine ifc ?_ ?_
    · exact Q (sim_entry x1 x2 x3)
    refine ifc ?_ ?_
    · exact Q (sim_document x1 x2)
    refine ifc ?_ ?_
    · exact Q (sim_wanted x1)
    refine ifc ?_ ?_
    · exact Q (sim_clerk x1 x2)
    refine ifc ?_ ?_
    · exact H (sim_seen x1 x2)
    refine ifc ?_ ?_
    · exact H (sim_told x1)
    refine ifc ?_ ?_
    · exact H (sim_reading x1)
    refine ifc ?_ ?_
    · by_cases hb : x2 = 0
      · simp only [if_pos hb]
        exact S (sim_trial x1 0 (by omega) x3)
      · simp only [if_neg hb]
        exact S (sim_trial x1 1 (by omega) x3)
    refine ifc ?_ ?_
    · exact S (sim_cheapest)
    refine ifc ?_ ?_
    · exact Q (sim_count x1)
    exact ih w hM
theorem pure_main (L b : Nat) (xs : Nat → Int32) (hL : L ≤ 2048) : lL_law_18 LY 0 111 L b xs 4096 w0 0 = some 1 := lawLoop L b xs hL 4096 0 w0 (by omega) (by omega) MR_w0
end LAWP
