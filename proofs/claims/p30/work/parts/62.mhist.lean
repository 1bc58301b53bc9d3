/-! PURE PART: history of the reference -/
theorem ZA_ext {z z' : Nat → Int32} {a : Nat → Nat} (h : ∀ k, k < 706 → z' k = z k) (Z : ZA z a) : ZA z' a := ⟨fun k hk h2 => (h k hk).trans (Z.1 k hk h2), (h 563 (by omega)).trans Z.2⟩
section MHI
variable {w : Wd} {a : Nat → Nat} {h : Nat} {p : Nat → Nat → Nat}
theorem M_rec51 {w : Wd} (h : Nat) (hh : h < 4) (H5 : w.1 111 5 = nI h) : ∃ w', lX6_record_51 111 4096 w 0 = some w' ∧ Fr 111 114 w w' ∧ w'.1 112 = w.1 112 ∧ (∀ j, w'.1 111 j = if j = 5 then nI (h + 1) else w.1 111 j) ∧ ∀ k, w'.1 113 k = if 706 * h ≤ k ∧ k < 706 * h + 706 then w.1 112 (k - 706 * h) else w.1 113 k := by
  refine loopI (fun n w' i => lX6_record_51 111 n w' (nI i)) (fun i w' => Fr 113 114 w w' ∧ ∀ k, w'.1 113 k = if 706 * h ≤ k ∧ k < 706 * h + i then w.1 112 (k - 706 * h) else w.1 113 k) 0 706 (by omega) (fun q => ∃ w', q = some w' ∧ Fr 111 114 w w' ∧ w'.1 112 = w.1 112 ∧ (∀ j, w'.1 111 j = if j = 5 then nI (h + 1) else w.1 111 j) ∧ ∀ k, w'.1 113 k = if 706 * h ≤ k ∧ k < 706 * h + 706 then w.1 112 (k - 706 * h) else w.1 113 k) (fun n i w' hi hi2 hI => ?_) (fun n w' hI => ?_) 4096 w (by omega) ⟨Fr.rfl', fun k => by rw [if_neg (by omega)]⟩
  · obtain ⟨F, c⟩ := hI
    refine ⟨sI w' 113 (706 * h + i) (w.1 112 i), ⟨F.sI (by omega) (by omega), fun k => ?_⟩, ?_⟩
    · rw [sI_1, if_pos rfl, upd_1, c]
      by_cases h1 : k = 706 * h + i
      · rw [if_pos h1, if_pos (by omega), h1, Nat.add_sub_cancel_left]
      · rw [if_neg h1]
        by_cases h2 : 706 * h ≤ k ∧ k < 706 * h + i
        · rw [if_pos h2, if_pos (by omega)]
        · rw [if_neg h2, if_neg (by omega)]
    · show lX6_record_51 111 (n + 1) w' (nI i) = _
      rw [lX6_record_51, F.1 111 (by omega), H5]
      simp (disch := omega) only [Nat.reduceAdd, n706, n1, nI_le_, ldI_n, ob_some, nI_add, nI_mul, stI_n, F.1 112 (by omega)]
      rw [if_neg (by omega), Nat.mul_comm h 706]
  · obtain ⟨F, c⟩ := hI
    refine ⟨sI w' 111 5 (nI (h + 1)), ?_, (F.wide (by omega) (by omega)).sI (by omega) (by omega), ?_, fun j => ?_, fun k => ?_⟩
    · show lX6_record_51 111 (n + 1) w' (nI 706) = _
      rw [lX6_record_51, if_pos (by decide)]
      unfold pI
      rw [ob_some, F.1 111 (by omega), H5, n1, nI_add]
    · rw [sI_1, if_neg (by omega), F.1 112 (by omega)]
    · rw [sI_1, if_pos rfl, upd_1, F.1 111 (by omega)]
    · rw [sI_1, if_neg (by omega), c]
theorem M_record (H : HM w h p) (h4 : h ≤ 4) (Z : ZA (w.1 112) a) : ∃ w', fX6_record w 111 = some w' ∧ Fr 111 114 w w' ∧ w'.1 112 = w.1 112 ∧ (∀ j, j ≠ 5 → w'.1 111 j = w.1 111 j) ∧ HM w' (rh h) (rp p h a) := by
  obtain ⟨H5, HR⟩ := H
  unfold fX6_record
  rw [H5]
  by_cases hh : h < 4
  · rw [if_neg (by rw [n4, nI_eq_ (by omega) (by omega)]; omega)]
    obtain ⟨w', e, F, k1, k2, k3⟩ := M_rec51 (w := w) h hh H5
    refine ⟨w', e, F, k1, fun j hj => by rw [k2, if_neg hj], ?_, fun j hj => ?_⟩
    · rw [k2, if_pos rfl]; unfold rh; rw [if_pos hh]
    · unfold rh at hj
      rw [if_pos hh] at hj
      unfold rp
      rw [if_pos hh]
      by_cases hjh : j = h
      · rw [if_pos hjh, hjh]
        exact ZA_ext (fun k hk => by rw [k3, if_pos (by omega), Nat.add_sub_cancel_left]) Z
      · rw [if_neg hjh]
        exact ZA_ext (fun k hk => by rw [k3, if_neg (by omega)]) (HR j (by omega))
  · have : h = 4 := by omega
    subst this
    rw [if_pos (by decide)]
    refine loopI (fun n w' i => lX6_record_10 111 n w' (nI i)) (fun i w' => Fr 113 114 w w' ∧ ∀ k, w'.1 113 k = if k < i then w.1 113 (k + 706) else w.1 113 k) 0 2118 (by omega) (fun q => ∃ w', q = some w' ∧ Fr 111 114 w w' ∧ w'.1 112 = w.1 112 ∧ (∀ j, j ≠ 5 → w'.1 111 j = w.1 111 j) ∧ HM w' (rh 4) (rp p 4 a)) (fun n i w' hi hi2 hI => ?_) (fun n w' hI => ?_) 4096 w (by omega) ⟨Fr.rfl', fun k => by rw [if_neg (by omega)]⟩
    · obtain ⟨F, c⟩ := hI
      refine ⟨sI w' 113 i (w.1 113 (i + 706)), ⟨F.sI (by omega) (by omega), fun k => ?_⟩, ?_⟩
      · rw [sI_1, if_pos rfl, upd_1, c]
        by_cases h1 : k = i
        · rw [if_pos h1, if_pos (by omega), h1]
        · rw [if_neg h1]
          by_cases h2 : k < i
          · rw [if_pos h2, if_pos (by omega)]
          · rw [if_neg h2, if_neg (by omega)]
      · show lX6_record_10 111 (n + 1) w' (nI i) = _
        have e := c (i + 706)
        rw [if_neg (by omega)] at e
        rw [lX6_record_10]
        simp (disch := omega) only [Nat.reduceAdd, n2118, n706, n1, nI_le_, ldI_n, ob_some, nI_add, stI_n, e]
        rw [if_neg (by omega)]
    · obtain ⟨F, c⟩ := hI
      show ∃ w'', lX6_record_10 111 (n + 1) w' (nI 2118) = _ ∧ _
      rw [lX6_record_10, if_pos (by decide)]
      unfold pI
      have e3 : w'.1 111 5 - 1 = nI 3 := by rw [F.1 111 (by omega), H5]; rfl
      rw [ob_some, e3]
      have G : Fr 111 114 w (sI w' 111 5 (nI 3)) := (F.wide (by omega) (by omega)).sI (by omega) (by omega)
      obtain ⟨w2, e, F2, k1, k2, k3⟩ := M_rec51 (w := sI w' 111 5 (nI 3)) 3 (by omega) (by rw [sI_1, if_pos rfl, upd_1, if_pos rfl])
      have z1 : (sI w' 111 5 (nI 3)).1 112 = w.1 112 := by rw [sI_1, if_neg (by omega), F.1 112 (by omega)]
      have z3 : (sI w' 111 5 (nI 3)).1 113 = w'.1 113 := by rw [sI_1, if_neg (by omega)]
      refine ⟨w2, e, G.trans F2, k1.trans z1, fun j hj => ?_, ?_, fun j hj => ?_⟩
      · rw [k2, if_neg hj, sI_1, if_pos rfl, upd_1, if_neg hj, F.1 111 (by omega)]
      · rw [k2, if_pos rfl]; rfl
      · have hj' : j < 4 := hj
        unfold rp
        rw [if_neg (by omega)]
        by_cases hjh : j = 3
        · rw [if_pos hjh, hjh]
          exact ZA_ext (fun k hk => by rw [k3, if_pos (by omega), Nat.add_sub_cancel_left, z1]) Z
        · rw [if_neg hjh]
          exact ZA_ext (fun k hk => by rw [k3, if_neg (by omega), z3, c, if_pos (by omega), show 706 * (j + 1) + k = 706 * j + k + 706 by omega]) (HR (j + 1) (by omega))
theorem M_undo (H : HM w h p) (h0 : 0 < h) (h4 : h ≤ 4) : ∃ w', fX6_undo w 111 = some (nI (h - 1), w') ∧ Fr 111 114 w w' ∧ (∀ j, j ≠ 5 → w'.1 111 j = w.1 111 j) ∧ HM w' (h - 1) p ∧ ZA (w'.1 112) (p (h - 1)) := by
  obtain ⟨H5, HR⟩ := H
  unfold fX6_undo
  have e0 : nI h - 1 = nI (h - 1) := by rw [n1, nI_sub (by omega)]
  rw [H5, if_neg (by rw [l0, nI_eq_ (by omega) (by omega)]; omega), e0]
  unfold pI
  rw [ob_some]
  have r1 : (sI w 111 5 (nI (h - 1))).1 111 5 = nI (h - 1) := by rw [sI_1, if_pos rfl, upd_1, if_pos rfl]
  have r3 : (sI w 111 5 (nI (h - 1))).1 113 = w.1 113 := by rw [sI_1, if_neg (by omega)]
  have G0 : Fr 111 114 w (sI w 111 5 (nI (h - 1))) := Fr.rfl'.sI (by omega) (by omega)
  refine loopI (fun n w' i => lX6_undo_22 111 n w' (nI i)) (fun i w' => Fr 112 113 (sI w 111 5 (nI (h - 1))) w' ∧ ∀ k, k < i → w'.1 112 k = w.1 113 (706 * (h - 1) + k)) 0 706 (by omega) (fun q => ∃ w', q = some (nI (h - 1), w') ∧ Fr 111 114 w w' ∧ (∀ j, j ≠ 5 → w'.1 111 j = w.1 111 j) ∧ HM w' (h - 1) p ∧ ZA (w'.1 112) (p (h - 1))) (fun n i w' hi hi2 hI => ?_) (fun n w' hI => ?_) 4096 _ (by omega) ⟨Fr.rfl', fun k hk => by omega⟩
  · obtain ⟨F, c⟩ := hI
    refine ⟨sI w' 112 i (w.1 113 (706 * (h - 1) + i)), ⟨F.sI (by omega) (by omega), fun k hk => ?_⟩, ?_⟩
    · rw [sI_1, if_pos rfl, upd_1]
      by_cases h1 : k = i
      · rw [if_pos h1, h1]
      · rw [if_neg h1]; exact c k (by omega)
    · show lX6_undo_22 111 (n + 1) w' (nI i) = _
      rw [lX6_undo_22, F.1 111 (by omega), r1]
      simp (disch := omega) only [Nat.reduceAdd, n706, n1, nI_le_, ldI_n, ob_some, nI_add, nI_mul, stI_n, F.1 113 (by omega), r3]
      rw [if_neg (by omega), Nat.mul_comm (h - 1) 706]
  · obtain ⟨F, c⟩ := hI
    refine ⟨w', ?_, G0.trans (F.wide (by omega) (by omega)), fun j hj => ?_, ⟨?_, fun j hj => ?_⟩, ?_⟩
    · show lX6_undo_22 111 (n + 1) w' (nI 706) = _
      rw [lX6_undo_22, if_pos (by decide), F.1 111 (by omega), r1]
    · rw [F.1 111 (by omega), sI_1, if_pos rfl, upd_1, if_neg hj]
    · rw [F.1 111 (by omega), r1]
    · exact ZA_ext (fun k hk => by rw [F.1 113 (by omega), r3]) (HR j (by omega))
    · exact ZA_ext (fun k hk => c k hk) (HR (h - 1) (by omega))
theorem M_keep (Z : ZA (w.1 112) a) : ∃ w', fX6_keep w 111 = some (nI (ent a), w') ∧ Fr 111 115 w w' ∧ w'.1 112 = w.1 112 ∧ w'.1 113 = w.1 113 ∧ (∀ j, w'.1 111 j = if j = 6 then 1 else w.1 111 j) ∧ ZA (w'.1 114) a := by
  unfold fX6_keep stZ
  rw [if_pos (Or.inr rfl), ob_some]
  have G0 : Fr 111 115 w (sI w 111 6 1) := Fr.rfl'.sI (by omega) (by omega)
  have r2 : (sI w 111 6 1).1 112 = w.1 112 := by rw [sI_1, if_neg (by omega)]
  refine loopI (fun n w' i => lX6_keep_7 111 n w' (nI i)) (fun i w' => Fr 114 115 (sI w 111 6 1) w' ∧ ∀ k, k < i → w'.1 114 k = w.1 112 k) 0 706 (by omega) (fun q => ∃ w', q = some (nI (ent a), w') ∧ Fr 111 115 w w' ∧ w'.1 112 = w.1 112 ∧ w'.1 113 = w.1 113 ∧ (∀ j, w'.1 111 j = if j = 6 then 1 else w.1 111 j) ∧ ZA (w'.1 114) a) (fun n i w' hi hi2 hI => ?_) (fun n w' hI => ?_) 4096 _ (by omega) ⟨Fr.rfl', fun k hk => by omega⟩
  · obtain ⟨F, c⟩ := hI
    refine ⟨sI w' 114 i (w.1 112 i), ⟨F.sI (by omega) (by omega), fun k hk => ?_⟩, ?_⟩
    · rw [sI_1, if_pos rfl, upd_1]
      by_cases h1 : k = i
      · rw [if_pos h1, h1]
      · rw [if_neg h1]; exact c k (by omega)
    · show lX6_keep_7 111 (n + 1) w' (nI i) = _
      have f2 : w'.1 112 = w.1 112 := (F.1 112 (by omega)).trans r2
      rw [lX6_keep_7]
      simp (disch := omega) only [Nat.reduceAdd, n706, n1, nI_le_, ldI_n, ob_some, nI_add, stI_n, f2]
      rw [if_neg (by omega)]
  · obtain ⟨F, c⟩ := hI
    have z2 : w'.1 112 = w.1 112 := (F.1 112 (by omega)).trans r2
    have Z2 : ZA (w'.1 112) a := by rw [z2]; exact Z
    refine ⟨w', ?_, G0.trans (F.wide (by omega) (by omega)), z2, ?_, fun j => ?_, ?_⟩
    · show lX6_keep_7 111 (n + 1) w' (nI 706) = _
      rw [lX6_keep_7, if_pos (by decide), M_entries Z2]
      rfl
    · rw [F.1 113 (by omega), sI_1, if_neg (by omega)]
    · rw [F.1 111 (by omega), sI_1, if_pos rfl, upd_1]
    · exact ZA_ext (fun k hk => c k hk) Z
theorem M_rest16 {b : Nat → Nat} (Z : ZA (w.1 114) b) : ∃ w', lX6_restore_16 111 4096 w 0 = some (nI (ent b), w') ∧ Fr 112 113 w w' ∧ ZA (w'.1 112) b := by
  refine loopI (fun n w' i => lX6_restore_16 111 n w' (nI i)) (fun i w' => Fr 112 113 w w' ∧ ∀ k, k < i → w'.1 112 k = w.1 114 k) 0 706 (by omega) (fun q => ∃ w', q = some (nI (ent b), w') ∧ Fr 112 113 w w' ∧ ZA (w'.1 112) b) (fun n i w' hi hi2 hI => ?_) (fun n w' hI => ?_) 4096 _ (by omega) ⟨Fr.rfl', fun k hk => by omega⟩
  · obtain ⟨F, c⟩ := hI
    refine ⟨sI w' 112 i (w.1 114 i), ⟨F.sI (by omega) (by omega), fun k hk => ?_⟩, ?_⟩
    · rw [sI_1, if_pos rfl, upd_1]
      by_cases h1 : k = i
      · rw [if_pos h1, h1]
      · rw [if_neg h1]; exact c k (by omega)
    · show lX6_restore_16 111 (n + 1) w' (nI i) = _
      rw [lX6_restore_16]
      simp (disch := omega) only [Nat.reduceAdd, n706, n1, nI_le_, ldI_n, ob_some, nI_add, stI_n, F.1 114 (by omega)]
      rw [if_neg (by omega)]
  · obtain ⟨F, c⟩ := hI
    have Z2 : ZA (w'.1 112) b := ZA_ext (fun k hk => c k hk) Z
    refine ⟨w', ?_, F, Z2⟩
    show lX6_restore_16 111 (n + 1) w' (nI 706) = _
    rw [lX6_restore_16, if_pos (by decide), M_entries Z2]
    rfl
end MHI
