/-! PURE PART: type, clearText, perform -/
section CMDS
variable {w w1 w2 u : Wd} {a : Nat → Nat} {h : Nat} {p : Nat → Nat → Nat} {c : Nat} {ks : Nat → Nat} {n : Nat} {t : Nat → Nat}
theorem ob2_id (x : Option (Int32 × Wd)) : (ob2 x fun v w => some (v, w)) = x := by
  cases x with
  | none => rfl
  | some q => rfl
theorem simT_weight (x y : Int32) : SimT (fun w => fX5_weight LY w 0 x y) (fun w => fX6_weight w 111 x y) := by
  have h := sim_setOf x y 6 486 9 (Or.inl ⟨rfl, rfl, rfl⟩)
  have e1 : (fun w => fX5_weight LY w 0 x y) = (fun w => fX5_setOfList LY w 0 6 6 x y (nI 9)) := funext fun w => ob2_id (fX5_setOfList LY w 0 6 6 x y (nI 9))
  have e2 : (fun w => fX6_weight w 111 x y) = (fun w => fX6_setOf w 111 (nI 486) x y (nI 9)) := funext fun w => ob2_id (fX6_setOf w 111 (nI 486) x y (nI 9))
  rw [e1, e2]
  exact h
theorem simT_bribe (x y : Int32) : SimT (fun w => fX5_bribe LY w 0 x y) (fun w => fX6_bribe w 111 x y) := by
  have h := sim_setOf x y 7 492 500 (Or.inr ⟨rfl, rfl, rfl⟩)
  have e1 : (fun w => fX5_bribe LY w 0 x y) = (fun w => fX5_setOfList LY w 0 7 6 x y (nI 500)) := funext fun w => ob2_id (fX5_setOfList LY w 0 7 6 x y (nI 500))
  have e2 : (fun w => fX6_bribe w 111 x y) = (fun w => fX6_setOf w 111 (nI 492) x y (nI 500)) := funext fun w => ob2_id (fX6_setOf w 111 (nI 492) x y (nI 500))
  rw [e1, e2]
  exact h
theorem simT_delete (x : Int32) : SimT (fun w => fX5_delete LY w 0 x) (fun w => fX6_delete w 111 x) := by
  have h := sim_gone x 1 (by omega)
  have e1 : (fun w => fX5_delete LY w 0 x) = (fun w => fX5_setDeleted LY w 0 x (nI 1)) := funext fun w => ob2_id (fX5_setDeleted LY w 0 x (nI 1))
  have e2 : (fun w => fX6_delete w 111 x) = (fun w => fX6_gone w 111 x (nI 1)) := funext fun w => ob2_id (fX6_gone w 111 x (nI 1))
  rw [e1, e2]
  exact h
theorem simT_bring (x : Int32) : SimT (fun w => fX5_bring LY w 0 x) (fun w => fX6_bring w 111 x) := by
  have h := sim_gone x 0 (by omega)
  have e1 : (fun w => fX5_bring LY w 0 x) = (fun w => fX5_setDeleted LY w 0 x (nI 0)) := funext fun w => ob2_id (fX5_setDeleted LY w 0 x (nI 0))
  have e2 : (fun w => fX6_bring w 111 x) = (fun w => fX6_gone w 111 x (nI 0)) := funext fun w => ob2_id (fX6_gone w 111 x (nI 0))
  rw [e1, e2]
  exact h
/-- a call that changed the text alone -/
theorem MR_text (C : CRel w a h p c ks n t) (R : RRel w a h p c ks n t) (V : PV a h p c ks n t) {n' : Nat} {t' : Nat → Nat} (F1 : Fr 99 101 w w1) (F2 : Fr 111 118 w1 w2) (k : ∀ j, 112 ≤ j → j ≤ 114 → w2.1 j = w1.1 j) (k1 : ∀ j, j ≠ 8 → w2.1 111 j = w1.1 111 j) (X : TX w1 n' t') (Y : TM w2 n' t') (W : TV n' t') : MR w2 := by
  obtain ⟨c1, c2, c3, c4, c5, c6⟩ := C
  obtain ⟨r1, r2, r3, r4, r5, r6⟩ := R
  obtain ⟨v1, v2, v3, v4, v5, v6, v7⟩ := V
  have hp := fun j hj => (v3 j hj).1
  refine ⟨a, h, p, c, ks, n', t', ⟨Rs_fr (Rs_fr c1 v1.1 F1 (by omega)) v1.1 F2 (by omega), HC_fr (HC_fr c2 hp F1 (by omega)) hp F2 (by omega), ?_, fun hc => Rs_fr (Rs_fr (c4 hc) (v5 hc).1 F1 (by omega)) (v5 hc).1 F2 (by omega), ?_, fun i hi => ?_⟩, ⟨?_, ⟨?_, fun j hj => ?_⟩, ?_, fun hc => ?_, Y.1, Y.2⟩, v1, v2, v3, v4, v5, W.1, W.2⟩
  · rw [F2.1 0 (by omega), F1.1 0 (by omega)]; exact c3
  · rw [F2.1 99 (by omega)]; exact X.1
  · rw [F2.1 100 (by omega)]; exact X.2 i hi
  · rw [k 112 (by omega) (by omega), F1.1 112 (by omega)]; exact r1
  · rw [k1 5 (by omega), F1.1 111 (by omega)]; exact r2.1
  · rw [k 113 (by omega) (by omega), F1.1 113 (by omega)]; exact r2.2 j hj
  · rw [k1 6 (by omega), F1.1 111 (by omega)]; exact r3
  · rw [k 114 (by omega) (by omega), F1.1 114 (by omega)]; exact r4 hc
theorem sim_type (x : Nat) (hx : x < 65536) : Sim (fun w => fX5_type w 0 (nI x)) (fun w => fX6_type w 111 (nI x)) := by
  rintro w ⟨a, h, p, c, ks, n, t, C, R, V⟩
  have hMR : MR w := ⟨a, h, p, c, ks, n, t, C, R, V⟩
  show ∃ v w1 w2, fX5_type w 0 (nI x) = some (v, w1) ∧ fX6_type w1 111 (nI x) = some (v, w2) ∧ MR w2
  have e5 : w.1 99 1 = nI n := C.2.2.2.2.1
  have e6 : w.1 111 8 = nI n := R.2.2.2.2.1
  have h40 := V.2.2.2.2.2.1
  by_cases hn : n = 40
  · refine ⟨-3, w, w, ?_, ?_, hMR⟩
    · unfold fX5_type
      rw [Nat.zero_add, e5, n40, if_neg (by rw [nI_lt_ (by omega) (by omega)]; omega)]
    · unfold fX6_type
      rw [e6, n40, if_pos (by rw [hn])]
  obtain ⟨w1, hw1⟩ : ∃ y, y = sI (sI w 100 n (nI x)) 99 1 (nI (n + 1)) := ⟨_, rfl⟩
  obtain ⟨w2, hw2⟩ : ∃ y, y = sI (sI w1 117 n (nI x)) 111 8 (nI (n + 1)) := ⟨_, rfl⟩
  have F1 : Fr 99 101 w w1 := by rw [hw1]; exact (Fr.rfl'.sI (by omega) (by omega)).sI (by omega) (by omega)
  have F2 : Fr 111 118 w1 w2 := by rw [hw2]; exact (Fr.rfl'.sI (by omega) (by omega)).sI (by omega) (by omega)
  have a99 : w1.1 99 1 = nI (n + 1) := by rw [hw1, sI_1, if_pos rfl, upd_1, if_pos rfl]
  have a111 : w2.1 111 8 = nI (n + 1) := by rw [hw2, sI_1, if_pos rfl, upd_1, if_pos rfl]
  have X : TX w1 (n + 1) (fun i => if i = n then x else t i) := by
    refine ⟨a99, fun i hi => ?_⟩
    rw [hw1, sI_1, if_neg (show ¬ 100 = 99 by omega), sI_1, if_pos rfl, upd_1]
    show _ = nI (if i = n then x else t i)
    by_cases hin : i = n
    · rw [if_pos hin, if_pos hin]
    · rw [if_neg hin, if_neg hin]
      exact C.2.2.2.2.2 i (by omega)
  have Y : TM w2 (n + 1) (fun i => if i = n then x else t i) := by
    refine ⟨a111, fun i hi => ?_⟩
    rw [hw2, sI_1, if_neg (show ¬ 117 = 111 by omega), sI_1, if_pos rfl, upd_1]
    show _ = nI (if i = n then x else t i)
    by_cases hin : i = n
    · rw [if_pos hin, if_pos hin]
    · rw [if_neg hin, if_neg hin, F1.1 117 (by omega)]
      exact R.2.2.2.2.2 i (by omega)
  have W : TV (n + 1) (fun i => if i = n then x else t i) := by
    refine ⟨by omega, fun i hi => ?_⟩
    show (if i = n then x else t i) < 65536
    by_cases hin : i = n
    · rw [if_pos hin]; exact hx
    · rw [if_neg hin]; exact V.2.2.2.2.2.2 i (by omega)
  refine ⟨nI (n + 1), w1, w2, ?_, ?_, MR_text C R V F1 F2 (fun j h1 h2 => ?_) (fun j hj => ?_) X Y W⟩
  · unfold fX5_type fX4_append
    rw [Nat.zero_add, e5, if_pos (show nI n < 40 by rw [n40, nI_lt_ (by omega) (by omega)]; omega), if_neg (show ¬ nI n < 0 from nI_pos (by omega)), if_neg (show ¬ nI 40 ≤ nI n by rw [nI_le_ (by omega) (by omega)]; omega), stC_n (show n < 40 by omega) (by omega) hx, ob_some]
    unfold pI
    rw [sI_1, if_neg (show ¬ 99 = 99 + 1 by omega), e5, n1, nI_add, ob_some, ob_some, ← hw1, a99]
  · unfold fX6_type
    rw [F1.1 111 (by omega), e6, if_neg (by rw [n40, nI_eq_ (by omega) (by omega)]; exact hn), stC_n (show n < 40 by omega) (by omega) hx, ob_some]
    unfold pI
    rw [sI_1, if_neg (show ¬ 111 = 111 + 6 by omega), F1.1 111 (by omega), e6, n1, nI_add, ob_some, ← hw2, a111]
  · rw [hw2, sI_1, if_neg (by omega), sI_1, if_neg (by omega)]
  · rw [hw2, sI_1, if_pos rfl, upd_1, if_neg hj, sI_1, if_neg (by omega)]
theorem sim_clearText : Sim (fun w => fX5_clearText w 0) (fun w => fX6_clearText w 111) := by
  rintro w ⟨a, h, p, c, ks, n, t, C, R, V⟩
  show ∃ v w1 w2, fX5_clearText w 0 = some (v, w1) ∧ fX6_clearText w1 111 = some (v, w2) ∧ MR w2
  have e5 : w.1 99 1 = nI n := C.2.2.2.2.1
  have e6 : w.1 111 8 = nI n := R.2.2.2.2.1
  obtain ⟨w1, hw1⟩ : ∃ y, y = sI w 99 1 0 := ⟨_, rfl⟩
  obtain ⟨w2, hw2⟩ : ∃ y, y = sI w1 111 8 0 := ⟨_, rfl⟩
  have F1 : Fr 99 101 w w1 := by rw [hw1]; exact Fr.rfl'.sI (by omega) (by omega)
  have F2 : Fr 111 118 w1 w2 := by rw [hw2]; exact Fr.rfl'.sI (by omega) (by omega)
  have X : TX w1 0 t := ⟨by rw [hw1, sI_1, if_pos rfl, upd_1, if_pos rfl]; rfl, fun i hi => by omega⟩
  have Y : TM w2 0 t := ⟨by rw [hw2, sI_1, if_pos rfl, upd_1, if_pos rfl]; rfl, fun i hi => by omega⟩
  refine ⟨w.1 99 1, w1, w2, ?_, ?_, MR_text C R V F1 F2 (fun j h1 h2 => ?_) (fun j hj => ?_) X Y ⟨by omega, fun i hi => by omega⟩⟩
  · rw [hw1]; rfl
  · have e7 : w.1 99 1 = w1.1 111 8 := by rw [F1.1 111 (by omega), e5, e6]
    rw [e7, hw2]; rfl
  · rw [hw2, sI_1, if_neg (by omega)]
  · rw [hw2, sI_1, if_pos rfl, upd_1, if_neg hj]
end CMDS
