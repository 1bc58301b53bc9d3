/-! PURE PART: perform -/
section PFM
variable {w w1 w2 u : Wd} {a : Nat → Nat} {h : Nat} {p : Nat → Nat → Nat} {c : Nat} {ks : Nat → Nat} {n : Nat} {t : Nat → Nat}
def mmn (c : Nat) : Nat := if c = 0 then 3 else if c ≤ 3 then 2 else 1
theorem mmn_le (c : Nat) : mmn c ≤ 3 := by
  unfold mmn
  split
  · omega
  · split <;> omega
theorem C_numbersOf (w : Wd) (hc : c < 7) : fX4_numbersOf w (nI c) = some (nI (mmn c)) := by
  obtain rfl | rfl | rfl | rfl | rfl | rfl | rfl : c = 0 ∨ c = 1 ∨ c = 2 ∨ c = 3 ∨ c = 4 ∨ c = 5 ∨ c = 6 := by omega
  all_goals rfl
theorem M_32e (hc : c < 7) {L N : Nat} : lX6_perform_32 111 (N + 1) u (nI L) (nI c) (nI 7) = lX6_perform_98 111 4096 (sI (sI u 111 9 (nI L)) 111 10 0) (nI c) (nI (mmn c)) (nI 0) := by
  have z0 : ∀ w : Wd, stZ w 111 10 0 = some (sI w 111 10 0) := fun w => by unfold stZ; rw [if_pos (Or.inl rfl)]
  rw [lX6_perform_32, if_pos (by decide), if_pos (by rw [l0, nI_le_ (by omega) (by omega)]; omega)]
  unfold pI
  rw [ob_some, z0, ob_some]
  unfold mmn
  by_cases h0 : c = 0
  · rw [if_pos (by rw [h0]; rfl), if_pos h0]
    rfl
  · rw [if_neg (by rw [l0, nI_eq_ (by omega) (by omega)]; exact h0), if_neg h0]
    by_cases h3 : c ≤ 3
    · rw [if_neg (by rw [n4, nI_le_ (by omega) (by omega)]; omega), if_pos h3]
      rfl
    · rw [if_pos (by rw [n4, nI_le_ (by omega) (by omega)]; omega), if_neg h3]
      rfl
theorem M_32n {L N : Nat} : lX6_perform_32 111 (N + 1) u (nI L) (-1) (nI 7) = some (-100, u) := by
  rw [lX6_perform_32, if_pos (by decide), if_neg (by decide)]
/-- the class's choice among the calls -/
def dsp (w2 : Wd) : Option (Int32 × Wd) :=
  if (w2.1 99 2) = 0 then fX5_add LY w2 0 (w2.1 101 0) (w2.1 101 1) (w2.1 101 2)
  else if (w2.1 99 2) = 1 then fX5_drop LY w2 0 (w2.1 101 0) (w2.1 101 1)
  else if (w2.1 99 2) = 2 then fX5_weight LY w2 0 (w2.1 101 0) (w2.1 101 1)
  else if (w2.1 99 2) = 3 then fX5_bribe LY w2 0 (w2.1 101 0) (w2.1 101 1)
  else if (w2.1 99 2) = 4 then fX5_delete LY w2 0 (w2.1 101 0)
  else if (w2.1 99 2) = 5 then fX5_bring LY w2 0 (w2.1 101 0)
  else fX5_want LY w2 0 (w2.1 101 0)
theorem at0 (w : Wd) : fX5_at w 101 3 0 = some (w.1 101 0) := at_n (show 0 < 3 by omega) (by omega)
theorem at1 (w : Wd) : fX5_at w 101 3 1 = some (w.1 101 1) := at_n (show 1 < 3 by omega) (by omega)
theorem at2 (w : Wd) : fX5_at w 101 3 2 = some (w.1 101 2) := at_n (show 2 < 3 by omega) (by omega)
theorem ld0 (w : Wd) : ldI 3 w 118 0 = some (w.1 118 0) := ldI_n (show 0 < 3 by omega) (by omega)
theorem ld1 (w : Wd) : ldI 3 w 118 1 = some (w.1 118 1) := ldI_n (show 1 < 3 by omega) (by omega)
theorem ld2 (w : Wd) : ldI 3 w 118 2 = some (w.1 118 2) := ldI_n (show 2 < 3 by omega) (by omega)
theorem C_perf (w : Wd) {v1 : Int32} {w2 : Wd} (e : fX4_readCommand w 99 = some (v1, w2)) : fX5_perform LY w 0 = if v1 = -1 then dsp w2 else some (-100 - v1, w2) := by
  unfold fX5_perform
  rw [show 0 + 99 = 99 from rfl, e, ob2_some]
  by_cases h : v1 = -1
  · rw [if_pos h, if_pos h, show 99 + 2 = 101 from rfl, at0, at1, at2, ob_some, ob_some, ob_some]
    unfold dsp
    simp only [ob2_id]
  · rw [if_neg h, if_neg h]
def dsr (k : Nat) (q : Wd) (x0 x1 x2 : Int32) : Option (Int32 × Wd) := match k with
  | 0 => fX6_add q 111 x0 x1 x2
  | 1 => fX6_drop q 111 x0 x1
  | 2 => fX6_weight q 111 x0 x1
  | 3 => fX6_bribe q 111 x0 x1
  | 4 => fX6_delete q 111 x0
  | 5 => fX6_bring q 111 x0
  | _ => fX6_want q 111 x0
theorem M_does (u : Wd) (hc : c < 7) : fX6_does u 111 (nI c) = dsr c u (u.1 118 0) (u.1 118 1) (u.1 118 2) := by
  have k0 := ld0 u
  have k1 := ld1 u
  have k2 := ld2 u
  unfold fX6_does
  rw [show 111 + 7 = 118 from rfl, k0, k1, k2]
  simp only [ob_some, ob2_id]
  obtain rfl | rfl | rfl | rfl | rfl | rfl | rfl : c = 0 ∨ c = 1 ∨ c = 2 ∨ c = 3 ∨ c = 4 ∨ c = 5 ∨ c = 6 := by omega
  all_goals rfl
theorem dsr_0 (q : Wd) (x0 x1 x2 : Int32) : dsr 0 q x0 x1 x2 = fX6_add q 111 x0 x1 x2 := rfl
theorem dsr_1 (q : Wd) (x0 x1 x2 : Int32) : dsr 1 q x0 x1 x2 = fX6_drop q 111 x0 x1 := rfl
theorem dsr_2 (q : Wd) (x0 x1 x2 : Int32) : dsr 2 q x0 x1 x2 = fX6_weight q 111 x0 x1 := rfl
theorem dsr_3 (q : Wd) (x0 x1 x2 : Int32) : dsr 3 q x0 x1 x2 = fX6_bribe q 111 x0 x1 := rfl
theorem dsr_4 (q : Wd) (x0 x1 x2 : Int32) : dsr 4 q x0 x1 x2 = fX6_delete q 111 x0 := rfl
theorem dsr_5 (q : Wd) (x0 x1 x2 : Int32) : dsr 5 q x0 x1 x2 = fX6_bring q 111 x0 := rfl
theorem dsr_6 (q : Wd) (x0 x1 x2 : Int32) : dsr 6 q x0 x1 x2 = fX6_want q 111 x0 := rfl
theorem dsr_cong {c : Nat} (hc : c < 7) {q : Wd} {x0 x1 x2 y0 y1 y2 : Int32} (h : ∀ j, j < mmn c → (if j = 0 then x0 else if j = 1 then x1 else x2) = (if j = 0 then y0 else if j = 1 then y1 else y2)) : dsr c q x0 x1 x2 = dsr c q y0 y1 y2 := by
  obtain rfl | rfl | rfl | rfl | rfl | rfl | rfl : c = 0 ∨ c = 1 ∨ c = 2 ∨ c = 3 ∨ c = 4 ∨ c = 5 ∨ c = 6 := by omega
  · have h0 : x0 = y0 := h 0 (by decide)
    have h1 : x1 = y1 := h 1 (by decide)
    have h2 : x2 = y2 := h 2 (by decide)
    rw [dsr_0, dsr_0, h0, h1, h2]
  · have h0 : x0 = y0 := h 0 (by decide)
    have h1 : x1 = y1 := h 1 (by decide)
    rw [dsr_1, dsr_1, h0, h1]
  · have h0 : x0 = y0 := h 0 (by decide)
    have h1 : x1 = y1 := h 1 (by decide)
    rw [dsr_2, dsr_2, h0, h1]
  · have h0 : x0 = y0 := h 0 (by decide)
    have h1 : x1 = y1 := h 1 (by decide)
    rw [dsr_3, dsr_3, h0, h1]
  · have h0 : x0 = y0 := h 0 (by decide)
    rw [dsr_4, dsr_4, h0]
  · have h0 : x0 = y0 := h 0 (by decide)
    rw [dsr_5, dsr_5, h0]
  · have h0 : x0 = y0 := h 0 (by decide)
    rw [dsr_6, dsr_6, h0]
theorem sim_dsp (hc : c < 7) (h2 : w.1 99 2 = nI c) (H : MR w) : ∃ v w1, dsp w = some (v, w1) ∧ w1.1 111 = w.1 111 ∧ w1.1 117 = w.1 117 ∧ ∀ q, FT w1 q → ∃ w2, dsr c q (w.1 101 0) (w.1 101 1) (w.1 101 2) = some (v, w2) ∧ MR w2 := by
  unfold dsp
  rw [h2]
  obtain rfl | rfl | rfl | rfl | rfl | rfl | rfl : c = 0 ∨ c = 1 ∨ c = 2 ∨ c = 3 ∨ c = 4 ∨ c = 5 ∨ c = 6 := by omega
  · exact sim_add _ _ _ w H
  · exact sim_drop _ _ w H
  · exact simT_weight _ _ w H
  · exact simT_bribe _ _ w H
  · exact simT_delete _ w H
  · exact simT_bring _ w H
  · exact sim_want _ w H
theorem sim_perform : Sim (fun w => fX5_perform LY w 0) (fun w => fX6_perform w 111) := by
  intro w hMR
  have hMR' := hMR
  obtain ⟨a, h, p, c0, ks, n, t, C, R, V⟩ := hMR'
  have X : TX w n t := ⟨C.2.2.2.2.1, C.2.2.2.2.2⟩
  have Y : TM w n t := ⟨R.2.2.2.2.1, R.2.2.2.2.2⟩
  have W : TV n t := ⟨V.2.2.2.2.2.1, V.2.2.2.2.2.2⟩
  have h40 := W.1
  obtain ⟨L, hL, eL, -⟩ := wordLen W X Y n 0 4096 4096 (by omega) (by omega) (by omega)
  have eL' : fX4_wordLength w 99 = some (nI L) := eL
  have ref : ∀ u, TM u n t → fX6_perform u 111 = lX6_perform_32 111 4096 u (nI L) (-1) (nI 0) := fun u Yu => by
    obtain ⟨L', hL', e1, e2⟩ := wordLen W X Yu n 0 4096 4096 (by omega) (by omega) (by omega)
    have e3 : nI L' = nI L := by
      have := e1.symm.trans eL
      exact Option.some.inj this
    have e4 : L' = L := (nI_eq (by omega) (by omega)).mp e3
    rw [← e4]
    exact e2
  show ∃ v w1 w2, fX5_perform LY w 0 = some (v, w1) ∧ fX6_perform w1 111 = some (v, w2) ∧ MR w2
  have rc : ∀ x : Int32, fX4_commandOfWord w 99 (nI L) = some x → fX4_readCommand w 99 = if x = -1 then some (0, sI w 99 2 x) else (fX4_numbersOf (sI w 99 2 x) x).bind fun v5 => lX4_readCommand_34 99 4096 (sI w 99 2 x) (nI L) v5 0 := fun x ex => by
    unfold fX4_readCommand
    rw [eL', ob_some, ex, ob_some]
    unfold pI
    rw [ob_some, show (sI w 99 2 x).1 99 2 = x by rw [sI_1, if_pos rfl, upd_1, if_pos rfl]]
  by_cases hw : ∃ k, k < 7 ∧ isW t k L
  rotate_left
  · have hn : ∀ k, k < 7 → ¬ isW t k L := fun k hk z => hw ⟨k, hk, z⟩
    have e1 := rc (-1) (C_cmdN X W hL hn 7 0 4096 (by omega) (by omega))
    rw [if_pos rfl] at e1
    have F : FT w (sI w 99 2 (-1)) := ft_99 _
    refine ⟨-100, sI w 99 2 (-1), sI w 99 2 (-1), ?_, ?_, MR_ft hMR F⟩
    · rw [C_perf w e1, if_neg (by decide)]
      rfl
    · obtain ⟨N', e2⟩ := M_cmdN (TM_ft Y F) W hL 7 0 4096 (-1) (by omega) (fun j _ hj => hn j hj) (by omega)
      rw [ref _ (TM_ft Y F), e2, M_32n]
  obtain ⟨c, hc, hcw⟩ := hw
  have e1 := rc (nI c) (C_cmdY X W hL hc hcw 7 0 4096 (by omega) (by omega) (by omega))
  have hnn : ∀ k : Nat, k < 2147483648 → ¬ nI k = -1 := fun k hk z => nI_pos (n := k) (by omega) (by rw [z]; decide)
  rw [if_neg (hnn c (by omega)), C_numbersOf _ hc, ob_some] at e1
  have F1 : FT w (sI w 99 2 (nI c)) := ft_99 _
  have s99 : (sI w 99 2 (nI c)).1 99 2 = nI c := by rw [sI_1, if_pos rfl, upd_1, if_pos rfl]
  have ref2 : ∀ u, TM u n t → fX6_perform u 111 = lX6_perform_98 111 4096 (sI (sI u 111 9 (nI L)) 111 10 0) (nI c) (nI (mmn c)) (nI 0) := fun u Yu => by
    obtain ⟨N', e2⟩ := M_cmdY Yu W hL hc hcw 7 0 4096 (-1) (by omega) (by omega) (by omega)
    rw [ref u Yu, e2, M_32e hc]
  have pre : ∀ u, TM u n t → FT u (sI (sI u 111 9 (nI L)) 111 10 0) ∧ (sI (sI u 111 9 (nI L)) 111 10 0).1 111 9 = nI L ∧ (sI (sI u 111 9 (nI L)) 111 10 0).1 111 10 = 0 := fun u Yu => by
    refine ⟨(ft_9 _).trans (ft_10 _), ?_, ?_⟩
    · rw [sI_1, if_pos rfl, upd_1, if_neg (by omega), sI_1, if_pos rfl, upd_1, if_pos rfl]
    · rw [sI_1, if_pos rfl, upd_1, if_pos rfl]
  rcases numbers W (nI c) (mmn_le c) (mmn c) 0 L 4096 4096 (sI w 99 2 (nI c)) (by omega) hL (by have := mmn_le c; omega) (by have := mmn_le c; omega) (TX_ft X F1) with ⟨pos, w', eo, F, e99, hpos, kk⟩ | ⟨w', vs, eo, F, e99, hv1, -, kk⟩
  · have e2 : fX4_readCommand w 99 = some (nI pos, w') := e1.trans eo
    have F' := F1.trans F
    obtain ⟨p1, p2, p3⟩ := pre w' (TM_ft Y F')
    obtain ⟨u', e3, F3⟩ := kk _ (TM_ft (TM_ft Y F') p1) p2 p3
    refine ⟨-100 - nI pos, w', u', ?_, ?_, MR_ft (MR_ft (MR_ft hMR F') p1) F3⟩
    · rw [C_perf w e2, if_neg (hnn pos (by omega))]
    · rw [ref2 _ (TM_ft Y F'), e3]
  · have e2 : fX4_readCommand w 99 = some (-1, w') := e1.trans eo
    have F' := F1.trans F
    obtain ⟨v, w9, e5, g111, g117, KK⟩ := sim_dsp hc (e99.trans s99) (MR_ft hMR F')
    have Y1 : TM w' n t := TM_ft Y F'
    have Y9 : TM w9 n t := ⟨by rw [g111]; exact Y1.1, fun i hi => by rw [g117]; exact Y1.2 i hi⟩
    obtain ⟨p1, p2, p3⟩ := pre w9 Y9
    obtain ⟨u', e3, F3, q1, -⟩ := kk _ (TM_ft Y9 p1) p2 p3
    obtain ⟨w10, e6, M6⟩ := KK u' (p1.trans F3)
    refine ⟨v, w9, w10, ?_, ?_, M6⟩
    · rw [C_perf w e2, if_pos rfl, e5]
    · rw [ref2 _ Y9, e3, ob2_id, M_does u' hc, ← e6]
      refine dsr_cong hc (fun j hj => ?_)
      have m3 := mmn_le c
      have a1 := q1 j (by omega) hj
      have a2 := hv1 j (by omega) hj
      obtain rfl | rfl | rfl : j = 0 ∨ j = 1 ∨ j = 2 := by omega
      · exact a1.trans a2.symm
      · exact a1.trans a2.symm
      · exact a1.trans a2.symm
end PFM
