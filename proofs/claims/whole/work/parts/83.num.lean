/-! PURE PART: numbers in the text -/
section NUM
variable {w w1 w2 u : Wd} {n : Nat} {t : Nat → Nat}
theorem n10 : (10 : Int32) = nI 10 := rfl
theorem n48 : (48 : Int32) = nI 48 := rfl
theorem n32 : (32 : Int32) = nI 32 := rfl
theorem D14 (X : TX w n t) (V : TV n t) {q x : Nat} (hq : q < 1000) (hx : x < 3) (N : Nat) : lX4_digitsFrom_14 99 (N + 1) w (nI q) (nI x) = @ite _ (dg (sg n t (q + x))) (Classical.propDecidable _) (lX4_digitsFrom_14 99 N w (nI q) (nI (x + 1))) (some (nI x)) := by
  have h40 := V.1
  have hs := sg_lt V (q + x)
  rw [lX4_digitsFrom_14, if_neg (by rw [n3, nI_le_ (by omega) (by omega)]; omega), nI_add, C_sg X V (by omega), ob_some, C_dg _ hs, ob_some, n1, nI_add]
  by_cases h : dg (sg n t (q + x))
  · rw [if_pos h, if_pos h, if_neg (by decide)]
  · rw [if_neg h, if_neg h, if_pos rfl]
theorem D14e {q : Nat} (N : Nat) : lX4_digitsFrom_14 99 (N + 1) w (nI q) (nI 3) = some (nI 3) := by
  rw [lX4_digitsFrom_14, if_pos (by decide)]
theorem N5 (X : TX w n t) (V : TV n t) {q d v x : Nat} (hd : x < d) (hd3 : d ≤ 3) (hv : v ≤ 999) (hg : dg (sg n t (q + x))) (N : Nat) : lX4_numberFrom_5 99 (N + 1) w (nI q) (nI d) (nI v) (nI x) = lX4_numberFrom_5 99 N w (nI q) (nI d) (nI (10 * v + (t (q + x) - 48))) (nI (x + 1)) := by
  have h40 := V.1
  have hg2 := dg_in hg
  have g1 := hg2.2.1
  have g2 := hg2.2.2
  have es : sg n t (q + x) = t (q + x) := by rw [sg, if_pos hg2.1]
  rw [lX4_numberFrom_5, if_neg (by rw [nI_le_ (by omega) (by omega)]; omega), nI_add, C_sg X V (by omega), ob_some, es, n1, nI_add, n10, n48, nI_mul, nI_sub g1, nI_add]
theorem N5e {q d v : Nat} (N : Nat) : lX4_numberFrom_5 99 (N + 1) w (nI q) (nI d) (nI v) (nI d) = some (nI v) := by
  rw [lX4_numberFrom_5, if_pos Int32.le_rfl]
theorem ft_9 (x : Int32) : FT u (sI u 111 9 x) := ⟨fun k h1 h2 h3 h4 => by rw [sI_1, if_neg h3], rfl, by rw [sI_1, if_neg (by omega)], fun j hj => by rw [sI_1, if_pos rfl, upd_1, if_neg (by omega)]⟩
theorem ft_10 (x : Int32) : FT u (sI u 111 10 x) := ⟨fun k h1 h2 h3 h4 => by rw [sI_1, if_neg h3], rfl, by rw [sI_1, if_neg (by omega)], fun j hj => by rw [sI_1, if_pos rfl, upd_1, if_neg (by omega)]⟩
theorem ft_118 (j : Nat) (x : Int32) : FT u (sI u 118 j x) := ⟨fun k h1 h2 h3 h4 => by rw [sI_1, if_neg h4], rfl, by rw [sI_1, if_neg (by omega)], fun j hj => by rw [sI_1, if_neg (by omega)]⟩
theorem ft_101 (j : Nat) (x : Int32) : FT u (sI u 101 j x) := ⟨fun k h1 h2 h3 h4 => by rw [sI_1, if_neg h2], rfl, by rw [sI_1, if_neg (by omega)], fun j hj => by rw [sI_1, if_neg (by omega)]⟩
theorem ft_99 (x : Int32) : FT u (sI u 99 2 x) := ⟨fun k h1 h2 h3 h4 => by rw [sI_1, if_neg h1], rfl, by rw [sI_1, if_pos rfl, upd_1, if_neg (by omega)], fun j hj => by rw [sI_1, if_neg (by omega)]⟩
/-- one digit more, in the reference -/
theorem M78 (Y : TM u n t) (V : TV n t) {q x1 v x : Nat} (h9 : u.1 111 9 = nI q) (hg : dg (sg n t q)) (hx : x < 3) (hv : v ≤ 99) (N : Nat) : lX6_readNumber_78 111 (N + 1) u (nI x1) (nI v) (nI x) 1 = lX6_readNumber_78 111 N (sI u 111 9 (nI (q + 1))) (nI x1) (nI (10 * v + (t q - 48))) (nI (x + 1)) (@ite Int32 (0 < 10 * v + (t q - 48) ∧ dg (sg n t (q + 1))) (Classical.propDecidable _) 1 0) := by
  have h40 := V.1
  have hg2 := dg_in hg
  have g1 := hg2.2.1
  have g2 := hg2.2.2
  have e9 : u.1 111 9 + 1 = nI (q + 1) := by rw [h9, n1, nI_add]
  have Y2 : TM (sI u 111 9 (nI (q + 1))) n t := TM_ft Y (ft_9 _)
  have h9' : (sI u 111 9 (nI (q + 1))).1 111 9 = nI (q + 1) := by rw [sI_1, if_pos rfl, upd_1, if_pos rfl]
  have ev : 10 * nI v + nI (t q) - 48 = nI (10 * v + (t q - 48)) := by
    rw [n10, n48, nI_mul, nI_add, nI_sub (by omega)]
    exact congrArg nI (by omega)
  rw [lX6_readNumber_78, if_neg (by decide), if_neg (by rw [n3, nI_le_ (by omega) (by omega)]; omega), h9, M_let Y V (by omega), if_pos hg2.1, ob_some]
  unfold pI
  rw [ob_some, ev, n1, nI_add, nI_add, h9', M_let Y2 V (by omega), ob_some, M_dgl V (q + 1), ob_some]
  by_cases h0 : 0 < 10 * v + (t q - 48)
  · rw [if_neg (by rw [l0, nI_le_ (by omega) (by omega)]; omega)]
    by_cases h1 : dg (sg n t (q + 1))
    · rw [if_pos h1, if_neg (show ¬ (1 : Int32) = 0 by decide), if_pos (show _ ∧ _ from ⟨h0, h1⟩)]
    · rw [if_neg h1, if_pos rfl, if_neg (show ¬ (_ ∧ _) from fun z => h1 z.2)]
  · rw [if_pos (by rw [l0, nI_le_ (by omega) (by omega)]; omega), if_neg (fun z => h0 z.1)]
theorem M78e {x1 v : Nat} (x : Int32) (hx : x1 < 3) (N : Nat) : lX6_readNumber_78 111 (N + 1) u (nI x1) (nI v) x 0 = some (sI u 118 x1 (nI v)) := by
  rw [lX6_readNumber_78, if_pos rfl, stI_n hx (by omega), ob_some]
theorem M78f {x1 v : Nat} (y : Int32) (hx : x1 < 3) (N : Nat) : lX6_readNumber_78 111 (N + 1) u (nI x1) (nI v) (nI 3) y = some (sI u 118 x1 (nI v)) := by
  rw [lX6_readNumber_78]
  by_cases h : y = 0
  · rw [if_pos h, stI_n hx (by omega), ob_some]
  · rw [if_neg h, if_pos (by decide), stI_n hx (by omega), ob_some]
def NR (u u' : Wd) (n : Nat) (t : Nat → Nat) (q x1 v : Nat) : Prop := FT u u' ∧ u'.1 111 9 = nI q ∧ u'.1 111 10 = u.1 111 10 ∧ ∀ j, u'.1 118 j = if j = x1 then nI v else u.1 118 j
theorem NR_9 {u' : Wd} {q q' x1 v : Nat} (h : NR (sI u 111 9 (nI q')) u' n t q x1 v) : NR u u' n t q x1 v := by
  obtain ⟨h1, h2, h3, h4⟩ := h
  refine ⟨(ft_9 _).trans h1, h2, ?_, fun j => ?_⟩
  · rw [h3, sI_1, if_pos rfl, upd_1, if_neg (by omega)]
  · rw [h4, sI_1, if_neg (show ¬ 118 = 111 by omega)]
theorem NR_end {q x1 v : Nat} (h9 : u.1 111 9 = nI q) : NR u (sI u 118 x1 (nI v)) n t q x1 v :=
  ⟨ft_118 _ _, by rw [sI_1, if_neg (by omega)]; exact h9, by rw [sI_1, if_neg (by omega)], fun j => by rw [sI_1, if_pos rfl, upd_1]⟩
/-- a number, both ways -/
theorem number (V : TV n t) {q : Nat} (hg : dg (sg n t q)) : ∃ d v, 1 ≤ d ∧ d ≤ 3 ∧ q + d ≤ n ∧ (∀ w, TX w n t → fX4_digitsFrom w 99 (nI q) = some (nI d) ∧ fX4_numberFrom w 99 (nI q) (nI d) = some (nI v)) ∧ ∀ u x1, x1 < 3 → TM u n t → u.1 111 9 = nI q → ∃ u', lX6_readNumber_78 111 4096 u (nI x1) 0 0 1 = some u' ∧ NR u u' n t (q + d) x1 v := by
  have h40 := V.1
  have g0 := dg_in hg
  have g1 := g0.2.1
  have g2 := g0.2.2
  have e0 : sg n t q = t q := by rw [sg, if_pos g0.1]
  have hgo : dg (sg n t (q + 0)) := hg
  have dF : ∀ w, TX w n t → fX4_digitsFrom w 99 (nI q) = if t q = 48 then some 1 else lX4_digitsFrom_14 99 4096 w (nI q) (nI 0) := fun w X => by
    unfold fX4_digitsFrom
    rw [C_sg X V (by omega), ob_some, e0, n48]
    by_cases h : t q = 48
    · rw [if_pos h, if_pos (by rw [h])]
    · rw [if_neg h, if_neg (by rw [nI_eq_ (by omega) (by omega)]; exact h)]
      rfl
  have nF : ∀ w d, fX4_numberFrom w 99 (nI q) (nI d) = lX4_numberFrom_5 99 4096 w (nI q) (nI d) (nI 0) (nI 0) := fun w d => rfl
  have rF : ∀ u x1, lX6_readNumber_78 111 4096 u (nI x1) 0 0 1 = lX6_readNumber_78 111 4096 u (nI x1) (nI 0) (nI 0) 1 := fun u x1 => rfl
  have at9 : ∀ (u : Wd) (p : Nat), (sI u 111 9 (nI p)).1 111 9 = nI p := fun u p => by rw [sI_1, if_pos rfl, upd_1, if_pos rfl]
  have c1 : (0 : Nat) < 10 * 0 + (t q - 48) ↔ t q ≠ 48 := by omega
  by_cases h48 : t q = 48
  · refine ⟨1, 10 * 0 + (t q - 48), by omega, by omega, by omega, fun w X => ⟨by rw [dF w X, if_pos h48]; rfl, by rw [nF, N5 X V (by omega) (by omega) (by omega) hgo, Nat.add_zero, N5e]⟩, fun u x1 hx1 Y h9 => ?_⟩
    rw [rF, M78 Y V h9 hg (by omega) (by omega), if_neg (fun z => by omega), M78e _ hx1]
    exact ⟨_, rfl, NR_9 (NR_end (at9 _ _))⟩
  by_cases hg1 : dg (sg n t (q + 1))
  rotate_left
  · refine ⟨1, 10 * 0 + (t q - 48), by omega, by omega, by omega, fun w X => ⟨by rw [dF w X, if_neg h48, D14 X V (by omega) (by omega), if_pos hgo, D14 X V (by omega) (by omega), if_neg hg1], by rw [nF, N5 X V (by omega) (by omega) (by omega) hgo, Nat.add_zero, N5e]⟩, fun u x1 hx1 Y h9 => ?_⟩
    rw [rF, M78 Y V h9 hg (by omega) (by omega), if_neg (fun z => hg1 z.2), M78e _ hx1]
    exact ⟨_, rfl, NR_9 (NR_end (at9 _ _))⟩
  have k1 := dg_in hg1
  have k11 := k1.2.1
  have k12 := k1.2.2
  by_cases hg2 : dg (sg n t (q + 2))
  rotate_left
  · refine ⟨2, 10 * (10 * 0 + (t q - 48)) + (t (q + 1) - 48), by omega, by omega, by omega, fun w X => ⟨by rw [dF w X, if_neg h48, D14 X V (by omega) (by omega), if_pos hgo, D14 X V (by omega) (by omega), if_pos hg1, D14 X V (by omega) (by omega), if_neg hg2], by rw [nF, N5 X V (by omega) (by omega) (by omega) hgo, Nat.add_zero, N5 X V (by omega) (by omega) (by omega) hg1, N5e]⟩, fun u x1 hx1 Y h9 => ?_⟩
    rw [rF, M78 Y V h9 hg (by omega) (by omega), if_pos ⟨by omega, hg1⟩, M78 (TM_ft Y (ft_9 _)) V (at9 _ _) hg1 (by omega) (by omega), if_neg (fun z => hg2 z.2), M78e _ hx1]
    exact ⟨_, rfl, NR_9 (NR_9 (NR_end (at9 _ _)))⟩
  have k2 := dg_in hg2
  have k21 := k2.2.1
  have k22 := k2.2.2
  refine ⟨3, 10 * (10 * (10 * 0 + (t q - 48)) + (t (q + 1) - 48)) + (t (q + 2) - 48), by omega, by omega, by omega, fun w X => ⟨by rw [dF w X, if_neg h48, D14 X V (by omega) (by omega), if_pos hgo, D14 X V (by omega) (by omega), if_pos hg1, D14 X V (by omega) (by omega), if_pos hg2, D14e], by rw [nF, N5 X V (by omega) (by omega) (by omega) hgo, Nat.add_zero, N5 X V (by omega) (by omega) (by omega) hg1, N5 X V (by omega) (by omega) (by omega) hg2, N5e]⟩, fun u x1 hx1 Y h9 => ?_⟩
  rw [rF, M78 Y V h9 hg (by omega) (by omega), if_pos ⟨by omega, hg1⟩, M78 (TM_ft Y (ft_9 _)) V (at9 _ _) hg1 (by omega) (by omega), if_pos ⟨by omega, hg2⟩, M78 (TM_ft (TM_ft Y (ft_9 _)) (ft_9 _)) V (at9 _ _) hg2 (by omega) (by omega), M78f _ hx1]
  exact ⟨_, rfl, NR_9 (NR_9 (NR_9 (NR_end (at9 _ _))))⟩
/-- one number after a blank, in the reference -/
theorem M_num (Y : TM u n t) (V : TV n t) {q i : Nat} (hi : i < 3) (hq : q ≤ n) (h9 : u.1 111 9 = nI q) (h10 : u.1 111 10 = 0) :
    (sg n t q ≠ 32 → ∃ u', fX6_readNumber u 111 (nI i) = some u' ∧ FT u u' ∧ u'.1 111 9 = nI q ∧ u'.1 111 10 = 1) ∧
    (sg n t q = 32 → ¬ dg (sg n t (q + 1)) → ∃ u', fX6_readNumber u 111 (nI i) = some u' ∧ FT u u' ∧ u'.1 111 9 = nI (q + 1) ∧ u'.1 111 10 = 1) ∧
    (sg n t q = 32 → dg (sg n t (q + 1)) → ∃ u1, fX6_readNumber u 111 (nI i) = lX6_readNumber_78 111 4096 u1 (nI i) 0 0 1 ∧ FT u u1 ∧ u1.1 111 9 = nI (q + 1) ∧ u1.1 111 10 = 0 ∧ u1.1 118 = u.1 118) := by
  have h40 := V.1
  have el : (if q < n then nI (t q) else -1) = (32 : Int32) ↔ sg n t q = 32 := by
    unfold sg
    by_cases h : q < n
    · have := V.2 q h
      rw [if_pos h, if_pos h, n32, nI_eq_ (by omega) (by omega)]
    · rw [if_neg h, if_neg h]
      exact ⟨fun z => absurd z (by decide), fun z => absurd z (by omega)⟩
  have z1 : ∀ w : Wd, stZ w 111 10 1 = some (sI w 111 10 1) := fun w => by unfold stZ; rw [if_pos (Or.inr rfl)]
  have z0 : ∀ w : Wd, stZ w 111 10 0 = some (sI w 111 10 0) := fun w => by unfold stZ; rw [if_pos (Or.inl rfl)]
  have v10 : ∀ (w : Wd) (x : Int32), (sI w 111 10 x).1 111 10 = x := fun w x => by rw [sI_1, if_pos rfl, upd_1, if_pos rfl]
  have v9 : ∀ (w : Wd) (x : Int32), (sI w 111 10 x).1 111 9 = w.1 111 9 := fun w x => by rw [sI_1, if_pos rfl, upd_1, if_neg (by omega)]
  have y9 : ∀ (w : Wd) (x : Int32), (sI w 111 9 x).1 111 9 = x := fun w x => by rw [sI_1, if_pos rfl, upd_1, if_pos rfl]
  have b1 : ¬ bz (1 : Int32) = 0 := by decide
  have b0 : bz (0 : Int32) = 0 := by decide
  have hl := M_let Y V (i := q) (by omega)
  refine ⟨fun hn => ?_, fun h32 hnd => ?_, fun h32 hd => ?_⟩
  · refine ⟨sI u 111 10 1, ?_, ft_10 _, by rw [v9]; exact h9, v10 _ _⟩
    unfold fX6_readNumber
    rw [h9, hl, ob_some, if_neg (fun z => hn (el.mp z)), z1, ob_some, v10, if_neg b1]
  · have hl2 : fX6_letter (sI (sI u 111 10 0) 111 9 (nI (q + 1))) 111 (nI (q + 1)) = _ := M_let (TM_ft (TM_ft Y (ft_10 _)) (ft_9 _)) V (i := q + 1) (by omega)
    refine ⟨sI (sI (sI u 111 10 0) 111 9 (nI (q + 1))) 111 10 1, ?_, ((ft_10 _).trans (ft_9 _)).trans (ft_10 _), by rw [v9, y9], v10 _ _⟩
    unfold fX6_readNumber
    rw [h9, hl, ob_some, if_pos (el.mpr h32), z0, ob_some, v10, if_pos b0, v9, h9, n1, nI_add]
    unfold pI
    rw [ob_some, y9, hl2, ob_some, M_dgl V (q + 1), ob_some, if_neg hnd, if_pos rfl, ← n1, z1, ob_some, v10, if_neg b1]
  · have hl2 : fX6_letter (sI (sI u 111 10 0) 111 9 (nI (q + 1))) 111 (nI (q + 1)) = _ := M_let (TM_ft (TM_ft Y (ft_10 _)) (ft_9 _)) V (i := q + 1) (by omega)
    refine ⟨sI (sI (sI u 111 10 0) 111 9 (nI (q + 1))) 111 10 0, ?_, ((ft_10 _).trans (ft_9 _)).trans (ft_10 _), by rw [v9, y9], v10 _ _, by rw [sI_1, if_neg (by omega), sI_1, if_neg (by omega), sI_1, if_neg (by omega)]⟩
    unfold fX6_readNumber
    rw [h9, hl, ob_some, if_pos (el.mpr h32), z0, ob_some, v10, if_pos b0, v9, h9, n1, nI_add]
    unfold pI
    rw [ob_some, y9, hl2, ob_some, M_dgl V (q + 1), ob_some, if_pos hd, if_neg (show ¬ (1 : Int32) = 0 by decide), z0, ob_some, v10, if_pos b0]
end NUM
