/-! PURE PART: runs of steps and starts, on both sides -/
noncomputable def nxd (a : Nat → Nat) : Nat := a (40 * nx a 6 + a (568 + nx a 6))
noncomputable def nxt (a : Nat → Nat) : Nat → Nat := up (stf a (nx a 6) (nxd a)) 562 (@ite Nat (ov (stf a (nx a 6) (nxd a))) (Classical.propDecidable _) 1 0)
noncomputable def itr : (Nat → Nat) → Nat → (Nat → Nat)
  | a, 0 => a
  | a, n + 1 => itr (nxt a) n
/-- how many steps there are, at most k -/
noncomputable def run : (Nat → Nat) → Nat → Nat
  | _, 0 => 0
  | a, k + 1 => @ite Nat (ov a) (Classical.propDecidable _) 0 (run (nxt a) k + 1)
theorem run_o {a : Nat → Nat} {k : Nat} (h : ov a) : run a (k + 1) = 0 := by rw [run, if_pos h]
theorem run_n {a : Nat → Nat} {k : Nat} (h : ¬ ov a) : run a (k + 1) = run (nxt a) k + 1 := by rw [run, if_neg h]
theorem run_le : ∀ (k : Nat) (a : Nat → Nat), run a k ≤ k := by
  intro k
  induction k with
  | zero => intro a; exact Nat.le_refl _
  | succ k ih =>
    intro a
    by_cases h : ov a
    · rw [run_o h]; omega
    · rw [run_n h]; have := ih (nxt a); omega
def GR (a : Nat → Nat) : Prop := IO a ∧ IR a
theorem OC_ag {w : Wd} {o : Nat} {a b : Nat → Nat} (h : ∀ k, k < 559 → b k = a k) (I : IO a) (O : OC w o a) : OC w o b := by
  have hs : ∀ l d, l < 6 → scr b l d = scr a l d := fun l d hl => by
    have hz := (I.1 l hl).1
    unfold scr
    rw [h (480 + l) (by omega)]
    exact sm_cong (fun p hp => by rw [h (40 * l + p) (by omega), h (240 + 40 * l + p) (by omega)])
  refine ⟨fun l hl => ?_, fun l p hl hp => ?_, fun l e hl he => ?_, fun l hl => ?_, fun l hl => ?_, ?_, ?_⟩
  · rw [h _ (by omega)]; exact O.1 l hl
  · have := (I.1 l hl).1
    rw [h (480 + l) (by omega)] at hp
    rw [h _ (by omega)]; exact O.2.1 l p hl hp
  · rw [hs l e hl]; exact O.2.2.1 l e hl he
  · rw [h _ (by omega)]; exact O.2.2.2.1 l hl
  · rw [h _ (by omega)]; exact O.2.2.2.2.1 l hl
  · rw [O.2.2.2.2.2.1]
    congr 1
    unfold gs
    exact sm_cong (fun e he => by rw [h _ (by omega)])
  · rw [h _ (by omega)]; exact O.2.2.2.2.2.2
theorem ZA_ag {z : Nat → Int32} {a b : Nat → Nat} (h : ∀ k, k < 706 → b k = a k) (Z : ZA z a) : ZA z b := ⟨fun k hk h2 => by rw [h k hk]; exact Z.1 k hk h2, by rw [h 563 (by omega)]; exact Z.2⟩
theorem not_ov {a : Nat → Nat} (h : ¬ ov a) : ∃ l, l < 6 ∧ canr a l := by
  apply Classical.byContradiction
  intro z
  exact h (Or.inl (fun l hl y => z ⟨l, hl, y⟩))
theorem nx_facts {a : Nat → Nat} (G : GR a) (h : ¬ ov a) : nx a 6 < 6 ∧ canr a (nx a 6) ∧ nxd a < 60 ∧ ST a (stf a (nx a 6) (nxd a)) (nx a 6) (nxd a) ∧ ST a (nxt a) (nx a 6) (nxd a) := by
  have h1 := nx_some G.2.1.2.2.2.2.2.2.2.2.2.1 (not_ov h)
  have h2 : nxd a < 60 := (G.1.2.1 _ _ h1.1 h1.2.2).1
  have S := ST_stf (a := a) h1.1 h2 (G.2.1.2.1 _ h2)
  exact ⟨h1.1, h1.2, h2, S, ST_flag h1.1 h2 S⟩
theorem GR_nxt {a : Nat → Nat} (G : GR a) (h : ¬ ov a) : GR (nxt a) := by
  obtain ⟨h1, h2, h3, S, T⟩ := nx_facts G h
  exact ⟨ST_IO T G.1, IR_flag (ST_IO S G.1) (ST_IR0 S G.1 G.2.1 h1 h2 rfl)⟩
theorem nxt_559 {a : Nat → Nat} (G : GR a) (h : ¬ ov a) : (∀ k, k < 560 → nxt a k = a k) ∧ nxt a 566 = a 566 := by
  obtain ⟨h1, h2, h3, S, T⟩ := nx_facts G h
  exact ⟨ST_560 T, T.2.1.2.2.2⟩
section RUN
variable {w : Wd} {a f : Nat → Nat} {m o r : Nat}
theorem C_one (O : OC w o a) (R : RC w r a f m) (G : GR a) (hov : r + 9 ≤ o ∨ o + 6 ≤ r) (h : ¬ ov a) : ∃ w' f' m', (∀ {ρ : Type} (K : Wd → Option ρ), ((fX2_nextList w r o).bind fun v4 => (fX2_readEntry w r o v4).bind K) = K w') ∧ Fr r (r + 9) w w' ∧ w'.1 r 0 = w.1 r 0 ∧ RC w' r (nxt a) f' m' ∧ OC w' o (nxt a) := by
  obtain ⟨h1, h2, h3, S, T⟩ := nx_facts G h
  obtain ⟨w', f', m', e, F, e0, R'⟩ := C_readEntry O R G.1 G.2.1 T hov h1 h2 rfl
  refine ⟨w', f', m', fun K => ?_, F, e0, R', OC_ag (fun k hk => (nxt_559 G h).1 k (by omega)) G.1 (OC_fr O G.1 F (by omega))⟩
  rw [C_nextList O R G.1 G.2.1 (not_ov h), ob_some, e, ob_some]
theorem C_goOn0 (lim : Nat) (hlim : lim ≤ 240) (hov : r + 9 ≤ o ∨ o + 6 ≤ r) : ∀ (k i n : Nat) (w : Wd) (a f : Nat → Nat) (m : Nat), i + k = lim → k < n → OC w o a → RC w r a f m → GR a → ∃ w' f' m', lX2_goOn_2 r o n w (nI lim) (nI i) = some (nI (i + run a k), w') ∧ Fr r (r + 9) w w' ∧ w'.1 r 0 = w.1 r 0 ∧ RC w' r (itr a (run a k)) f' m' ∧ OC w' o (itr a (run a k)) ∧ GR (itr a (run a k)) ∧ (∀ j, j ≤ run a k → ∃ f m, FR (itr a j) f m) ∧ (∀ j, j < 560 → itr a (run a k) j = a j) ∧ itr a (run a k) 566 = a 566 := by
  intro k
  induction k with
  | zero =>
    intro i n w a f m hi hn O R G
    obtain ⟨n, rfl⟩ : ∃ q, n = q + 1 := ⟨n - 1, by omega⟩
    refine ⟨w, f, m, ?_, Fr.rfl', rfl, R, O, G, fun j hj => ⟨f, m, ?_⟩, fun j _ => rfl, rfl⟩
    · rw [lX2_goOn_2, if_pos (by rw [nI_le_ (by omega) (by omega)]; omega)]
      rfl
    · have : j = 0 := Nat.le_zero.mp hj
      subst this
      exact R.2.2.2.2.2.2.2.2.2.2.2.2.2.2.2
  | succ k ih =>
    intro i n w a f m hi hn O R G
    obtain ⟨n, rfl⟩ : ∃ q, n = q + 1 := ⟨n - 1, by omega⟩
    have F0 : FR a f m := R.2.2.2.2.2.2.2.2.2.2.2.2.2.2.2
    rw [lX2_goOn_2, if_neg (by rw [nI_le_ (by omega) (by omega)]; omega), C_isOver O R G.1 G.2.1, ob_some]
    by_cases h : ov a
    · rw [if_pos h, if_neg (show ¬ (1 : Int32) = 0 by decide), run_o h]
      refine ⟨w, f, m, rfl, Fr.rfl', rfl, R, O, G, fun j hj => ⟨f, m, ?_⟩, fun j _ => rfl, rfl⟩
      have : j = 0 := Nat.le_zero.mp hj
      subst this
      exact F0
    · obtain ⟨w1, f1, m1, e1, F1, g0, R1, O1⟩ := C_one O R G hov h
      have h559 := nxt_559 G h
      rw [if_neg h, if_pos (show (0 : Int32) = 0 from rfl), e1, n1, nI_add, run_n h]
      obtain ⟨w2, f2, m2, e2, F2, g2, R2, O2, G2, c2, c3, c4⟩ := ih (i + 1) n w1 (nxt a) f1 m1 (by omega) (by omega) O1 R1 (GR_nxt G h)
      refine ⟨w2, f2, m2, ?_, F1.trans F2, g2.trans g0, R2, O2, G2, fun j hj => ?_, fun j hj => (c3 j hj).trans (h559.1 j hj), c4.trans h559.2⟩
      · rw [e2, show i + 1 + run (nxt a) k = i + (run (nxt a) k + 1) by omega]
      · cases j with
        | zero => exact ⟨f, m, F0⟩
        | succ j => exact c2 j (by omega)
theorem C_goOn {lim : Nat} (hlim : lim ≤ 240) (hov : r + 9 ≤ o ∨ o + 6 ≤ r) (O : OC w o a) (R : RC w r a f m) (G : GR a) : ∃ w' f' m', fX2_goOn w r o (nI lim) = some (nI (run a lim), w') ∧ Fr r (r + 9) w w' ∧ w'.1 r 0 = w.1 r 0 ∧ RC w' r (itr a (run a lim)) f' m' ∧ OC w' o (itr a (run a lim)) ∧ GR (itr a (run a lim)) ∧ (∀ j, j ≤ run a lim → ∃ f m, FR (itr a j) f m) ∧ (∀ j, j < 560 → itr a (run a lim) j = a j) ∧ itr a (run a lim) 566 = a 566 := by
  have := C_goOn0 (r := r) (o := o) lim hlim hov lim 0 4096 w a f m (by omega) (by omega) O R G
  rw [Nat.zero_add] at this
  exact this
/-! the reference -/
theorem M_one (Z : ZA (w.1 112) a) (G : GR a) (h : ¬ ov a) (F1 : ∃ f m, FR (nxt a) f m) : ∃ w', fX6_oneStep w 111 = some w' ∧ ZA (w'.1 112) (nxt a) ∧ Fm w w' := by
  obtain ⟨h1, h2, h3, S, T⟩ := nx_facts G h
  have G1 := GR_nxt G h
  have hr : ∀ {b : Nat → Nat}, IR0 b → ∀ l, l < 6 → b (568 + l) ≤ b (480 + l) := fun J l hl => (J.1 l hl).1
  obtain ⟨f, m, F⟩ := F1
  obtain ⟨w', b, e, Z', Sb, Jb, Fr'⟩ := M_oneStep Z G.1 G.2.1 rfl h1 h2 rfl (fun b Sb => ⟨f, m, ag_FR (ST_same h1 h3 Sb T) G1.1 (hr G1.2.1) F⟩)
  have same := ST_same h1 h3 T Sb
  refine ⟨w', e, ZA_ag (fun k hk => ?_) Z', Fr'⟩
  by_cases hk2 : k = 562
  · subst hk2
    have o1 := ag_ov same (ST_IO Sb G.1) (hr Jb.1)
    have p1 := G1.2.2
    have p2 := Jb.2
    have p3 : nxt a 562 = 1 ↔ b 562 = 1 := by rw [← p1.2, ← p2.2]; exact o1
    omega
  · exact same k hk hk2
theorem M_step0 (lim : Nat) (hlim : lim ≤ 240) : ∀ (k i n : Nat) (w : Wd) (a : Nat → Nat), i + k = lim → k < n → ZA (w.1 112) a → GR a → (∀ j, j ≤ run a k → ∃ f m, FR (itr a j) f m) → ∃ w', lX6_step_50 111 n w (nI lim) (nI i) = some (nI (i + run a k), w') ∧ Fm w w' ∧ ZA (w'.1 112) (itr a (run a k)) := by
  intro k
  induction k with
  | zero =>
    intro i n w a hi hn Z G HF
    obtain ⟨n, rfl⟩ : ∃ q, n = q + 1 := ⟨n - 1, by omega⟩
    refine ⟨w, ?_, Fm.rfl', Z⟩
    rw [lX6_step_50, if_pos (by rw [nI_le_ (by omega) (by omega)]; omega)]
    rfl
  | succ k ih =>
    intro i n w a hi hn Z G HF
    obtain ⟨n, rfl⟩ : ∃ q, n = q + 1 := ⟨n - 1, by omega⟩
    have p2 := G.2.2
    rw [lX6_step_50, if_neg (by rw [nI_le_ (by omega) (by omega)]; omega), n562, zl Z (by omega) (by omega), ob_some]
    by_cases h : ov a
    · rw [p2.2.mp h, if_neg (show ¬ nI 1 = 0 by decide), run_o h]
      exact ⟨w, rfl, Fm.rfl', Z⟩
    · have h0 : a 562 = 0 := by
        have : a 562 ≠ 1 := fun z => h (p2.2.mpr z)
        omega
      rw [run_n h] at HF
      have HF1 : ∀ j, j ≤ run (nxt a) k → ∃ f m, FR (itr (nxt a) j) f m := fun j hj => HF (j + 1) (by omega)
      obtain ⟨w1, e1, Z1, F1⟩ := M_one Z G h (HF1 0 (by omega))
      obtain ⟨w2, e2, F2, Z2⟩ := ih (i + 1) n w1 (nxt a) (by omega) (by omega) Z1 (GR_nxt G h) HF1
      rw [h0, if_pos (show nI 0 = 0 from rfl), e1, ob_some, n1, nI_add, run_n h]
      refine ⟨w2, ?_, F1.trans F2, Z2⟩
      rw [e2, show i + 1 + run (nxt a) k = i + (run (nxt a) k + 1) by omega]
/-- what is asked of a whole reading, and the row put back -/
def TR (w : Wd) (x : Int32) : Option (Int32 × Wd) := if x = 0 then
          (ldI 706 w 112 564).bind fun v24 =>
          lX6_tried_120 111 4096 w v24 0
        else
          if x = 1 then
            (fX6_cost w 111).bind fun v23 =>
            lX6_tried_120 111 4096 w v23 0
          else
            if x = 2 then
              ob2 (fX6_toldNotWanted w 111) fun v21 w22 =>
              lX6_tried_120 111 4096 w22 v21 0
            else
              (fX6_sumOf w 111 574).bind fun v20 =>
              lX6_tried_120 111 4096 w v20 0
theorem M_tried0 (x : Int32) : ∀ (k i n : Nat) (w : Wd) (a : Nat → Nat), i + k = 240 → k < n → ZA (w.1 112) a → GR a → (∀ j, j ≤ run a k → ∃ f m, FR (itr a j) f m) → ∃ w', lX6_tried_40 111 n w x (nI i) = TR w' x ∧ Fm w w' ∧ ZA (w'.1 112) (itr a (run a k)) := by
  intro k
  induction k with
  | zero =>
    intro i n w a hi hn Z G HF
    obtain ⟨n, rfl⟩ : ∃ q, n = q + 1 := ⟨n - 1, by omega⟩
    refine ⟨w, ?_, Fm.rfl', Z⟩
    rw [lX6_tried_40, if_pos (by rw [n240, nI_le_ (by omega) (by omega)]; omega)]
    rfl
  | succ k ih =>
    intro i n w a hi hn Z G HF
    obtain ⟨n, rfl⟩ : ∃ q, n = q + 1 := ⟨n - 1, by omega⟩
    have p2 := G.2.2
    rw [lX6_tried_40, if_neg (by rw [n240, nI_le_ (by omega) (by omega)]; omega), n562, zl Z (by omega) (by omega), ob_some]
    by_cases h : ov a
    · rw [p2.2.mp h, if_neg (show ¬ nI 1 = 0 by decide), run_o h]
      exact ⟨w, rfl, Fm.rfl', Z⟩
    · have h0 : a 562 = 0 := by
        have : a 562 ≠ 1 := fun z => h (p2.2.mpr z)
        omega
      rw [run_n h] at HF
      have HF1 : ∀ j, j ≤ run (nxt a) k → ∃ f m, FR (itr (nxt a) j) f m := fun j hj => HF (j + 1) (by omega)
      obtain ⟨w1, e1, Z1, F1⟩ := M_one Z G h (HF1 0 (by omega))
      obtain ⟨w2, e2, F2, Z2⟩ := ih (i + 1) n w1 (nxt a) (by omega) (by omega) Z1 (GR_nxt G h) HF1
      rw [h0, if_pos (show nI 0 = 0 from rfl), e1, ob_some, n1, nI_add, run_n h]
      exact ⟨w2, e2, F1.trans F2, Z2⟩
/-! the class begins a reading -/
theorem C_fill {k q : Nat} (hq : q < 4000) : ∃ w', fJ7_fill_53178 w k q 0 = some w' ∧ (∀ j, j < q → w'.1 k j = 0) ∧ (∀ i, i ≠ k → w'.1 i = w.1 i) ∧ w'.2 = w.2 := by
  refine loopI (fun n w' i => lJ7_fill_53178_5 k q n w' 0 (nI i) (nI q)) (fun i w' => (∀ j, j < i → w'.1 k j = 0) ∧ (∀ i, i ≠ k → w'.1 i = w.1 i) ∧ w'.2 = w.2) 0 q (by omega) (fun z => ∃ w', z = some w' ∧ (∀ j, j < q → w'.1 k j = 0) ∧ (∀ i, i ≠ k → w'.1 i = w.1 i) ∧ w'.2 = w.2) (fun n i w' hi hi2 hI => ?_) (fun n w' hI => ?_) 4096 w (by omega) ⟨fun j hj => by omega, fun _ _ => rfl, rfl⟩
  · obtain ⟨c1, c2, c3⟩ := hI
    refine ⟨sI w' k i 0, ⟨fun j hj => ?_, fun j hj => ?_, c3⟩, ?_⟩
    · rw [sI_1, if_pos rfl, upd_1]
      by_cases h : j = i
      · rw [if_pos h]
      · rw [if_neg h]; exact c1 j (by omega)
    · rw [sI_1, if_neg hj]; exact c2 j hj
    · show lJ7_fill_53178_5 k q (n + 1) w' 0 (nI i) (nI q) = _
      rw [lJ7_fill_53178_5, if_neg (by rw [nI_le_ (by omega) (by omega)]; omega), stI_n hi2 (by omega), ob_some, n1, nI_add]
  · refine ⟨w', ?_, hI⟩
    show lJ7_fill_53178_5 k q (n + 1) w' 0 (nI q) (nI q) = _
    rw [lJ7_fill_53178_5, if_pos (by rw [nI_le_ (by omega) (by omega)]; omega)]
theorem C_start {b : Nat → Nat} {v x : Nat} (O : OC w o a) (I : IO a) (S : SB a b v x) (hv : v ≤ 2) (hx : x ≤ 1) (hov : r + 9 ≤ o ∨ o + 6 ≤ r) : ∃ w', fX2_start w r o (nI v) (nI x) = some w' ∧ Fr r (r + 9) w w' ∧ bz (w'.1 r 0) = 1 ∧ RC w' r b (fun _ => 0) 0 ∧ OC w' o b := by
  have Ib : IO b := IO_559 I S.1 (by rw [S.2.2.2.1]; omega)
  have Jb := SB_IR0 S hv hx
  obtain ⟨s1, s2, s3, s4, s5, s6, s7, s8, s9, s10, s11⟩ := id S
  obtain ⟨w8, hw8⟩ : ∃ y, y = sI (sI (sI (sI (sI (sI (sI (sI w r 0 1) r 1 (nI v)) r 2 (nI x)) r 3 5) r 4 0) r 5 0) r 6 0) r 15 0 := ⟨_, rfl⟩
  have hxz : stZ (sI (sI w r 0 1) r 1 (nI v)) r 2 (nI x) = some (sI (sI (sI w r 0 1) r 1 (nI v)) r 2 (nI x)) := by
    unfold stZ
    rw [if_pos]
    obtain rfl | rfl : x = 0 ∨ x = 1 := by omega
    · exact Or.inl rfl
    · exact Or.inr rfl
  have fld : ∀ j, w8.1 r j = if j = 15 then 0 else if j = 6 then 0 else if j = 5 then 0 else if j = 4 then 0 else if j = 3 then 5 else if j = 2 then nI x else if j = 1 then nI v else if j = 0 then 1 else w.1 r j := fun j => by
    rw [hw8]
    simp only [sI_1, if_pos, upd_1]
  have r8 : ∀ k, k ≠ r → w8.1 k = w.1 k := fun k hk => by
    rw [hw8]
    simp only [sI_1, if_neg hk]
  have s8' : w8.2 = w.2 := by rw [hw8]; rfl
  obtain ⟨w9, e9, c9, g9, f9⟩ := C_fill (w := w8) (k := r + 1) (q := 6) (by omega)
  obtain ⟨w10, e10, c10, g10, f10⟩ := C_fill (w := w9) (k := r + 2) (q := 6) (by omega)
  obtain ⟨w11, e11, c11, g11, f11⟩ := C_fill (w := w10) (k := r + 5) (q := 60) (by omega)
  obtain ⟨w12, e12, c12, g12, f12⟩ := C_fill (w := w11) (k := r + 6) (q := 60) (by omega)
  have F12 : Fr r (r + 9) w w12 := by
    have h2 : w12.2 = w.2 := by rw [f12, f11, f10, f9, s8']
    exact ⟨fun k hk => by rw [g12 k (by omega), g11 k (by omega), g10 k (by omega), g9 k (by omega), r8 k (by omega)], fun k _ => by rw [h2], fun k _ => by rw [h2]⟩
  have h12r : w12.1 r = w8.1 r := by rw [g12 r (by omega), g11 r (by omega), g10 r (by omega), g9 r (by omega)]
  have h121 : ∀ j, j < 6 → w12.1 (r + 1) j = 0 := fun j hj => by rw [g12 _ (by omega), g11 _ (by omega), g10 _ (by omega)]; exact c9 j hj
  have h122 : ∀ j, j < 6 → w12.1 (r + 2) j = 0 := fun j hj => by rw [g12 _ (by omega), g11 _ (by omega)]; exact c10 j hj
  have h125 : ∀ j, j < 60 → w12.1 (r + 5) j = 0 := fun j hj => by rw [g12 _ (by omega)]; exact c11 j hj
  have hcg : cgt b = 0 := by
    unfold cgt
    refine sb_ext _ (bs_lt _ 6 (by omega)) _ (by omega) (fun k hk => ?_)
    rw [Bool.eq_iff_iff, bs_tb 6 (by omega) k hk, (s10 k hk).2.1]
    simp
  have O12 : OC w12 o b := OC_ag s1 I (OC_fr O I F12 (by omega))
  have loop : ∃ w', lX2_start_75 r o 4096 w12 0 = some w' ∧ Fr (r + 3) (r + 5) w12 w' ∧ (∀ k, k < 6 → w'.1 (r + 3) k = nI (bd b k)) ∧ (∀ k, k < 6 → w'.1 (r + 4) k = nI (tb b k)) := by
    refine loopI (fun n w' i => lX2_start_75 r o n w' (nI i)) (fun i w' => Fr (r + 3) (r + 5) w12 w' ∧ (∀ k, k < i → w'.1 (r + 3) k = nI (bd b k)) ∧ (∀ k, k < i → w'.1 (r + 4) k = nI (tb b k))) 0 6 (by omega) (fun z => ∃ w', z = some w' ∧ Fr (r + 3) (r + 5) w12 w' ∧ (∀ k, k < 6 → w'.1 (r + 3) k = nI (bd b k)) ∧ (∀ k, k < 6 → w'.1 (r + 4) k = nI (tb b k))) (fun n i w' hi hi2 hI => ?_) (fun n w' hI => ?_) 4096 w12 (by omega) ⟨Fr.rfl', fun j hj => by omega, fun j hj => by omega⟩
    · obtain ⟨F, k3, k4⟩ := hI
      obtain ⟨w2, e2, F2, d3, d4⟩ := C_findBounds (w := w') (r := r) (l := i) (OC_fr O12 Ib F (by omega)) Ib hov hi2 (by rw [F.1 _ (by omega), h121 i hi2, (s10 i hi2).1]; rfl) (by rw [(s10 i hi2).1]; omega) (by rw [F.1 r (by omega), h12r, fld, if_neg (by omega), if_pos rfl, hcg]; rfl)
      refine ⟨w2, ⟨F.trans F2, fun k hk => ?_, fun k hk => ?_⟩, ?_⟩
      · rw [d3]
        by_cases h : k = i
        · rw [if_pos h, h]
        · rw [if_neg h]; exact k3 k (by omega)
      · rw [d4]
        by_cases h : k = i
        · rw [if_pos h, h]
        · rw [if_neg h]; exact k4 k (by omega)
      · show lX2_start_75 r o (n + 1) w' (nI i) = _
        rw [lX2_start_75, if_neg (by rw [n6, nI_le_ (by omega) (by omega)]; omega), e2, ob_some, n1, nI_add]
    · refine ⟨w', ?_, hI⟩
      show lX2_start_75 r o (n + 1) w' (nI 6) = _
      rw [lX2_start_75, if_pos (by decide)]
  obtain ⟨w13, e13, F13, k3, k4⟩ := loop
  have h13r : ∀ j, w13.1 r j = w8.1 r j := fun j => by rw [F13.1 r (by omega), h12r]
  refine ⟨w13, ?_, F12.trans (F13.wide (by omega) (by omega)), ?_, ⟨?_, ?_, ?_, ?_, ?_, ?_, ?_, fun k hk => ?_, fun k hk => ?_, k3, k4, fun e he => ?_, fun e he => ?_, fun e he hs => ?_, fun p hp => by omega, SB_FR S _⟩, OC_fr O12 Ib F13 (by omega)⟩
  · unfold fX2_start
    rw [show stZ w r 0 1 = some (sI w r 0 1) from by unfold stZ; rw [if_pos (Or.inr rfl)], ob_some]
    unfold pI
    rw [ob_some, hxz, ob_some, ob_some, ob_some, ob_some, ob_some, ob_some, ← hw8, e9, ob_some, e10, ob_some, e11, ob_some, e12, ob_some]
    exact e13
  · rw [h13r, fld]; rfl
  · rw [h13r, fld, s6]
    exact bz_n hx
  · rw [h13r, fld, s5]; rfl
  · rw [h13r, fld, s7]; rfl
  · rw [h13r, fld, s8]; rfl
  · rw [h13r, fld, s9]; rfl
  · rw [h13r, fld, hcg]; rfl
  · rw [h13r, fld]; rfl
  · rw [F13.1 _ (by omega), h121 k hk, (s10 k hk).1]; rfl
  · rw [F13.1 _ (by omega), h122 k hk, (s10 k hk).2.2]; rfl
  · rw [F13.1 _ (by omega), h125 e he, (s11 e he).2]; rfl
  · rw [F13.1 _ (by omega), c12 e he]
    have : lowk b e = 0 := sm_zero (fun l hl => by rw [(s11 e he).2, if_neg (by simp)])
    rw [this]; rfl
  · unfold sn at hs
    rw [(s11 e he).1] at hs
    omega
end RUN
