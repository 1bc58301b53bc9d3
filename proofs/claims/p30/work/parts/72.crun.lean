/-! PURE PART: the class reads an entry, begins, goes on -/
noncomputable def stf (a : Nat → Nat) (l d : Nat) : Nat → Nat := fun k =>
  if k = 563 then l + 1 else if k = 564 then a 564 + 1 else if k = 565 then a 565 + a (498 + d) else if k = 567 then a 567 + (if tb a l < bd a l then 1 else 0)
  else if k = 568 + l then a k + 1 else if k = 574 + l ∧ tb a l < bd a l then 1
  else if 580 ≤ k ∧ k < 586 then a k + @ite Nat (a (498 + d) = 0 ∧ lku a l d (k - 580)) (Classical.propDecidable _) 1 0
  else if k = 586 + d ∧ a (498 + d) = 0 ∧ a (586 + d) = 0 then a 564 + 1
  else if k = 646 + d ∧ a (498 + d) = 0 then ors (a (646 + d) ||| 2 ^ l) (lku a l d) 6 else a k
theorem stf_n {a : Nat → Nat} {l d k : Nat} (hl : l < 6) (hd : d < 60) (h : k < 563 ∨ k = 566 ∨ (568 ≤ k ∧ k < 580 ∧ k ≠ 568 + l ∧ ¬ (k = 574 + l ∧ tb a l < bd a l)) ∨ (586 ≤ k ∧ k ≠ 586 + d ∧ k ≠ 646 + d) ∨ (586 ≤ k ∧ a (498 + d) ≠ 0) ∨ (k = 586 + d ∧ a (586 + d) ≠ 0)) : stf a l d k = a k := by
  unfold stf
  rw [if_neg (by omega), if_neg (by omega), if_neg (by omega), if_neg (by omega), if_neg (by omega), if_neg (by omega), if_neg (by omega), if_neg (by omega), if_neg (by omega)]
theorem ST_stf {a : Nat → Nat} {l d : Nat} (hl : l < 6) (hd : d < 60) (hx : a (646 + d) < 64) : ST a (stf a l d) l d := by
  have hK := sb_lt _ hx l hl
  refine ⟨fun k hk => stf_n hl hd (by omega), ⟨stf_n hl hd (by omega), stf_n hl hd (by omega), stf_n hl hd (by omega), stf_n hl hd (by omega)⟩, ⟨?_, ?_, ?_, ?_⟩, fun m hm => ?_, fun m hm => ?_, fun m hm => ?_, fun e he hne => ⟨stf_n hl hd (by omega), stf_n hl hd (by omega)⟩, fun z => ⟨stf_n hl hd (by omega), stf_n hl hd (by omega)⟩, fun z => ⟨?_, ?_, fun k hk => ?_⟩⟩
  · unfold stf; rw [if_pos rfl]
  · unfold stf; rw [if_neg (by omega), if_pos rfl]
  · unfold stf; rw [if_neg (by omega), if_neg (by omega), if_pos rfl]
  · unfold stf; rw [if_neg (by omega), if_neg (by omega), if_neg (by omega), if_pos rfl]
  · by_cases h : m = l
    · unfold stf; rw [if_neg (by omega), if_neg (by omega), if_neg (by omega), if_neg (by omega), if_pos (by omega), if_pos h]
    · rw [if_neg h]; exact stf_n hl hd (by omega)
  · by_cases h : m = l ∧ tb a l < bd a l
    · unfold stf; rw [if_neg (by omega), if_neg (by omega), if_neg (by omega), if_neg (by omega), if_neg (by omega), if_pos (by omega), if_pos h]
    · rw [if_neg h]; exact stf_n hl hd (by omega)
  · unfold stf
    rw [if_neg (by omega), if_neg (by omega), if_neg (by omega), if_neg (by omega), if_neg (by omega), if_neg (by omega), if_pos (by omega), Nat.add_sub_cancel_left]
  · by_cases h : a (586 + d) = 0
    · unfold stf; rw [if_neg (by omega), if_neg (by omega), if_neg (by omega), if_neg (by omega), if_neg (by omega), if_neg (by omega), if_neg (by omega), if_pos (by omega), if_pos h]
    · rw [if_neg h]; exact stf_n hl hd (by omega)
  · unfold stf
    rw [if_neg (by omega), if_neg (by omega), if_neg (by omega), if_neg (by omega), if_neg (by omega), if_neg (by omega), if_neg (by omega), if_neg (by omega), if_pos (by omega)]
    exact ors_lt hK _ 6 (by omega)
  · have e : stf a l d (646 + d) = ors (a (646 + d) ||| 2 ^ l) (lku a l d) 6 := by
      unfold stf
      rw [if_neg (by omega), if_neg (by omega), if_neg (by omega), if_neg (by omega), if_neg (by omega), if_neg (by omega), if_neg (by omega), if_neg (by omega), if_pos (by omega)]
    rw [e, ors_tb hK 6 (by omega) k hk, sb_tb _ hx l hl k hk]
    simp only [Bool.or_eq_true, decide_eq_true_eq]
    constructor
    · rintro ((z | z) | z)
      · exact Or.inl z
      · exact Or.inr (Or.inl z)
      · exact Or.inr (Or.inr z.2)
    · rintro (z | z | z)
      · exact Or.inl (Or.inl z)
      · exact Or.inl (Or.inr z)
      · exact Or.inr ⟨hk, z⟩
/-- two rows that a step may leave say the same, but for the flag -/
theorem ST_same {a b c : Nat → Nat} {l d : Nat} (hl : l < 6) (hd : d < 60) (S : ST a b l d) (T : ST a c l d) : ∀ k, k < 706 → k ≠ 562 → b k = c k := by
  obtain ⟨s1, s2, s3, s4, s5, s6, s7, s8, s9⟩ := S
  obtain ⟨t1, t2, t3, t4, t5, t6, t7, t8, t9⟩ := T
  intro k hk hk2
  by_cases h1 : k < 559
  · rw [s1 k h1, t1 k h1]
  by_cases h2 : k < 568
  · have : k = 559 ∨ k = 560 ∨ k = 561 ∨ k = 563 ∨ k = 564 ∨ k = 565 ∨ k = 566 ∨ k = 567 := by omega
    rcases this with z | z | z | z | z | z | z | z <;> subst z
    · rw [s2.1, t2.1]
    · rw [s2.2.1, t2.2.1]
    · rw [s2.2.2.1, t2.2.2.1]
    · rw [s3.1, t3.1]
    · rw [s3.2.1, t3.2.1]
    · rw [s3.2.2.1, t3.2.2.1]
    · rw [s2.2.2.2, t2.2.2.2]
    · rw [s3.2.2.2, t3.2.2.2]
  by_cases h3 : k < 574
  · obtain ⟨m, rfl⟩ : ∃ m, k = 568 + m := ⟨k - 568, by omega⟩
    rw [s4 m (by omega), t4 m (by omega)]
  by_cases h4 : k < 580
  · obtain ⟨m, rfl⟩ : ∃ m, k = 574 + m := ⟨k - 574, by omega⟩
    rw [s5 m (by omega), t5 m (by omega)]
  by_cases h5 : k < 586
  · obtain ⟨m, rfl⟩ : ∃ m, k = 580 + m := ⟨k - 580, by omega⟩
    rw [s6 m (by omega), t6 m (by omega)]
  by_cases h6 : k < 646
  · obtain ⟨e, rfl⟩ : ∃ e, k = 586 + e := ⟨k - 586, by omega⟩
    by_cases he : e = d
    · subst he
      by_cases hg : a (498 + e) = 0
      · rw [(s9 hg).1, (t9 hg).1]
      · rw [(s8 hg).1, (t8 hg).1]
    · rw [(s7 e (by omega) he).1, (t7 e (by omega) he).1]
  · obtain ⟨e, rfl⟩ : ∃ e, k = 646 + e := ⟨k - 646, by omega⟩
    by_cases he : e = d
    · subst he
      by_cases hg : a (498 + e) = 0
      · refine sb_ext _ (s9 hg).2.1 _ (t9 hg).2.1 (fun o ho => ?_)
        rw [Bool.eq_iff_iff, (s9 hg).2.2 o ho, (t9 hg).2.2 o ho]
      · rw [(s8 hg).2, (t8 hg).2]
    · rw [(s7 e (by omega) he).2, (t7 e (by omega) he).2]
theorem RC_ag {w : Wd} {r : Nat} {a b f : Nat → Nat} {m : Nat} (h : ∀ k, k < 706 → k ≠ 562 → b k = a k) (I : IO a) (hr : ∀ l, l < 6 → a (568 + l) ≤ a (480 + l)) (R : RC w r a f m) : RC w r b f m := by
  obtain ⟨g1, g2, g3, g4⟩ := ag_all h I hr
  obtain ⟨q1, q2, q3, q4, q5, q6, q7, q8, q9, q10, q11, q12, q13, q14, q15, q16⟩ := R
  refine ⟨?_, ?_, ?_, ?_, ?_, ?_, q7, fun l hl => ?_, fun l hl => ?_, fun l hl => ?_, fun l hl => ?_, fun d hd => ?_, fun d hd => ?_, fun d hd hs => ?_, q15, ag_FR h I hr q16⟩
  · rw [h _ (by omega) (by omega)]; exact q1
  · rw [h _ (by omega) (by omega)]; exact q2
  · rw [h _ (by omega) (by omega)]; exact q3
  · rw [h _ (by omega) (by omega)]; exact q4
  · rw [h _ (by omega) (by omega)]; exact q5
  · rw [q6]
    congr 1
    unfold cgt
    refine sb_ext _ (bs_lt _ 6 (by omega)) _ (bs_lt _ 6 (by omega)) (fun k hk => ?_)
    rw [Bool.eq_iff_iff, bs_tb 6 (by omega) k hk, bs_tb 6 (by omega) k hk, h _ (by omega) (by omega)]
  · rw [h _ (by omega) (by omega)]; exact q8 l hl
  · rw [h _ (by omega) (by omega)]; exact q9 l hl
  · rw [(g1 l hl).1]; exact q10 l hl
  · rw [(g1 l hl).2]; exact q11 l hl
  · rw [h _ (by omega) (by omega)]; exact q12 d hd
  · rw [(g2 d hd).1]; exact q13 d hd
  · rw [h _ (by omega) (by omega)]; exact q14 d hd ((g2 d hd).2.2.1.mp hs)
theorem imax_n {x y : Nat} (hx : x < 2147483648) (hy : y < 2147483648) : imax 0 (nI x - nI y) = nI (x - y) := by
  unfold imax
  by_cases h : y ≤ x
  · rw [nI_sub h]
    by_cases h0 : x - y = 0
    · rw [h0]; decide
    · rw [if_pos (by rw [l0, nI_lt_ (by omega) (by omega)]; omega)]
  · have e : (nI x - nI y).toInt < 0 := by
      have : nI x - nI y = -(nI (y - x)) := by
        rw [← nI_sub (show x ≤ y by omega), Int32.neg_sub]
      rw [this, Int32.toInt_neg, nI_toInt (by omega)]
      rw [show (-((y - x : Nat) : Int)).bmod (2 ^ 32) = -((y - x : Nat) : Int) by
        apply Int.bmod_eq_of_le <;> omega]
      omega
    rw [if_neg (by
      rw [Int32.lt_iff_toInt_lt]
      have : (0 : Int32).toInt = 0 := by decide
      omega), show x - y = 0 by omega]
    rfl
section CRN
variable {w : Wd} {a b f : Nat → Nat} {m o r l d : Nat}
theorem C_isCaught (R6 : w.1 r 6 = nI (cgt a)) (hl : l < 6) : fX2_isCaught w r (nI l) = some (if a (574 + l) = 1 then 1 else 0) := by
  unfold fX2_isCaught
  have ht : (cgt a).testBit l = true ↔ l < 6 ∧ a (574 + l) = 1 := bs_tb (p := fun l => a (574 + l) = 1) 6 (by omega) l hl
  have h64 : cgt a < 64 := bs_lt _ 6 (by omega)
  rw [R6, sb_tst _ h64 l hl]
  by_cases h : a (574 + l) = 1
  · rw [if_pos (ht.mpr ⟨hl, h⟩), if_pos (by decide), if_pos h]; rfl
  · rw [if_neg (fun z => h (ht.mp z).2), if_neg (by decide), if_neg h]; rfl
theorem C_findBounds (O : OC w o b) (I : IO b) (hov : r + 9 ≤ o ∨ o + 6 ≤ r) (hl : l < 6) (hr : w.1 (r + 1) l = nI (b (568 + l))) (hrl : b (568 + l) ≤ 1000) (h6 : w.1 r 6 = nI (cgt b)) : ∃ w', fX2_findBounds w r o (nI l) = some w' ∧ Fr (r + 3) (r + 5) w w' ∧ (∀ k, w'.1 (r + 3) k = if k = l then nI (bd b l) else w.1 (r + 3) k) ∧ (∀ k, w'.1 (r + 4) k = if k = l then nI (tb b l) else w.1 (r + 4) k) := by
  have b1 := bd_le I hl
  have b2 := (I.1 l hl).2.2
  unfold fX2_findBounds
  have e : (if b (568 + l) < b (480 + l) then b (240 + 40 * l + b (568 + l)) else 0) = bd b l := rfl
  rw [at_n hl (by omega), hr, ob_some, C_scoreAt O I hl hrl, e, ob_some, C_isCaught h6 hl, ob_some]
  by_cases h : b (574 + l) = 1
  · have et : tb b l = bd b l := by unfold tb; rw [if_pos h]
    rw [if_pos h, if_neg (by decide), put_n hl (by omega), ob_some, l0, show imax (nI 0) (nI (bd b l) - nI 0) = nI (bd b l) from imax_n (x := bd b l) (y := 0) (by omega) (by omega), put_n hl (by omega), ob_some, et]
    refine ⟨_, rfl, (Fr.rfl'.sI (by omega) (by omega)).sI (by omega) (by omega), fun k => ?_, fun k => ?_⟩
    · rw [sI_1, if_neg (by omega), sI_1, if_pos rfl, upd_1]
    · rw [sI_1, if_pos rfl, upd_1, sI_1, if_neg (show ¬ r + 4 = r + 3 by omega)]
  · have et : tb b l = bd b l - b (492 + l) := by unfold tb; rw [if_neg h]
    rw [if_neg h, if_pos rfl, at_n hl (by omega), O.2.2.2.2.1 l hl, ob_some, put_n hl (by omega), ob_some, imax_n (by omega) (by omega), put_n hl (by omega), ob_some, ← et]
    refine ⟨_, rfl, (Fr.rfl'.sI (by omega) (by omega)).sI (by omega) (by omega), fun k => ?_, fun k => ?_⟩
    · rw [sI_1, if_neg (by omega), sI_1, if_pos rfl, upd_1]
    · rw [sI_1, if_pos rfl, upd_1, sI_1, if_neg (show ¬ r + 4 = r + 3 by omega)]
theorem C_readEntry (O : OC w o a) (R : RC w r a f m) (I : IO a) (J : IR0 a) (S : ST a b l d) (hov : r + 9 ≤ o ∨ o + 6 ≤ r) (hl : l < 6) (hc : canr a l) (hde : d = a (40 * l + a (568 + l))) : ∃ w' f' m', fX2_readEntry w r o (nI l) = some w' ∧ Fr r (r + 9) w w' ∧ w'.1 r 0 = w.1 r 0 ∧ RC w' r b f' m' := by
  obtain ⟨q1, q2, q3, q4, q5, q6, q7, q8, q9, q10, q11, q12, q13, q14, q15, q16⟩ := R
  have hz := (I.1 l hl).1
  have hc2 := hc.2
  have hd : d < 60 := by rw [hde]; exact (I.2.1 l _ hl hc2).1
  have hg1 := I.2.2.2.2.1 d hd
  have b1 := bd_le I hl
  have b2 := tb_le I hl
  have I' := ST_IO S I
  have h560 := ST_560 S
  have J' := ST_IR0 S I J hl hc hde
  obtain ⟨s1, s2, s3, s4, s5, s6, s7, s8, s9⟩ := id S
  have hbdl : a (240 + 40 * l + a (568 + l)) = bd a l := by unfold bd; rw [if_pos hc2]
  have hrd' : b (568 + l) = a (568 + l) + 1 := by rw [s4 l hl, if_pos rfl]
  -- the caught list
  have hcg : ∃ w1, (∀ K : Wd → Option Wd, (if nI (bd a l) ≤ nI (tb a l) then K w else (pI w r 6 (w.1 r 6 ||| (1 <<< (nI l &&& 31)))).bind K) = K w1) ∧ Fr r (r + 1) w w1 ∧ (∀ j, j ≠ 6 → w1.1 r j = w.1 r j) ∧ w1.1 r 6 = nI (cgt b) := by
    have hbb : ∀ k, k < 6 → ((cgt b).testBit k = true ↔ b (574 + k) = 1) := fun k hk => by
      unfold cgt
      rw [bs_tb 6 (by omega) k hk]
      exact ⟨fun z => z.2, fun z => ⟨hk, z⟩⟩
    have hba : ∀ k, k < 6 → ((cgt a).testBit k = true ↔ a (574 + k) = 1) := fun k hk => by
      unfold cgt
      rw [bs_tb 6 (by omega) k hk]
      exact ⟨fun z => z.2, fun z => ⟨hk, z⟩⟩
    have l64 : cgt a < 64 := bs_lt _ 6 (by omega)
    have l64b : cgt b < 64 := bs_lt _ 6 (by omega)
    by_cases ht : bd a l ≤ tb a l
    · refine ⟨w, fun K => ?_, Fr.rfl', fun _ _ => rfl, ?_⟩
      · rw [if_pos (by rw [nI_le_ (by omega) (by omega)]; exact ht)]
      · rw [q6]
        congr 1
        refine sb_ext _ l64 _ l64b (fun k hk => ?_)
        rw [Bool.eq_iff_iff, hba k hk, hbb k hk, s5 k hk, if_neg (by omega)]
    · refine ⟨sI w r 6 (nI (cgt b)), fun K => ?_, Fr.rfl'.sI (by omega) (by omega), fun j hj => ?_, ?_⟩
      · rw [if_neg (by rw [nI_le_ (by omega) (by omega)]; exact ht)]
        unfold pI
        rw [ob_some, q6, sb_or _ l64 l hl]
        have : cgt a ||| 2 ^ l = cgt b := by
          refine sb_ext _ (sb_lt _ l64 l hl) _ l64b (fun k hk => ?_)
          rw [Bool.eq_iff_iff, sb_tb _ l64 l hl k hk, hbb k hk, s5 k hk]
          simp only [Bool.or_eq_true, decide_eq_true_eq, hba k hk]
          by_cases hkl : k = l
          · rw [if_pos ⟨hkl, by omega⟩]
            exact ⟨fun _ => rfl, fun _ => Or.inr hkl⟩
          · rw [if_neg (fun z => hkl z.1)]
            exact ⟨fun z => z.elim (fun y => y) (fun y => absurd y hkl), Or.inl⟩
        rw [this]
      · rw [sI_1, if_pos rfl, upd_1, if_neg hj]
      · rw [sI_1, if_pos rfl, upd_1, if_pos rfl]
  obtain ⟨w1, k1, F1, v1, v6⟩ := hcg
  obtain ⟨w2, hw2⟩ : ∃ y, y = sI w1 (r + 1) l (nI (a (568 + l) + 1)) := ⟨_, rfl⟩
  have F2 : Fr (r + 1) (r + 2) w1 w2 := by rw [hw2]; exact Fr.rfl'.sI (by omega) (by omega)
  have r2 : ∀ k, w2.1 (r + 1) k = if k = l then nI (a (568 + l) + 1) else w.1 (r + 1) k := fun k => by
    rw [hw2, sI_1, if_pos rfl, upd_1, F1.1 _ (by omega)]
  have F12 : Fr r (r + 2) w w2 := (F1.wide (by omega) (by omega)).trans (F2.wide (by omega) (by omega))
  have O2a : OC w2 o a := OC_fr O I F12 (by omega)
  have O2b : OC w2 o b := by
    refine ⟨fun l hl => ?_, fun l p hl hp => ?_, fun l e hl he => ?_, fun l hl => ?_, fun l hl => ?_, ?_, ?_⟩
    · rw [h560 _ (by omega)]; exact O2a.1 l hl
    · have := (I.1 l hl).1
      rw [h560 (480 + l) (by omega)] at hp
      rw [h560 _ (by omega)]; exact O2a.2.1 l p hl hp
    · rw [ag_scr h560 I hl]; exact O2a.2.2.1 l e hl he
    · rw [h560 _ (by omega)]; exact O2a.2.2.2.1 l hl
    · rw [h560 _ (by omega)]; exact O2a.2.2.2.2.1 l hl
    · rw [O2a.2.2.2.2.2.1]
      congr 1
      unfold gs
      exact sm_cong (fun e he => by rw [h560 _ (by omega)])
    · rw [h560 _ (by omega)]; exact O2a.2.2.2.2.2.2
  have h26 : w2.1 r 6 = nI (cgt b) := by rw [F2.1 r (by omega)]; exact v6
  obtain ⟨w3, e3, F3, c3, c4⟩ := C_findBounds (w := w2) (r := r) (l := l) O2b I' hov hl (by rw [r2, if_pos rfl, hrd']) (by omega) h26
  have F13 : Fr r (r + 9) w w3 := (F12.wide (by omega) (by omega)).trans (F3.wide (by omega) (by omega))
  have O3a : OC w3 o a := OC_fr O I F13 (by omega)
  have h3r : ∀ j, j ≠ 6 → w3.1 r j = w.1 r j := fun j hj => by rw [F3.1 r (by omega), F2.1 r (by omega), v1 j hj]
  have h36 : w3.1 r 6 = nI (cgt b) := by rw [F3.1 r (by omega)]; exact h26
  have h31 : ∀ k, k < 6 → w3.1 (r + 1) k = nI (b (568 + k)) := fun k hk => by
    rw [F3.1 _ (by omega), r2, s4 k hk]
    by_cases hkl : k = l
    · rw [if_pos hkl, if_pos hkl, hkl]
    · rw [if_neg hkl, if_neg hkl]; exact q8 k hk
  have obd : ∀ k, k < 6 → k ≠ l → bd b k = bd a k := fun k hk hkl => by
    have := (I.1 k hk).1
    unfold bd
    rw [s4 k hk, if_neg hkl, h560 (480 + k) (by omega)]
    by_cases h : a (568 + k) < a (480 + k)
    · rw [if_pos h, if_pos h, h560 _ (by omega)]
    · rw [if_neg h, if_neg h]
  have otb : ∀ k, k < 6 → k ≠ l → tb b k = tb a k := fun k hk hkl => by
    have e1 : b (574 + k) = a (574 + k) := by rw [s5 k hk, if_neg (fun z => hkl z.1)]
    unfold tb
    rw [obd k hk hkl, e1, h560 (492 + k) (by omega)]
  have h33 : ∀ k, k < 6 → w3.1 (r + 3) k = nI (bd b k) := fun k hk => by
    rw [c3]
    by_cases hkl : k = l
    · rw [if_pos hkl, hkl]
    · rw [if_neg hkl, F2.1 _ (by omega), F1.1 _ (by omega), q10 k hk, obd k hk hkl]
  have h34 : ∀ k, k < 6 → w3.1 (r + 4) k = nI (tb b k) := fun k hk => by
    rw [c4]
    by_cases hkl : k = l
    · rw [if_pos hkl, hkl]
    · rw [if_neg hkl, F2.1 _ (by omega), F1.1 _ (by omega), q11 k hk, otb k hk hkl]
  have oth : ∀ k, k = r + 2 ∨ (r + 5 ≤ k ∧ k < r + 9) → w3.1 k = w.1 k := fun k hk => by rw [F3.1 k (by omega), F2.1 k (by omega), F1.1 k (by omega)]
  have N3 : SN w3 r a f m := ⟨by rw [h3r _ (by omega)]; exact q7, fun k hk => by rw [oth _ (by omega)]; exact q9 k hk, fun e he => by rw [oth _ (by omega)]; exact q12 e he, fun e he => by rw [oth _ (by omega)]; exact q13 e he, fun e he hs => by rw [oth _ (by omega)]; exact q14 e he hs, fun p hp => by rw [oth _ (by omega)]; exact q15 p hp, q16⟩
  have hds := C_isDeleted O3a I hd
  -- the head of the method
  have head : fX2_readEntry w r o (nI l) = if nI (a (498 + d)) = 0 then
      (fX2_see w3 r o (nI l) (nI d)).bind fun w10 => (pI w10 r 3 (nI l)).bind fun w11 => (pI w11 r 4 ((w11.1 r 4) + 1)).bind fun w12 => some w12
    else (pI w3 r 5 ((w3.1 r 5) + 1)).bind fun w13 => (pI w13 r 3 (nI l)).bind fun w14 => (pI w14 r 4 ((w14.1 r 4) + 1)).bind fun w15 => some w15 := by
    unfold fX2_readEntry
    rw [at_n hl (by omega), q8 l hl, ob_some, C_documentAt O I hl hc2, ob_some, ← hde, C_scoreOf O hl hd, ob_some, scr_in I hl hc2 hde.symm, hbdl, at_n hl (by omega), q11 l hl, ob_some, k1 (fun w => bX2_readEntry_47 w r o (nI l) (nI (a (568 + l))) (nI d))]
    unfold bX2_readEntry_47
    rw [n1, nI_add, put_n hl (by omega), ob_some, ← hw2, e3, ob_some, hds, ob_some]
  rw [head]
  by_cases hg : a (498 + d) = 0
  · rw [if_pos (by rw [hg]; rfl)]
    obtain ⟨w4, f', m', e4, F4, g0, g1, g3, g4, N4⟩ := C_see O3a I J S hov hl hd hc hde hg (by rw [h3r _ (by omega)]; exact q1) (by rw [h3r _ (by omega)]; exact q4) N3
    obtain ⟨n15, n2, n5', n6', n7, n8, nF⟩ := N4
    have e5 : w4.1 r 4 = nI (a 564) := by rw [g0 4 (by omega), h3r 4 (by omega)]; exact q4
    refine ⟨sI (sI w4 r 3 (nI l)) r 4 (nI (a 564 + 1)), f', m', ?_, ((F13.trans F4).sI (by omega) (by omega)).sI (by omega) (by omega), ?_, ?_⟩
    · rw [e4, ob_some]
      unfold pI
      rw [ob_some, ob_some, show (sI w4 r 3 (nI l)).1 r 4 = nI (a 564) by rw [sI_1, if_pos rfl, upd_1, if_neg (by omega)]; exact e5, n1, nI_add]
    · rw [sI_1, if_pos rfl, upd_1, if_neg (by omega), sI_1, if_pos rfl, upd_1, if_neg (by omega), g0 0 (by omega), h3r 0 (by omega)]
    · have fld : ∀ j, j ≠ 3 → j ≠ 4 → (sI (sI w4 r 3 (nI l)) r 4 (nI (a 564 + 1))).1 r j = w4.1 r j := fun j h3 h4 => by rw [sI_1, if_pos rfl, upd_1, if_neg h4, sI_1, if_pos rfl, upd_1, if_neg h3]
      have row : ∀ k, k ≠ r → (sI (sI w4 r 3 (nI l)) r 4 (nI (a 564 + 1))).1 k = w4.1 k := fun k hk => by rw [sI_1, if_neg hk, sI_1, if_neg hk]
      refine ⟨?_, ?_, ?_, ?_, ?_, ?_, ?_, fun k hk => ?_, fun k hk => ?_, fun k hk => ?_, fun k hk => ?_, fun e he => ?_, fun e he => ?_, fun e he hs => ?_, fun p hp => ?_, nF⟩
      · rw [fld 2 (by omega) (by omega), g0 2 (by omega), h3r 2 (by omega), s2.2.2.1]; exact q1
      · rw [fld 1 (by omega) (by omega), g0 1 (by omega), h3r 1 (by omega), s2.2.1]; exact q2
      · rw [sI_1, if_pos rfl, upd_1, if_neg (by omega), sI_1, if_pos rfl, upd_1, if_pos rfl, s3.1]
        congr 1
        omega
      · rw [sI_1, if_pos rfl, upd_1, if_pos rfl, s3.2.1]
      · rw [fld 5 (by omega) (by omega), g0 5 (by omega), h3r 5 (by omega), s3.2.2.1, hg, Nat.add_zero]; exact q5
      · rw [fld 6 (by omega) (by omega), g0 6 (by omega), h36]
      · rw [fld 15 (by omega) (by omega)]; exact n15
      · rw [row _ (by omega), g1]; exact h31 k hk
      · rw [row _ (by omega)]; exact n2 k hk
      · rw [row _ (by omega), g3]; exact h33 k hk
      · rw [row _ (by omega), g4]; exact h34 k hk
      · rw [row _ (by omega)]; exact n5' e he
      · rw [row _ (by omega)]; exact n6' e he
      · rw [row _ (by omega)]; exact n7 e he hs
      · rw [row _ (by omega)]; exact n8 p hp
  · have hg2 : a (498 + d) = 1 := by omega
    rw [if_neg (by rw [hg2]; decide)]
    have e8 := s8 hg
    have hsn : ∀ e, e < 60 → (sn b e ↔ sn a e) ∧ b (586 + e) = a (586 + e) ∧ b (646 + e) = a (646 + e) := fun e he => by
      by_cases hed : e = d
      · subst hed
        unfold sn
        rw [e8.1, e8.2]
        exact ⟨Iff.rfl, rfl, rfl⟩
      · have := s7 e he hed
        unfold sn
        rw [this.1, this.2]
        exact ⟨Iff.rfl, rfl, rfl⟩
    have hlow : ∀ e, e < 60 → lowk b e = lowk a e := fun e he => ag_lowk h560 I (hsn e he).2.2
    have FR' : FR b f m := by
      refine ⟨q16.1, fun p hp => ⟨(q16.2.1 p hp).1, (hsn _ (q16.2.1 p hp).1).1.mpr (q16.2.1 p hp).2⟩, fun p q hpq hq => ?_, fun e he hs => q16.2.2.2 e he ((hsn e he).1.mp hs)⟩
      have h1 := q16.2.2.1 p q hpq hq
      unfold ahd at h1 ⊢
      rw [hlow _ (q16.2.1 p (by omega)).1, hlow _ (q16.2.1 q hq).1]
      exact h1
    have hno : ∀ k, ¬ (a (498 + d) = 0 ∧ lku a l d k) := fun k z => hg z.1
    obtain ⟨w5, hw5⟩ : ∃ y, y = sI (sI (sI w3 r 5 (nI (a 565 + 1))) r 3 (nI l)) r 4 (nI (a 564 + 1)) := ⟨_, rfl⟩
    have fld : ∀ j, w5.1 r j = if j = 4 then nI (a 564 + 1) else if j = 3 then nI l else if j = 5 then nI (a 565 + 1) else w3.1 r j := fun j => by rw [hw5, sI_1, if_pos rfl, upd_1, sI_1, if_pos rfl, upd_1, sI_1, if_pos rfl, upd_1]
    have row : ∀ k, k ≠ r → w5.1 k = w3.1 k := fun k hk => by rw [hw5, sI_1, if_neg hk, sI_1, if_neg hk, sI_1, if_neg hk]
    refine ⟨w5, f, m, ?_, by rw [hw5]; exact ((F13.sI (by omega) (by omega)).sI (by omega) (by omega)).sI (by omega) (by omega), ?_, ?_⟩
    · unfold pI
      rw [ob_some, ob_some, ob_some, hw5]
      have e1 : w3.1 r 5 + 1 = nI (a 565 + 1) := by rw [h3r 5 (by omega), q5, n1, nI_add]
      have e2 : (sI (sI w3 r 5 (nI (a 565 + 1))) r 3 (nI l)).1 r 4 + 1 = nI (a 564 + 1) := by
        rw [sI_1, if_pos rfl, upd_1, if_neg (by omega), sI_1, if_pos rfl, upd_1, if_neg (by omega), h3r 4 (by omega), q4, n1, nI_add]
      rw [e1, e2]
    · rw [fld, if_neg (by omega), if_neg (by omega), if_neg (by omega), h3r 0 (by omega)]
    · refine ⟨?_, ?_, ?_, ?_, ?_, ?_, ?_, fun k hk => ?_, fun k hk => ?_, fun k hk => ?_, fun k hk => ?_, fun e he => ?_, fun e he => ?_, fun e he hs => ?_, fun p hp => ?_, FR'⟩
      · rw [fld, if_neg (by omega), if_neg (by omega), if_neg (by omega), h3r 2 (by omega), s2.2.2.1]; exact q1
      · rw [fld, if_neg (by omega), if_neg (by omega), if_neg (by omega), h3r 1 (by omega), s2.2.1]; exact q2
      · rw [fld, if_neg (by omega), if_pos rfl, s3.1]
        congr 1
        omega
      · rw [fld, if_pos rfl, s3.2.1]
      · rw [fld, if_neg (by omega), if_neg (by omega), if_pos rfl, s3.2.2.1, hg2]
      · rw [fld, if_neg (by omega), if_neg (by omega), if_neg (by omega), h36]
      · rw [fld, if_neg (by omega), if_neg (by omega), if_neg (by omega)]; exact N3.1
      · rw [row _ (by omega)]; exact h31 k hk
      · rw [row _ (by omega), N3.2.1 k hk, s6 k hk, if_neg (hno k), Nat.add_zero]
      · rw [row _ (by omega)]; exact h33 k hk
      · rw [row _ (by omega)]; exact h34 k hk
      · rw [row _ (by omega), N3.2.2.1 e he, (hsn e he).2.2]
      · rw [row _ (by omega), N3.2.2.2.1 e he, hlow e he]
      · rw [row _ (by omega), N3.2.2.2.2.1 e he ((hsn e he).1.mp hs), (hsn e he).2.1]
      · rw [row _ (by omega)]; exact N3.2.2.2.2.2.1 p hp
end CRN
