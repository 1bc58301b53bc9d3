/-! PURE PART: delete, weight, want, end -/
section KSET
variable {w w1 w2 w3 : Wd} {a a' : Nat → Nat}
theorem sL_21 (w : Wd) (k : Nat) (x : Int64) (i : Nat) : (sL w k x).2.1 i = if i = k then x else w.2.1 i := rfl
/-- one number of the office changes that no list speaks of -/
theorem IO_up (I : IO a) {k v : Nat} (hk : 486 ≤ k) (hv : (k < 492 → v ≤ 9) ∧ (492 ≤ k → k < 498 → v ≤ 500) ∧ (498 ≤ k → k < 558 → v ≤ 1) ∧ (k = 558 → 1 ≤ v ∧ v ≤ 10) ∧ (k = 559 → v ≤ 1)) : IO (up a k v) := by
  refine ⟨fun l hl => ⟨?_, ?_, ?_⟩, fun l q hl hq => ?_, fun l q r hl hqr hr => ?_, fun l q r hl hqr hr => ?_, fun d hd => ?_, ?_, ?_⟩
  · rw [up_n _ _ (by omega)]; exact (I.1 l hl).1
  · by_cases h : 486 + l = k
    · rw [h, up_s]; exact hv.1 (by omega)
    · rw [up_n _ _ h]; exact (I.1 l hl).2.1
  · by_cases h : 492 + l = k
    · rw [h, up_s]; exact hv.2.1 (by omega) (by omega)
    · rw [up_n _ _ h]; exact (I.1 l hl).2.2
  · have h40 := (I.1 l hl).1
    rw [up_n _ _ (by omega)] at hq
    rw [up_n _ _ (by omega), up_n _ _ (by omega)]; exact I.2.1 l q hl hq
  · have h40 := (I.1 l hl).1
    rw [up_n _ _ (by omega)] at hr
    simp (disch := omega) only [up_n]
    exact I.2.2.1 l q r hl hqr hr
  · have h40 := (I.1 l hl).1
    rw [up_n _ _ (by omega)] at hr
    simp (disch := omega) only [up_n]
    exact I.2.2.2.1 l q r hl hqr hr
  · by_cases h : 498 + d = k
    · rw [h, up_s]; exact hv.2.2.1 (by omega) (by omega)
    · rw [up_n _ _ h]; exact I.2.2.2.2.1 d hd
  · by_cases h : 558 = k
    · rw [h, up_s]; exact hv.2.2.2.1 h.symm
    · rw [up_n _ _ h]; exact I.2.2.2.2.2.1
  · by_cases h : 559 = k
    · rw [h, up_s]; exact hv.2.2.2.2 h.symm
    · rw [up_n _ _ h]; exact I.2.2.2.2.2.2
theorem scr_up (I : IO a) {k v l d : Nat} (hk : 486 ≤ k) (hl : l < 6) : scr (up a k v) l d = scr a l d := by
  have h40 := (I.1 l hl).1
  unfold scr
  rw [up_n _ _ (by omega)]
  exact sm_cong (fun q hq => by rw [up_n _ _ (by omega), up_n _ _ (by omega)])
theorem up_GD {k v : Nat} (I' : IO (up a k v)) (hk : k ≠ 559) (h0 : a 559 = 0) : GD (up a k v) := ⟨I', fun z => by rw [up_n _ _ (Ne.symm hk)] at z; omega⟩
theorem c5_del {d : Nat} (hd : d < 60) : fX5_delete LY w 0 (nI d) = (if (bz (w.1 8 0)) = 0 then (fX1_isDeleted w 2 (nI d)).bind fun v4 => (if v4 = 1 then some ((-5 : Int32), w) else (fX0_record LY w 17 1).bind fun w6 => (pL w6 2 ((w6.2.1 2) ^^^ (1 <<< (Int32.toInt64 (nI d) &&& 63)))).bind fun w7 => (fX1_listsWith w7 2 (nI d)).bind fun v8 => (fJ6_bitCount_0f7a4 w7 v8).bind fun v9 => some (v9, w7)) else some ((-4 : Int32), w)) := by
  have e : fX5_delete LY w 0 (nI d) = ob2 (fX5_setDeleted LY w 0 (nI d) 1) fun v w => some (v, w) := rfl
  have e2 : ∀ o : Option (Int32 × Wd), (ob2 o fun v w => some (v, w)) = o := fun o => by cases o <;> rfl
  rw [e, e2]
  unfold fX5_setDeleted
  rw [isDoc_y hd, ob_some, if_neg (by decide)]
theorem K_del1 (K : KW w a) (ho : a 559 = 0) {d : Nat} (hd : d < 60) (h1 : a (498 + d) = 1) : fX5_delete LY w 0 (nI d) = some (-5, w) := by
  rw [c5_del hd, if_pos ((on_0 K.1 K.2.1.1).1 ho), C_isDeleted K.1.1 K.2.1.1 hd, ob_some, h1, if_pos (show nI 1 = 1 from rfl)]
theorem K_del (K : KW w a) (ho : a 559 = 0) {d : Nat} (hd : d < 60) (h0 : a (498 + d) = 0) : ∃ w', fX5_delete LY w 0 (nI d) = some (nI (ppc (bs (has a d) 6)), w') ∧ KW w' (up a (498 + d) 1) ∧ Fr 1 83 w w' := by
  have I := K.2.1.1
  have O : OC w 2 a := K.1.1
  have hb0 := (on_0 K.1 I).1 ho
  obtain ⟨w1, e1, R1, H1, F1⟩ := KREC K
  have O1 : OC w1 2 a := R1.1
  have I' : IO (up a (498 + d) 1) := IO_up I (by omega) ⟨fun _ => by omega, fun _ _ => by omega, fun _ _ => by omega, fun _ => by omega, fun _ => by omega⟩
  obtain ⟨w2, hw2⟩ : ∃ y, y = sL w1 2 (lN (gs (up a (498 + d) 1) 60)) := ⟨_, rfl⟩
  have F2 : Fr 2 8 w1 w2 := by rw [hw2]; exact Fr.rfl'.sL (by omega) (by omega)
  have hx1 : (w1.2.1 2) ^^^ (1 <<< (Int32.toInt64 (nI d) &&& 63)) = lN (gs (up a (498 + d) 1) 60) := by
    rw [O1.2.2.2.2.2.1, show (1 : Int64) = lN 1 from rfl, wb_shl 1 (show d < 64 by omega), Nat.one_mul, lN_xor]
    exact congrArg lN (gs_flip hd I.2.2.2.2.1 (by rw [up_s, h0]) (fun e he => up_n _ _ (by omega)))
  have O2 : OC w2 2 (up a (498 + d) 1) := by
    rw [hw2]
    refine ⟨fun l hl => ?_, fun l q hl hq => ?_, fun l e hl he => ?_, fun l hl => ?_, fun l hl => ?_, ?_, ?_⟩
    · rw [up_n _ _ (by omega)]; exact O1.1 l hl
    · have h40 := (I.1 l hl).1
      rw [up_n _ _ (by omega)] at hq
      rw [up_n _ _ (by omega)]; exact O1.2.1 l q hl hq
    · rw [scr_up I (by omega) hl]; exact O1.2.2.1 l e hl he
    · rw [up_n _ _ (by omega)]; exact O1.2.2.2.1 l hl
    · rw [up_n _ _ (by omega)]; exact O1.2.2.2.2.1 l hl
    · rw [sL_21, if_pos rfl]
    · rw [up_n _ _ (by omega)]; exact O1.2.2.2.2.2.2
  have hbs : bs (has (up a (498 + d) 1) d) 6 < 64 := bs_lt _ 6 (by omega)
  have hbe : bs (has (up a (498 + d) 1) d) 6 = bs (has a d) 6 := sb_ext _ hbs _ (bs_lt _ 6 (by omega)) (fun k hk => by
    rw [Bool.eq_iff_iff, bs_tb 6 (by omega) k hk, bs_tb 6 (by omega) k hk]
    unfold has
    rw [scr_up I (by omega) hk])
  have R2 : Rs w2 1 (up a (498 + d) 1) := Rs_office R1 F2 O2 ho (up_n _ _ (by omega)) (up_n _ _ (by omega)) (up_n _ _ (by omega))
  refine ⟨w2, ?_, ⟨R2, up_GD I' (by omega) ho, HH_fr H1 F2 (by omega)⟩, (F1.wide (by omega) (by omega)).trans (F2.wide (by omega) (by omega))⟩
  rw [c5_del hd, if_pos hb0, C_isDeleted O I hd, ob_some, h0, if_neg (by decide), e1, ob_some]
  unfold pL
  rw [ob_some, hx1, ← hw2, C_listsWith O2 I' hd, ob_some, sb_pop hbs, ob_some, hbe]
theorem c5_wei {l s : Nat} (hl : l < 6) (hs : s ≤ 9) : fX5_weight LY w 0 (nI l) (nI s) = (if (bz (w.1 8 0)) = 0 then (fX5_at w 6 6 (nI l)).bind fun v6 => (if v6 = nI s then some ((-5), w) else (fX0_record LY w 17 1).bind fun w8 => (fX5_put w8 6 6 (nI l) (nI s)).bind fun w9 => some (v6, w9)) else some ((-4), w)) := by
  have e : fX5_weight LY w 0 (nI l) (nI s) = ob2 (fX5_setOfList LY w 0 6 6 (nI l) (nI s) 9) fun v w => some (v, w) := rfl
  have e2 : ∀ o : Option (Int32 × Wd), (ob2 o fun v w => some (v, w)) = o := fun o => by cases o <;> rfl
  rw [e, e2]
  unfold fX5_setOfList
  rw [isList_y hl, ob_some, if_neg (by decide), if_neg (nI_pos (by omega)), if_pos (by rw [show (9 : Int32) = nI 9 from rfl, nI_le_ (by omega) (by omega)]; exact hs)]
theorem K_weight (K : KW w a) (ho : a 559 = 0) {l s : Nat} (hl : l < 6) (hs : s ≤ 9) (hne : a (486 + l) ≠ s) : ∃ w', fX5_weight LY w 0 (nI l) (nI s) = some (nI (a (486 + l)), w') ∧ KW w' (up a (486 + l) s) ∧ Fr 1 83 w w' := by
  have I := K.2.1.1
  have O : OC w 2 a := K.1.1
  have hb0 := (on_0 K.1 I).1 ho
  have h9 := (I.1 l hl).2.1
  obtain ⟨w1, e1, R1, H1, F1⟩ := KREC K
  have O1 : OC w1 2 a := R1.1
  have I' : IO (up a (486 + l) s) := IO_up I (by omega) ⟨fun _ => by omega, fun _ _ => by omega, fun _ _ => by omega, fun _ => by omega, fun _ => by omega⟩
  obtain ⟨w2, hw2⟩ : ∃ y, y = sI w1 6 l (nI s) := ⟨_, rfl⟩
  have F2 : Fr 2 8 w1 w2 := by rw [hw2]; exact Fr.rfl'.sI (by omega) (by omega)
  have cell : ∀ i, i ≠ 6 → w2.1 i = w1.1 i := fun i hi => by rw [hw2, sI_1, if_neg hi]
  have cellk : ∀ m, w2.1 6 m = if m = l then nI s else w1.1 6 m := fun m => by rw [hw2, sI_1, if_pos rfl, upd_1]
  have O2 : OC w2 2 (up a (486 + l) s) := by
    refine ⟨fun m hm => ?_, fun m q hm hq => ?_, fun m e hm he => ?_, fun m hm => ?_, fun m hm => ?_, ?_, ?_⟩
    · rw [cell _ (by omega), up_n _ _ (by omega)]; exact O1.1 m hm
    · have h40 := (I.1 m hm).1
      rw [up_n _ _ (by omega)] at hq
      rw [cell _ (by omega), up_n _ _ (by omega)]; exact O1.2.1 m q hm hq
    · rw [cell _ (by omega), scr_up I (by omega) hm]; exact O1.2.2.1 m e hm he
    · rw [show 2 + 4 = 6 from rfl, cellk]
      by_cases hml : m = l
      · rw [if_pos hml, hml, up_s]
      · rw [if_neg hml, up_n _ _ (by omega)]; exact O1.2.2.2.1 m hm
    · rw [cell _ (by omega), up_n _ _ (by omega)]; exact O1.2.2.2.2.1 m hm
    · have : w2.2.1 2 = w1.2.1 2 := by rw [hw2]; rfl
      rw [this, O1.2.2.2.2.2.1]
      refine congrArg lN ?_
      unfold gs
      exact sm_cong (fun e he => by rw [up_n _ _ (by omega)])
    · rw [cell _ (by omega), up_n _ _ (by omega)]; exact O1.2.2.2.2.2.2
  have R2 : Rs w2 1 (up a (486 + l) s) := Rs_office R1 F2 O2 ho (up_n _ _ (by omega)) (up_n _ _ (by omega)) (up_n _ _ (by omega))
  refine ⟨w2, ?_, ⟨R2, up_GD I' (by omega) ho, HH_fr H1 F2 (by omega)⟩, (F1.wide (by omega) (by omega)).trans (F2.wide (by omega) (by omega))⟩
  have hr : w.1 6 l = nI (a (486 + l)) := O.2.2.2.1 l hl
  rw [c5_wei hl hs, if_pos hb0, at_n hl (by omega), hr, ob_some, if_neg (by rw [nI_eq_ (by omega) (by omega)]; exact hne), e1, ob_some, put_n hl (by omega), ob_some, ← hw2]
theorem c5_want {s : Nat} (h1 : 1 ≤ s) (hs : s ≤ 10) : fX5_want LY w 0 (nI s) = (if (bz (w.1 8 0)) = 0 then (if (w.1 2 6) = nI s then some ((-5), w) else (fX0_record LY w 17 1).bind fun w5 => (pI w5 2 6 (nI s)).bind fun w6 => some (w.1 2 6, w6)) else some ((-4), w)) := by
  have e : fX5_want LY w 0 (nI s) = (if nI s < 1 then some ((-2), w) else if nI s ≤ 10 then (if (bz (w.1 8 0)) = 0 then (if (w.1 2 6) = nI s then some ((-5), w) else (fX0_record LY w 17 1).bind fun w5 => (pI w5 2 6 (nI s)).bind fun w6 => some (w.1 2 6, w6)) else some ((-4), w)) else some ((-2), w)) := rfl
  rw [e, if_neg (by rw [n1, nI_lt_ (by omega) (by omega)]; omega), if_pos (by rw [show (10 : Int32) = nI 10 from rfl, nI_le_ (by omega) (by omega)]; exact hs)]
theorem K_wantS (K : KW w a) (ho : a 559 = 0) {s : Nat} (h1 : 1 ≤ s) (hs : s ≤ 10) (he : a 558 = s) : fX5_want LY w 0 (nI s) = some (-5, w) := by
  have o6 : w.1 2 6 = nI (a 558) := K.1.1.2.2.2.2.2.2
  rw [c5_want h1 hs, if_pos ((on_0 K.1 K.2.1.1).1 ho), o6, he, if_pos rfl]
theorem K_want (K : KW w a) (ho : a 559 = 0) {s : Nat} (h1 : 1 ≤ s) (hs : s ≤ 10) (hne : a 558 ≠ s) : ∃ w', fX5_want LY w 0 (nI s) = some (nI (a 558), w') ∧ KW w' (up a 558 s) ∧ Fr 1 83 w w' := by
  have I := K.2.1.1
  have O : OC w 2 a := K.1.1
  have hb0 := (on_0 K.1 I).1 ho
  have h10 := I.2.2.2.2.2.1
  have o6 : w.1 2 6 = nI (a 558) := O.2.2.2.2.2.2
  obtain ⟨w1, e1, R1, H1, F1⟩ := KREC K
  have O1 : OC w1 2 a := R1.1
  have I' : IO (up a 558 s) := IO_up I (by omega) ⟨fun _ => by omega, fun _ _ => by omega, fun _ _ => by omega, fun _ => by omega, fun _ => by omega⟩
  obtain ⟨w2, hw2⟩ : ∃ y, y = sI w1 2 6 (nI s) := ⟨_, rfl⟩
  have F2 : Fr 2 8 w1 w2 := by rw [hw2]; exact Fr.rfl'.sI (by omega) (by omega)
  have cell : ∀ i, i ≠ 2 → w2.1 i = w1.1 i := fun i hi => by rw [hw2, sI_1, if_neg hi]
  have O2 : OC w2 2 (up a 558 s) := by
    refine ⟨fun m hm => ?_, fun m q hm hq => ?_, fun m e hm he => ?_, fun m hm => ?_, fun m hm => ?_, ?_, ?_⟩
    · rw [cell _ (by omega), up_n _ _ (by omega)]; exact O1.1 m hm
    · have h40 := (I.1 m hm).1
      rw [up_n _ _ (by omega)] at hq
      rw [cell _ (by omega), up_n _ _ (by omega)]; exact O1.2.1 m q hm hq
    · rw [cell _ (by omega), scr_up I (by omega) hm]; exact O1.2.2.1 m e hm he
    · rw [cell _ (by omega), up_n _ _ (by omega)]; exact O1.2.2.2.1 m hm
    · rw [cell _ (by omega), up_n _ _ (by omega)]; exact O1.2.2.2.2.1 m hm
    · have : w2.2.1 2 = w1.2.1 2 := by rw [hw2]; rfl
      rw [this, O1.2.2.2.2.2.1]
      refine congrArg lN ?_
      unfold gs
      exact sm_cong (fun e he => by rw [up_n _ _ (by omega)])
    · rw [hw2, sI_1, if_pos rfl, upd_1, if_pos rfl, up_s]
  have R2 : Rs w2 1 (up a 558 s) := Rs_office R1 F2 O2 ho (up_n _ _ (by omega)) (up_n _ _ (by omega)) (up_n _ _ (by omega))
  refine ⟨w2, ?_, ⟨R2, up_GD I' (by omega) ho, HH_fr H1 F2 (by omega)⟩, (F1.wide (by omega) (by omega)).trans (F2.wide (by omega) (by omega))⟩
  rw [c5_want h1 hs, if_pos hb0, o6, if_neg (by rw [nI_eq_ (by omega) (by omega)]; exact hne), e1, ob_some]
  unfold pI
  rw [ob_some, ← hw2]
/-- the front that a reading which is on has -/
theorem K_front (K : KW w a) (ho : a 559 = 1) : ∃ f m, RC w 8 a f m ∧ FR a f m := by
  obtain ⟨f, m, R⟩ := K.1.2.2.2.2 ho
  exact ⟨f, m, R, R.2.2.2.2.2.2.2.2.2.2.2.2.2.2.2⟩
theorem K_end (K : KW w a) (ho1 : a 559 = 1) : ∃ w', fX5_end LY w 0 = some (nI (min (smany a) (a 558)), w') ∧ KW w' (up a 559 0) ∧ Fr 1 83 w w' := by
  have I := K.2.1.1
  have hb0 := ((on_0 K.1 I).2 (by omega)).2
  have hc5 : fX5_end LY w 0 = (if (bz (w.1 8 0)) = 0 then some ((-4), w) else (fX0_record LY w 17 1).bind fun w2 => (stZ w2 8 0 0).bind fun w3 => (fX2_toldSize w3 8 2).bind fun v4 => some (v4, w3)) := rfl
  obtain ⟨w1, e1, R1, H1, F1⟩ := KREC K
  obtain ⟨f, m, RC1⟩ := R1.2.2.2.2 ho1
  have RC1' : RC w1 8 a f m := RC1
  have O1 : OC w1 2 a := R1.1
  have hm := FR_m RC1'.2.2.2.2.2.2.2.2.2.2.2.2.2.2.2
  obtain ⟨w2, hw2⟩ : ∃ y, y = sI w1 8 0 0 := ⟨_, rfl⟩
  have F2 : Fr 8 9 w1 w2 := by rw [hw2]; exact Fr.rfl'.sI (by omega) (by omega)
  have I' : IO (up a 559 0) := IO_up I (by omega) ⟨fun _ => by omega, fun _ _ => by omega, fun _ _ => by omega, fun _ => by omega, fun _ => by omega⟩
  have O2 : OC w2 2 a := OC_fr O1 I F2 (by omega)
  have O2' : OC w2 2 (up a 559 0) := OC_ag (fun k hk => up_n _ _ (by omega)) I O2
  have R2 : Rs w2 1 (up a 559 0) := by
    refine ⟨O2', ?_, ?_, ?_, fun z => by rw [up_s] at z; omega⟩
    · rw [show 1 + 7 = 8 from rfl, hw2, sI_1, if_pos rfl, upd_1, if_pos rfl, up_s]; rfl
    · rw [F2.1 1 (by omega), up_n _ _ (by omega)]; exact R1.2.2.1
    · rw [F2.1 1 (by omega), up_n _ _ (by omega)]; exact R1.2.2.2.1
  refine ⟨w2, ?_, ⟨R2, ⟨I', fun z => by rw [up_s] at z; omega⟩, HH_fr H1 F2 (by omega)⟩, (F1.wide (by omega) (by omega)).trans (F2.wide (by omega) (by omega))⟩
  have e5 : fX2_toldSize w2 8 2 = some (nI (min m (a 558))) := by
    have h1 := RC1'.2.2.2.2.2.2.2.2.2.2.2.2.2.2.2.1
    have h2 := I.2.2.2.2.2.1
    unfold fX2_toldSize
    rw [O2.2.2.2.2.2.2, show w2.1 8 15 = nI m by rw [hw2, sI_1, if_pos rfl, upd_1, if_neg (by omega)]; exact RC1'.2.2.2.2.2.2.1, imin_n (by omega) (by omega)]
  rw [hc5, if_neg hb0, e1, ob_some, show stZ w1 8 0 0 = some (sI w1 8 0 0) from by unfold stZ; rw [if_pos (Or.inl rfl)], ob_some, ← hw2, e5, ob_some, hm]
end KSET
