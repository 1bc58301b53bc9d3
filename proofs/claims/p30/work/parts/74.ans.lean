/-! PURE PART: answers out of a reading, on both sides -/
def wtd (a : Nat → Nat) (d : Nat) : Prop := may a d ∧ wct a d 60 < a 558
theorem cnt_rowQ {f : Nat → Nat} {N : Nat} {Q : Nat → Prop} : ∀ {m : Nat}, (∀ p, p < m → f p < N) → (∀ p q, p < q → q < m → f p ≠ f q) → cnt (fun d => ∃ p, p < m ∧ f p = d ∧ Q d) N = cnt (fun p => Q (f p)) m := by
  intro m
  induction m with
  | zero =>
    intro _ _
    exact cnt_0 (fun i _ => by rintro ⟨p, hp, -⟩; omega)
  | succ m ih =>
    intro h1 h2
    have h3 := ih (fun p hp => h1 p (by omega)) (fun p q hpq hq => h2 p q hpq (by omega))
    by_cases hq : Q (f m)
    · rw [cnt_one (P := fun d => ∃ p, p < m ∧ f p = d ∧ Q d) (k := f m) (h1 m (by omega)) (by
        rintro ⟨p, hp, e, -⟩
        exact h2 p m hp (by omega) e) (fun i hi => by
        constructor
        · rintro ⟨p, hp, e, e2⟩
          by_cases hpm : p = m
          · subst hpm; exact Or.inr e.symm
          · exact Or.inl ⟨p, by omega, e, e2⟩
        · rintro (⟨p, hp, e, e2⟩ | e)
          · exact ⟨p, by omega, e, e2⟩
          · exact ⟨m, by omega, e.symm, e ▸ hq⟩), h3, cnt_s (P := fun p => Q (f p)) hq]
    · rw [cnt_n (P := fun p => Q (f p)) hq, ← h3]
      refine cnt_cong (fun i hi => ⟨?_, ?_⟩)
      · rintro ⟨p, hp, e, e2⟩
        by_cases hpm : p = m
        · subst hpm; exact absurd (e ▸ e2) hq
        · exact ⟨p, by omega, e, e2⟩
      · rintro ⟨p, hp, e, e2⟩
        exact ⟨p, by omega, e, e2⟩
def sums (a : Nat → Nat) (b : Nat) : Nat := sm (fun l => a (b + l)) 6
noncomputable def tnw (a : Nat → Nat) : Nat := cnt (fun d => sn a d ∧ fpl a d < a 558 ∧ ¬ wtd a d) 60
noncomputable def tls (a : Nat → Nat) : Nat := cnt (fun l => 0 < a (486 + l) ∧ tb a l < bd a l) 6
noncomputable def kno (a : Nat → Nat) (d : Nat) : Nat := bs (fun l => 0 < a (486 + l) ∧ (a (480 + l) - a (568 + l) = 0 ∨ (a (646 + d)).testBit l = true)) 6
theorem ppc_cgt {a : Nat → Nat} (J : IR0 a) : ppc (cgt a) = sums a 574 := by
  unfold ppc sums
  refine sm_cong (fun l hl => ?_)
  have h := (J.1 l hl).2
  have ht : (cgt a).testBit l = true ↔ l < 6 ∧ a (574 + l) = 1 := bs_tb (p := fun l => a (574 + l) = 1) 6 (by omega) l hl
  by_cases hc : a (574 + l) = 1
  · rw [if_pos (ht.mpr ⟨hl, hc⟩), hc]
  · rw [if_neg (fun z => hc (ht.mp z).2)]
    omega
section ANS
variable {w : Wd} {a f : Nat → Nat} {m o r : Nat}
theorem C_caughtSize (R : RC w r a f m) (J : IR0 a) : fX2_caughtSize w r = some (nI (sums a 574)) := by
  unfold fX2_caughtSize
  have h64 : cgt a < 64 := bs_lt _ 6 (by omega)
  rw [R.2.2.2.2.2.1, sb_pop h64, ppc_cgt J]
  rfl
theorem M_sumOf (Z : ZA (w.1 112) a) {b : Nat} (hb : 564 ≤ b) (hb2 : b ≤ 600) : fX6_sumOf w 111 (nI b) = some (nI (sums a b)) := by
  refine loopN (fun n i => lX6_sumOf_4 111 n w (nI b) (nI (sm (fun l => a (b + l)) i)) (nI i)) 6 _ (fun n i hi => ?_) (fun n => ?_) 4096 (by omega)
  · show lX6_sumOf_4 111 (n + 1) w (nI b) _ (nI i) = _
    rw [lX6_sumOf_4]
    simp (disch := omega) only [Nat.reduceAdd, Nat.reduceMul, Nat.reduceSub, l0, n1, n2, n3, n4, n5, n6, n40, n60, n240, n480, n486, n492, n498, n558, n559, n560, n561, n562, n563, n564, n565, n566, n567, n568, n574, n580, n586, n646, nI_add, nI_mul, Nat.zero_add, Nat.add_zero, ob_some, ob2_some, nI_le_, nI_lt_, nI_eq_, zl Z]
    rw [if_neg (by omega), sm]
  · show lX6_sumOf_4 111 (n + 1) w (nI b) _ (nI 6) = _
    rw [lX6_sumOf_4, if_pos (by decide), sums]
theorem C_allLookUps (R : RC w r a f m) : fX2_allLookUps w r = some (nI (sums a 580)) := by
  refine loopN (fun n i => lX2_allLookUps_4 r n w (nI (sm (fun l => a (580 + l)) i)) (nI i)) 6 _ (fun n i hi => ?_) (fun n => ?_) 4096 (by omega)
  · show lX2_allLookUps_4 r (n + 1) w _ (nI i) = _
    rw [lX2_allLookUps_4]
    simp (disch := omega) only [Nat.reduceAdd, Nat.reduceMul, Nat.reduceSub, l0, n1, n2, n3, n4, n5, n6, n40, n60, n240, n480, n486, n492, n498, n558, n559, n560, n561, n562, n563, n564, n565, n566, n567, n568, n574, n580, n586, n646, nI_add, nI_mul, Nat.zero_add, Nat.add_zero, ob_some, ob2_some, nI_le_, nI_lt_, nI_eq_, at_n, R.2.2.2.2.2.2.2.2.1]
    rw [if_neg (by omega), sm]
  · show lX2_allLookUps_4 r (n + 1) w _ (nI 6) = _
    rw [lX2_allLookUps_4, if_pos (by decide), sums]
theorem C_cost (R : RC w r a f m) : fX2_cost w r = some (nI (a 564 + 3 * sums a 580)) := by
  unfold fX2_cost
  rw [C_allLookUps R, ob_some, R.2.2.2.1, n3, nI_mul, nI_add]
theorem M_cost (Z : ZA (w.1 112) a) : fX6_cost w 111 = some (nI (a 564 + 3 * sums a 580)) := by
  unfold fX6_cost
  rw [n564, zl Z (by omega) (by omega), ob_some, n580, M_sumOf Z (by omega) (by omega), ob_some, n3, nI_mul, nI_add]
theorem C_toldSize (O : OC w o a) (R : RC w r a f m) (I : IO a) : fX2_toldSize w r o = some (nI (min m (a 558))) := by
  have h1 := R.2.2.2.2.2.2.2.2.2.2.2.2.2.2.2.1
  have h2 := I.2.2.2.2.2.1
  unfold fX2_toldSize
  rw [R.2.2.2.2.2.2.1, O.2.2.2.2.2.2, imin_n (by omega) (by omega)]
theorem C_front (R : RC w r a f m) {p : Nat} (hp : p < m) : fX5_at w (r + 8) 60 (nI p) = some (nI (f p)) := by
  have h1 := R.2.2.2.2.2.2.2.2.2.2.2.2.2.2.2.1
  rw [at_n (by omega) (by omega), R.2.2.2.2.2.2.2.2.2.2.2.2.2.2.1 p hp]
theorem C_lowOfLast (O : OC w o a) (R : RC w r a f m) (I : IO a) : fX2_lowOfLastTold w r o = some (nI (if min m (a 558) = 0 then 0 else lowk a (f (min m (a 558) - 1)))) := by
  have F : FR a f m := R.2.2.2.2.2.2.2.2.2.2.2.2.2.2.2
  have h1 := F.1
  have h2 := I.2.2.2.2.2.1
  unfold fX2_lowOfLastTold
  rw [C_toldSize O R I, ob_some]
  by_cases h : min m (a 558) = 0
  · rw [if_pos (by rw [h]; rfl), if_pos h]
    rfl
  · have hb := F.2.1 (min m (a 558) - 1) (by omega)
    rw [if_neg (by rw [l0, nI_eq_ (by omega) (by omega)]; exact h), n1, nI_sub (by omega), C_front R (by omega), ob_some, at_n hb.1 (by omega), R.2.2.2.2.2.2.2.2.2.2.2.2.1 _ hb.1, ob_some, if_neg h]
theorem tnw_eq (F : FR a f m) : tnw a = cnt (fun p => ¬ wtd a (f p)) (min m (a 558)) := by
  rw [← cnt_rowQ (f := f) (N := 60) (Q := fun d => ¬ wtd a d) (fun p hp => (F.2.1 p (by omega)).1) (fun p q hpq hq z => by
    have := FR_inj F (by omega) (by omega) z
    omega)]
  unfold tnw
  refine cnt_cong (fun d hd => ⟨?_, ?_⟩)
  · rintro ⟨h1, h2, h3⟩
    obtain ⟨p, hp, rfl⟩ := F.2.2.2 d hd h1
    rw [fpl_f F hp] at h2
    exact ⟨p, by omega, rfl, h3⟩
  · rintro ⟨p, hp, rfl, h3⟩
    refine ⟨(F.2.1 p (by omega)).2, ?_, h3⟩
    rw [fpl_f F (by omega)]
    omega
theorem C_tnw (O : OC w o a) (R : RC w r a f m) (I : IO a) : fX2_toldNotWanted w r o = some (nI (tnw a)) := by
  have F : FR a f m := R.2.2.2.2.2.2.2.2.2.2.2.2.2.2.2
  have h1 := F.1
  unfold fX2_toldNotWanted
  rw [C_toldSize O R I, ob_some, tnw_eq F]
  refine loopN (fun n i => lX2_toldNotWanted_11 r o n w (nI (cnt (fun p => ¬ wtd a (f p)) i)) (nI (min m (a 558))) (nI i)) (min m (a 558)) _ (fun n i hi => ?_) (fun n => ?_) 4096 (by omega)
  · show lX2_toldNotWanted_11 r o (n + 1) w _ _ (nI i) = _
    have hb := (F.2.1 i (by omega)).1
    have hw := wct_le a (f i) 60
    have e : ∃ x, fX1_wantedPlaceOf w o (nI (f i)) = some x ∧ (x = -5 ↔ ¬ wtd a (f i)) := by
      by_cases hm : may a (f i)
      · by_cases hl : wct a (f i) 60 < a 558
        · refine ⟨_, (C_wantedPlaceOf O I hb).1 hm hl, fun z => absurd (show nI (wct a (f i) 60) < 0 by rw [z]; decide) (nI_pos (by omega)), fun z => absurd ⟨hm, hl⟩ z⟩
        · exact ⟨_, (C_wantedPlaceOf O I hb).2.1 hm hl, fun _ z => hl z.2, fun _ => rfl⟩
      · exact ⟨_, (C_wantedPlaceOf O I hb).2.2 hm, fun _ z => hm z.1, fun _ => rfl⟩
    obtain ⟨x, e1, e2⟩ := e
    rw [lX2_toldNotWanted_11, if_neg (by rw [nI_le_ (by omega) (by omega)]; omega), C_front R (by omega), ob_some, e1, ob_some]
    by_cases h : wtd a (f i)
    · rw [if_neg (fun z => (e2.mp z) h), oneIf_0, ob_some, cnt_n (P := fun p => ¬ wtd a (f p)) (fun z => z h), l0, nI_add, n1, nI_add, Nat.add_zero]
    · rw [if_pos (e2.mpr h), oneIf_1, ob_some, cnt_s (P := fun p => ¬ wtd a (f p)) h, n1, nI_add, nI_add]
  · show lX2_toldNotWanted_11 r o (n + 1) w _ _ (nI (min m (a 558))) = _
    rw [lX2_toldNotWanted_11, if_pos (by rw [nI_le_ (by omega) (by omega)]; omega)]
theorem M_tnw (Z : ZA (w.1 112) a) (I : IO a) (J : IR0 a) : ∃ w', fX6_toldNotWanted w 111 = some (nI (tnw a), w') ∧ Fr 116 117 w w' := by
  obtain ⟨w1, e1, F1, L1⟩ := M_reckon Z I J
  have Z1 : ZA (w1.1 112) a := by rw [F1.1 112 (by omega)]; exact Z
  have hw := I.2.2.2.2.2.1
  refine ⟨w1, ?_, F1⟩
  unfold fX6_toldNotWanted
  rw [e1, ob_some]
  refine loopN (fun n i => lX6_toldNotWanted_8 111 n w1 (nI (cnt (fun d => sn a d ∧ fpl a d < a 558 ∧ ¬ wtd a d) i)) (nI i)) 60 _ (fun n i hi => ?_) (fun n => ?_) 4096 (by omega)
  · show lX6_toldNotWanted_8 111 (n + 1) w1 _ (nI i) = _
    have hf : fpl a i ≤ 60 := cnt_le _ _
    have hwc := wct_le a i 60
    rw [lX6_toldNotWanted_8, if_neg (by rw [n60, nI_le_ (by omega) (by omega)]; omega), M_isSeen Z1 I J hi, ob_some]
    by_cases hs : sn a i
    · rw [if_pos hs, if_neg (show ¬ (1 : Int32) = 0 by decide), M_fpl Z1 I J L1 hi, ob_some, n558, zl Z1 (by omega) (by omega), ob_some]
      by_cases hlt : fpl a i < a 558
      · rw [if_neg (by rw [nI_le_ (by omega) (by omega)]; omega)]
        have e : ∃ x, fX6_wantedPlace w1 111 (nI i) = some x ∧ (0 ≤ x ↔ wtd a i) := by
          by_cases hm : may a i
          · by_cases hl : wct a i 60 < a 558
            · exact ⟨_, (M_wantedPlace Z1 I hi).1 hm hl, fun _ => ⟨hm, hl⟩, fun _ => by rw [l0, nI_le_ (by omega) (by omega)]; omega⟩
            · exact ⟨_, (M_wantedPlace Z1 I hi).2.1 hm hl, fun z => absurd z (by decide), fun z => absurd z.2 hl⟩
          · exact ⟨_, (M_wantedPlace Z1 I hi).2.2 hm, fun z => absurd z (by decide), fun z => absurd z.1 hm⟩
        obtain ⟨x, e1, e2⟩ := e
        rw [e1, ob_some]
        by_cases h : wtd a i
        · rw [if_pos (e2.mpr h), cnt_n (P := fun d => sn a d ∧ fpl a d < a 558 ∧ ¬ wtd a d) (fun z => z.2.2 h), l0, nI_add, n1, nI_add, Nat.add_zero]
        · rw [if_neg (fun z => h (e2.mp z)), cnt_s (P := fun d => sn a d ∧ fpl a d < a 558 ∧ ¬ wtd a d) ⟨hs, hlt, h⟩, n1, nI_add, nI_add]
      · rw [if_pos (by rw [nI_le_ (by omega) (by omega)]; omega), cnt_n (P := fun d => sn a d ∧ fpl a d < a 558 ∧ ¬ wtd a d) (fun z => hlt z.2.1), l0, nI_add, n1, nI_add, Nat.add_zero]
    · rw [if_neg hs, if_pos (show (0 : Int32) = 0 from rfl), cnt_n (P := fun d => sn a d ∧ fpl a d < a 558 ∧ ¬ wtd a d) (fun z => hs z.1), l0, nI_add, n1, nI_add, Nat.add_zero]
  · show lX6_toldNotWanted_8 111 (n + 1) w1 _ (nI 60) = _
    rw [lX6_toldNotWanted_8, if_pos (by decide), tnw]
theorem C_tls (O : OC w o a) (R : RC w r a f m) (I : IO a) : fX2_tellingLess w r o = some (nI (tls a)) := by
  refine loopN (fun n i => lX2_tellingLess_4 r o n w (nI (cnt (fun l => 0 < a (486 + l) ∧ tb a l < bd a l) i)) (nI i)) 6 _ (fun n i hi => ?_) (fun n => ?_) 4096 (by omega)
  · show lX2_tellingLess_4 r o (n + 1) w _ (nI i) = _
    have b1 := bd_le I hi
    have b2 := tb_le I hi
    rw [lX2_tellingLess_4, if_neg (by rw [n6, nI_le_ (by omega) (by omega)]; omega), at_n hi (by omega), at_n hi (by omega), R.2.2.2.2.2.2.2.2.2.2.1 i hi, R.2.2.2.2.2.2.2.2.2.1 i hi, ob_some, ob_some, C_isAsked O I hi, ob_some, oneIf_0, oneIf_1, ob_some, ob_some, ite_self, ob_some]
    by_cases h : tb a i < bd a i
    · rw [if_neg (by rw [nI_le_ (by omega) (by omega)]; omega)]
      by_cases h2 : 0 < a (486 + i)
      · rw [if_pos h2, if_neg (by decide), cnt_s (P := fun l => 0 < a (486 + l) ∧ tb a l < bd a l) ⟨h2, h⟩, n1, nI_add, nI_add]
      · rw [if_neg h2, if_pos rfl, cnt_n (P := fun l => 0 < a (486 + l) ∧ tb a l < bd a l) (fun z => h2 z.1), l0, nI_add, n1, nI_add, Nat.add_zero]
    · rw [if_pos (by rw [nI_le_ (by omega) (by omega)]; omega), cnt_n (P := fun l => 0 < a (486 + l) ∧ tb a l < bd a l) (fun z => h z.2), l0, nI_add, n1, nI_add, Nat.add_zero]
  · show lX2_tellingLess_4 r o (n + 1) w _ (nI 6) = _
    rw [lX2_tellingLess_4, if_pos (by decide), tls]
theorem M_tls (Z : ZA (w.1 112) a) (I : IO a) (J : IR0 a) : fX6_tellLess w 111 = some (nI (tls a)) := by
  refine loopN (fun n i => lX6_tellLess_4 111 n w (nI (cnt (fun l => 0 < a (486 + l) ∧ tb a l < bd a l) i)) (nI i)) 6 _ (fun n i hi => ?_) (fun n => ?_) 4096 (by omega)
  · show lX6_tellLess_4 111 (n + 1) w _ (nI i) = _
    have b1 := bd_le I hi
    have b2 := tb_le I hi
    rw [lX6_tellLess_4, if_neg (by rw [n6, nI_le_ (by omega) (by omega)]; omega), M_isAsked Z I hi, ob_some]
    by_cases h2 : 0 < a (486 + i)
    · rw [if_pos h2, if_neg (show ¬ (1 : Int32) = 0 by decide), M_tb Z I J hi, M_bound Z I J hi, ob_some, ob_some]
      by_cases h : tb a i < bd a i
      · rw [if_neg (by rw [nI_le_ (by omega) (by omega)]; omega), cnt_s (P := fun l => 0 < a (486 + l) ∧ tb a l < bd a l) ⟨h2, h⟩, n1, nI_add, nI_add]
      · rw [if_pos (by rw [nI_le_ (by omega) (by omega)]; omega), cnt_n (P := fun l => 0 < a (486 + l) ∧ tb a l < bd a l) (fun z => h z.2), l0, nI_add, n1, nI_add, Nat.add_zero]
    · rw [if_neg h2, if_pos (show (0 : Int32) = 0 from rfl), cnt_n (P := fun l => 0 < a (486 + l) ∧ tb a l < bd a l) (fun z => h2 z.1), l0, nI_add, n1, nI_add, Nat.add_zero]
  · show lX6_tellLess_4 111 (n + 1) w _ (nI 6) = _
    rw [lX6_tellLess_4, if_pos (by decide), tls]
theorem C_kno (O : OC w o a) (R : RC w r a f m) (I : IO a) (J : IR0 a) {d : Nat} (hd : d < 60) : fX2_knownListsOf w r o (nI d) = some (nI (kno a d)) := by
  have hx := J.2.1 d hd
  unfold fX2_knownListsOf
  rw [at_n hd (by omega), R.2.2.2.2.2.2.2.2.2.2.2.1 d hd, ob_some]
  have hK : kno a d = ors (a (646 + d)) (fun l => 0 < a (486 + l) ∧ ¬ canr a l) 6 := by
    refine sb_ext _ (bs_lt _ 6 (by omega)) _ (ors_lt hx _ 6 (by omega)) (fun k hk => ?_)
    rw [Bool.eq_iff_iff, ors_tb hx 6 (by omega) k hk]
    have hr := (J.1 k hk).1
    have hb := J.2.2.1 d k hd hk
    unfold canr
    rw [bs_tb 6 (by omega) k hk]
    constructor
    · rintro ⟨-, h1, h2 | h2⟩
      · exact Or.inr ⟨hk, h1, fun z => by omega⟩
      · exact Or.inl h2
    · rintro (h1 | ⟨-, h1, h2⟩)
      · exact ⟨hk, hb h1, Or.inr h1⟩
      · refine ⟨hk, h1, Or.inl ?_⟩
        have : ¬ a (568 + k) < a (480 + k) := fun z => h2 ⟨h1, z⟩
        omega
  rw [hK]
  refine loopN (fun n i => lX2_knownListsOf_12 r o n w (nI (ors (a (646 + d)) (fun l => 0 < a (486 + l) ∧ ¬ canr a l) i)) (nI i)) 6 _ (fun n i hi => ?_) (fun n => ?_) 4096 (by omega)
  · show lX2_knownListsOf_12 r o (n + 1) w _ (nI i) = _
    have h64 := ors_lt hx (fun l => 0 < a (486 + l) ∧ ¬ canr a l) i (by omega)
    rw [lX2_knownListsOf_12, if_neg (by rw [n6, nI_le_ (by omega) (by omega)]; omega), C_isAsked O I hi, ob_some, C_hasRest O R I J hi, ob_some, oneIf_0, oneIf_1, ob_some, ob_some, sb_sh0 i hi, sb_or0, sb_or _ h64 i hi]
    by_cases h : 0 < a (486 + i)
    · rw [if_pos h, if_neg (show ¬ (1 : Int32) = 0 by decide)]
      by_cases h2 : canr a i
      · rw [if_pos h2, if_neg (show ¬ (1 : Int32) = 0 by decide), ors_n (P := fun l => 0 < a (486 + l) ∧ ¬ canr a l) (fun z => z.2 h2), n1, nI_add]
      · rw [if_neg h2, if_pos (show (0 : Int32) = 0 from rfl), ors_y (P := fun l => 0 < a (486 + l) ∧ ¬ canr a l) ⟨h, h2⟩, n1, nI_add]
    · rw [if_neg h, if_pos (show (0 : Int32) = 0 from rfl), ors_n (P := fun l => 0 < a (486 + l) ∧ ¬ canr a l) (fun z => h z.1), n1, nI_add]
  · show lX2_knownListsOf_12 r o (n + 1) w _ (nI 6) = _
    rw [lX2_knownListsOf_12, if_pos (by decide)]
theorem M_kno (Z : ZA (w.1 112) a) (I : IO a) (J : IR0 a) {d : Nat} (hd : d < 60) : fX6_knownOf w 111 (nI d) = some (nI (kno a d)) := by
  refine loopN (fun n i => lX6_knownOf_4 111 n w (nI d) (nI (bs (fun l => 0 < a (486 + l) ∧ (a (480 + l) - a (568 + l) = 0 ∨ (a (646 + d)).testBit l = true)) i)) (nI i)) 6 _ (fun n i hi => ?_) (fun n => ?_) 4096 (by omega)
  · show lX6_knownOf_4 111 (n + 1) w (nI d) _ (nI i) = _
    have h64 := bs_lt (fun l => 0 < a (486 + l) ∧ (a (480 + l) - a (568 + l) = 0 ∨ (a (646 + d)).testBit l = true)) i (by omega)
    rw [lX6_knownOf_4, if_neg (by rw [n6, nI_le_ (by omega) (by omega)]; omega), M_isAsked Z I hi, ob_some, sb_or0, sb_or _ h64 i hi]
    by_cases h : 0 < a (486 + i)
    · rw [if_pos h, if_neg (show ¬ (1 : Int32) = 0 by decide), M_isKnown Z I J hi hd, ob_some]
      by_cases h2 : a (480 + i) - a (568 + i) = 0 ∨ (a (646 + d)).testBit i = true
      · rw [if_pos h2, if_neg (show ¬ (1 : Int32) = 0 by decide), bs_y (p := fun l => 0 < a (486 + l) ∧ (a (480 + l) - a (568 + l) = 0 ∨ (a (646 + d)).testBit l = true)) ⟨h, h2⟩, n1, nI_add]
      · rw [if_neg h2, if_pos (show (0 : Int32) = 0 from rfl), bs_n (p := fun l => 0 < a (486 + l) ∧ (a (480 + l) - a (568 + l) = 0 ∨ (a (646 + d)).testBit l = true)) (fun z => h2 z.2), n1, nI_add]
    · rw [if_neg h, if_pos (show (0 : Int32) = 0 from rfl), bs_n (p := fun l => 0 < a (486 + l) ∧ (a (480 + l) - a (568 + l) = 0 ∨ (a (646 + d)).testBit l = true)) (fun z => h z.1), n1, nI_add]
  · show lX6_knownOf_4 111 (n + 1) w (nI d) _ (nI 6) = _
    rw [lX6_knownOf_4, if_pos (by decide), kno]
theorem C_fplq (R : RC w r a f m) {d : Nat} (hd : d < 60) (hs : sn a d) : fX2_frontPlaceOf w r (nI d) = some (nI (fpl a d)) := by
  have F : FR a f m := R.2.2.2.2.2.2.2.2.2.2.2.2.2.2.2
  obtain ⟨p, hp, rfl⟩ := F.2.2.2 d hd hs
  rw [fpl_f F hp]
  exact C_fpo R.2.2.2.2.2.2.1 F.1 R.2.2.2.2.2.2.2.2.2.2.2.2.2.2.1 (fun p hp => (F.2.1 p hp).1) hd hp rfl (fun q hq z => by
    have := FR_inj F (by omega) hp z
    omega)
/-- a caught list more on both counts -/
theorem caught_step (G : GR a) (h : ¬ ov a) : nxt a 567 + sums a 574 = a 567 + sums (nxt a) 574 := by
  obtain ⟨h1, h2, h3, S, T⟩ := nx_facts G h
  have e := T.2.2.1.2.2.2
  have e5 := T.2.2.2.2.1
  have c := sm_chg (f := fun k => nxt a (574 + k)) (g := fun k => a (574 + k)) h1 (fun k hk hne => by rw [e5 k hk, if_neg (fun z => hne z.1)])
  have e6 := e5 _ h1
  simp only [e6] at c
  unfold sums
  by_cases ht : tb a (nx a 6) < bd a (nx a 6)
  · have h0 : a (574 + nx a 6) = 0 := by
      have hj := (G.2.1.1 _ h1).2
      have : a (574 + nx a 6) ≠ 1 := fun z => by
        have : tb a (nx a 6) = bd a (nx a 6) := by unfold tb; rw [if_pos z]
        omega
      omega
    rw [if_pos ht] at e
    simp only [ht, and_self, if_pos] at c
    omega
  · rw [if_neg ht] at e
    rw [if_neg (fun z => ht z.2)] at c
    omega
theorem caught_run : ∀ (k : Nat) (a : Nat → Nat), GR a → itr a (run a k) 567 + sums a 574 = a 567 + sums (itr a (run a k)) 574 := by
  intro k
  induction k with
  | zero => intro a G; rfl
  | succ k ih =>
    intro a G
    by_cases h : ov a
    · rw [run_o h]; rfl
    · have h1 := caught_step G h
      have h2 := ih (nxt a) (GR_nxt G h)
      rw [run_n h]
      show itr (nxt a) (run (nxt a) k) 567 + sums a 574 = a 567 + sums (itr (nxt a) (run (nxt a) k)) 574
      omega
end ANS
