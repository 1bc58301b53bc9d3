/-! PURE PART: the reference: whether a reading is over, the next list, sums -/
def cand (a : Nat → Nat) (k : Nat) : Nat := if a 560 = 0 then (a 563 + k) % 6 else k
def chs (a : Nat → Nat) (l b : Nat) : Prop := (a 560 = 1 ∧ a (486 + b) * tb a b < a (486 + l) * tb a l) ∨ (a 560 = 2 ∧ a (480 + l) - a (568 + l) < a (480 + b) - a (568 + b))
/-- the best of the first k, 6 if there is none -/
noncomputable def nx (a : Nat → Nat) : Nat → Nat
  | 0 => 6
  | k + 1 => @ite Nat (canr a (cand a k) ∧ (nx a k = 6 ∨ chs a (cand a k) (nx a k))) (Classical.propDecidable _) (cand a k) (nx a k)
theorem nx_y {a : Nat → Nat} {k : Nat} (h : canr a (cand a k)) (h2 : nx a k = 6 ∨ chs a (cand a k) (nx a k)) : nx a (k + 1) = cand a k := by rw [nx, if_pos ⟨h, h2⟩]
theorem nx_n {a : Nat → Nat} {k : Nat} (h : ¬ canr a (cand a k)) : nx a (k + 1) = nx a k := by rw [nx, if_neg (fun z => h z.1)]
theorem nx_n2 {a : Nat → Nat} {k : Nat} (h1 : nx a k ≠ 6) (h : ¬ chs a (cand a k) (nx a k)) : nx a (k + 1) = nx a k := by rw [nx, if_neg (fun z => z.2.elim h1 h)]
theorem cand_lt {a : Nat → Nat} {k : Nat} (h : k < 6) : cand a k < 6 := by
  unfold cand
  split
  · exact Nat.mod_lt _ (by omega)
  · exact h
theorem nx_le {a : Nat → Nat} : ∀ {k : Nat}, k ≤ 6 → nx a k ≤ 6 ∧ (nx a k ≠ 6 → nx a k < 6 ∧ canr a (nx a k)) := by
  intro k
  induction k with
  | zero => intro _; exact ⟨Nat.le_refl _, fun h => absurd rfl h⟩
  | succ k ih =>
    intro h
    have h1 := ih (by omega)
    have h2 := cand_lt (a := a) (k := k) (by omega)
    rw [nx]
    by_cases hc : canr a (cand a k) ∧ (nx a k = 6 ∨ chs a (cand a k) (nx a k))
    · rw [if_pos hc]; exact ⟨by omega, fun _ => ⟨h2, hc.1⟩⟩
    · rw [if_neg hc]; exact h1
theorem nx_6 {a : Nat → Nat} : ∀ {k : Nat}, nx a k = 6 → k ≤ 6 → ∀ j, j < k → ¬ canr a (cand a j) := by
  intro k
  induction k with
  | zero => intro _ _ j hj; omega
  | succ k ih =>
    intro h hk j hj hc
    have h2 := cand_lt (a := a) (k := k) (by omega)
    by_cases hck : canr a (cand a k) ∧ (nx a k = 6 ∨ chs a (cand a k) (nx a k))
    · rw [nx, if_pos hck] at h; omega
    · rw [nx, if_neg hck] at h
      by_cases hjk : j = k
      · subst hjk; exact hck ⟨hc, Or.inl h⟩
      · exact ih h (by omega) j (by omega) hc
/-- every list is a candidate -/
theorem cand_onto {a : Nat → Nat} {l : Nat} (hl : l < 6) (h3 : a 563 ≤ 6) : ∃ k, k < 6 ∧ cand a k = l := by
  unfold cand
  by_cases h : a 560 = 0
  · simp only [if_pos h]
    refine ⟨(l + 6 - a 563 % 6) % 6, Nat.mod_lt _ (by omega), by omega⟩
  · simp only [if_neg h]
    exact ⟨l, hl, rfl⟩
theorem nx_some {a : Nat → Nat} (h3 : a 563 ≤ 6) (h : ∃ l, l < 6 ∧ canr a l) : nx a 6 < 6 ∧ canr a (nx a 6) := by
  refine (nx_le (Nat.le_refl 6)).2 (fun z => ?_)
  obtain ⟨l, hl, hc⟩ := h
  obtain ⟨k, hk, e⟩ := cand_onto hl h3
  exact nx_6 z (by omega) k hk (by rw [e]; exact hc)
section MV
variable {w : Wd} {a f : Nat → Nat} {m : Nat}
theorem z563 {w : Wd} {a : Nat → Nat} (Z : ZA (w.1 112) a) : ldI 706 w 112 (nI 563) = some (nI (a 563) - nI 1) := by rw [ldI_n (by omega) (by omega), Z.2]; rfl
theorem M_ov99 (Z : ZA (w.1 112) a) (I : IO a) (J : IR0 a) (L : LW w a) {t : Nat} (ht : t < 60) {Q : Nat → Prop} (hQ : ∀ i, i < 60 → (Q (i + 1) ↔ Q i ∧ (sn a i → a 558 ≤ fpl a i → high a i < lowk a t ∨ (high a i = lowk a t ∧ t < i)))) : ∀ N, N = 4096 → lX6_isOver_99 111 N w (nI t) (nI (lowk a t)) (@ite Int32 (Q 0) (Classical.propDecidable _) 1 0) 0 = some (@ite Int32 (Q 60) (Classical.propDecidable _) 1 0, w) := by
  intro N hN
  have lt := lowk_le I t
  have hw := I.2.2.2.2.2.1
  have st : ∀ n i, i < 60 → Q i → lX6_isOver_99 111 (n + 1) w (nI t) (nI (lowk a t)) 1 (nI i) = lX6_isOver_99 111 n w (nI t) (nI (lowk a t)) (@ite Int32 (Q (i + 1)) (Classical.propDecidable _) 1 0) (nI (i + 1)) := by
    intro n i hi hq
    have hh := high_le I i
    have hf : fpl a i ≤ 60 := cnt_le _ _
    rw [lX6_isOver_99, if_neg (show ¬ (60 : Int32) ≤ nI i by rw [n60, nI_le_ (by omega) (by omega)]; omega), if_neg (show ¬ (1 : Int32) = 0 by decide), M_isSeen Z I J hi, ob_some]
    by_cases hs : sn a i
    · rw [if_pos hs, if_neg (show ¬ (1 : Int32) = 0 by decide), M_fpl Z I J L hi]
      simp (disch := omega) only [Nat.reduceAdd, Nat.reduceMul, Nat.reduceSub, l0, n1, n2, n3, n4, n5, n6, n40, n60, n240, n480, n486, n492, n498, n558, n559, n560, n561, n562, n563, n564, n565, n566, n567, n568, n574, n580, n586, n646, nI_add, nI_mul, Nat.zero_add, Nat.add_zero, ob_some, ob2_some, nI_le_, nI_lt_, nI_eq_, zl Z, M_high Z I J L]
      by_cases c1 : fpl a i < a 558
      · rw [if_pos c1, if_pos ((hQ i hi).mpr ⟨hq, fun _ z => by omega⟩)]
      · rw [if_neg c1]
        by_cases c2 : high a i < lowk a t
        · rw [if_pos c2, if_pos ((hQ i hi).mpr ⟨hq, fun _ _ => Or.inl c2⟩)]
        · rw [if_neg c2]
          by_cases c3 : high a i = lowk a t
          · rw [if_pos c3]
            by_cases c4 : i ≤ t
            · have c5 : ¬ Q (i + 1) := fun z => by
                rcases ((hQ i hi).mp z).2 hs (by omega) with y | y <;> omega
              rw [if_pos c4, if_neg c5]
            · rw [if_neg c4, if_pos ((hQ i hi).mpr ⟨hq, fun _ _ => Or.inr ⟨c3, by omega⟩⟩)]
          · have c5 : ¬ Q (i + 1) := fun z => by
              rcases ((hQ i hi).mp z).2 hs (by omega) with y | y <;> omega
            rw [if_neg c3, if_neg c5]
    · rw [if_neg hs, if_pos (show (0 : Int32) = 0 from rfl), if_pos ((hQ i hi).mpr ⟨hq, fun z => absurd z hs⟩), n1, nI_add]
  have mono : ∀ d i, i + d = 60 → Q 60 → Q i := by
    intro d
    induction d with
    | zero => intro i hi hq; rw [show i = 60 by omega]; exact hq
    | succ d ih =>
      intro i hi hq
      exact ((hQ i (by omega)).mp (ih (i + 1) (by omega) hq)).1
  subst hN
  by_cases h60 : Q 60
  · rw [if_pos h60, if_pos (mono 60 0 (by omega) h60)]
    refine loopN (fun n i => lX6_isOver_99 111 n w (nI t) (nI (lowk a t)) 1 (nI i)) 60 _ (fun n i hi => ?_) (fun n => ?_) 4096 (by omega)
    · show lX6_isOver_99 111 (n + 1) w (nI t) (nI (lowk a t)) 1 (nI i) = _
      rw [st n i hi (mono (60 - i) i (by omega) h60), if_pos (mono (60 - (i + 1)) (i + 1) (by omega) h60)]
    · show lX6_isOver_99 111 (n + 1) w (nI t) (nI (lowk a t)) 1 (nI 60) = _
      rw [lX6_isOver_99, if_pos (by decide), rtZ_1]
      rfl
  · rw [if_neg h60]
    obtain ⟨k, hk, hnk, hlt⟩ := least (P := fun i => ¬ Q i) 60 h60
    have hlt' : ∀ j, j < k → Q j := fun j hj => Classical.byContradiction (hlt j hj)
    have fin : ∀ n, lX6_isOver_99 111 (n + 1) w (nI t) (nI (lowk a t)) 0 (nI k) = some (0, w) := by
      intro n
      rw [lX6_isOver_99]
      by_cases hk6 : k = 60
      · rw [hk6, if_pos (by decide), rtZ_0]; rfl
      · rw [if_neg (show ¬ (60 : Int32) ≤ nI k by rw [n60, nI_le_ (by omega) (by omega)]; omega), if_pos rfl, rtZ_0]; rfl
    refine loopN (fun n i => lX6_isOver_99 111 n w (nI t) (nI (lowk a t)) (@ite Int32 (Q i) (Classical.propDecidable _) 1 0) (nI i)) k _ (fun n i hi => ?_) (fun n => ?_) 4096 (by omega)
    · show lX6_isOver_99 111 (n + 1) w (nI t) (nI (lowk a t)) _ (nI i) = _
      rw [if_pos (hlt' i hi), st n i (by omega) (hlt' i hi)]
    · show lX6_isOver_99 111 (n + 1) w (nI t) (nI (lowk a t)) _ (nI k) = _
      rw [if_neg hnk, fin]
theorem M_isOver (Z : ZA (w.1 112) a) (I : IO a) (J : IR0 a) (F : FR a f m) : ∃ w', fX6_isOver w 111 = some (@ite Int32 (ov a) (Classical.propDecidable _) 1 0, w') ∧ Fr 116 117 w w' := by
  have hw := I.2.2.2.2.2.1
  have hm := FR_m F
  have s1 : ∀ n i, i < 6 → lX6_isOver_4 111 (n + 1) w (nI (cnt (canr a) i)) (nI i) = lX6_isOver_4 111 n w (nI (cnt (canr a) (i + 1))) (nI (i + 1)) := by
    intro n i hi
    rw [lX6_isOver_4, if_neg (show ¬ (6 : Int32) ≤ nI i by rw [n6, nI_le_ (by omega) (by omega)]; omega), M_canr Z I J hi, ob_some]
    by_cases h : canr a i
    · rw [if_pos h, if_neg (show ¬ (1 : Int32) = 0 by decide), cnt_s h, n1, nI_add, nI_add]
    · rw [if_neg h, if_pos (show (0 : Int32) = 0 from rfl), cnt_n h, n1, l0, nI_add, nI_add, Nat.add_zero]
  by_cases hc : ∃ l, l < 6 ∧ canr a l
  · have hpos : ¬ nI (cnt (canr a) 6) = 0 := by
      obtain ⟨l, hl, hcl⟩ := hc
      have h1 := cnt_lt (P := fun _ => False) (Q := canr a) hl (fun z => z) hcl (fun i _ z => absurd z (fun y => y))
      have h2 := cnt_le (canr a) 6
      rw [l0, nI_eq_ (by omega) (by omega)]
      omega
    by_cases hs : a 558 ≤ m
    · have hlast : f (a 558 - 1) < 60 := (F.2.1 _ (by omega)).1
      obtain ⟨w1, e1, F1, L1⟩ := M_reckon Z I J
      have Z1 : ZA (w1.1 112) a := by rw [F1.1 112 (by omega)]; exact Z
      have key := M_ov99 Z1 I J L1 (t := f (a 558 - 1)) hlast (Q := fun i => wbd a < lowk a (f (a 558 - 1)) ∧ ∀ d, d < i → sn a d → a 558 ≤ fpl a d → high a d < lowk a (f (a 558 - 1)) ∨ (high a d = lowk a (f (a 558 - 1)) ∧ f (a 558 - 1) < d)) (fun i hi => ⟨fun ⟨z1, z2⟩ => ⟨⟨z1, fun d hd => z2 d (by omega)⟩, z2 i (by omega)⟩, fun ⟨⟨z1, z2⟩, z3⟩ => ⟨z1, fun d hd => by
        by_cases hdi : d = i
        · subst hdi; exact z3
        · exact z2 d (by omega)⟩⟩) 4096 rfl
      have hov := ov_iff F I hc
      have e60 : ov a ↔ (wbd a < lowk a (f (a 558 - 1)) ∧ ∀ d, d < 60 → sn a d → a 558 ≤ fpl a d → high a d < lowk a (f (a 558 - 1)) ∨ (high a d = lowk a (f (a 558 - 1)) ∧ f (a 558 - 1) < d)) := ⟨fun z => (hov.mp z).2, fun z => hov.mpr ⟨hs, z⟩⟩
      have b1 := wbd_le I
      have b2 := lowk_le I (f (a 558 - 1))
      refine ⟨w1, ?_, F1⟩
      refine loopN (fun n i => lX6_isOver_4 111 n w (nI (cnt (canr a) i)) (nI i)) 6 _ (fun n i hi => s1 n i hi) (fun n => ?_) 4096 (by omega)
      show lX6_isOver_4 111 (n + 1) w (nI (cnt (canr a) 6)) (nI 6) = _
      rw [lX6_isOver_4, if_pos (by decide), if_neg hpos, M_smany Z I J, ob_some, hm]
      have em : m < 61 := by have := F.1; omega
      have e0 : nI (a 558) - nI 1 = nI (a 558 - 1) := nI_sub (by omega)
      have eL : ldI 60 w1 116 (nI (f (a 558 - 1))) = some (nI (lowk a (f (a 558 - 1)))) := by rw [ldI_n hlast (by omega), L1 _ hlast]
      simp (disch := omega) only [Nat.reduceAdd, Nat.reduceMul, Nat.reduceSub, l0, n1, n2, n3, n4, n5, n6, n40, n60, n240, n480, n486, n492, n498, n558, n559, n560, n561, n562, n563, n564, n565, n566, n567, n568, n574, n580, n586, n646, nI_add, nI_mul, Nat.zero_add, Nat.add_zero, ob_some, ob2_some, nI_le_, nI_lt_, nI_eq_, zl Z, e1, zl Z1, e0, M_frontAt Z1 I J L1 F, eL, M_wbd Z1 I J]
      rw [if_pos hs]
      by_cases hb : wbd a < lowk a (f (a 558 - 1))
      · rw [if_neg (by omega)]
        rw [if_pos (show _ ∧ ∀ d, d < 0 → _ from ⟨hb, fun d hd => by omega⟩)] at key
        rw [← n1, ← l0, key]
        by_cases ho : ov a
        · rw [if_pos ho, if_pos (e60.mp ho)]
        · rw [if_neg ho, if_neg (fun z => ho (e60.mpr z))]
      · rw [if_pos (by omega)]
        have hno : ¬ ov a := fun z => hb (e60.mp z).1
        rw [if_neg (show ¬ (_ ∧ ∀ d, d < 0 → _) from fun z => hb z.1), if_neg (show ¬ (_ ∧ ∀ d, d < 60 → _) from fun z => hb z.1)] at key
        rw [← l0, key, if_neg hno]
    · have hno : ¬ ov a := fun z => hs ((ov_iff F I hc).mp z).1
      refine ⟨w, ?_, Fr.rfl'⟩
      refine loopN (fun n i => lX6_isOver_4 111 n w (nI (cnt (canr a) i)) (nI i)) 6 _ (fun n i hi => s1 n i hi) (fun n => ?_) 4096 (by omega)
      show lX6_isOver_4 111 (n + 1) w (nI (cnt (canr a) 6)) (nI 6) = _
      have em : m < 61 := by have := F.1; omega
      rw [lX6_isOver_4, if_pos (by decide), if_neg hpos, M_smany Z I J, ob_some, hm]
      simp (disch := omega) only [Nat.reduceAdd, Nat.reduceMul, Nat.reduceSub, l0, n1, n2, n3, n4, n5, n6, n40, n60, n240, n480, n486, n492, n498, n558, n559, n560, n561, n562, n563, n564, n565, n566, n567, n568, n574, n580, n586, n646, nI_add, nI_mul, Nat.zero_add, Nat.add_zero, ob_some, ob2_some, nI_le_, nI_lt_, nI_eq_, zl Z]
      rw [if_neg hs, if_neg hno]
      rfl
  · have hall : ∀ l, l < 6 → ¬ canr a l := fun l hl z => hc ⟨l, hl, z⟩
    have hov : ov a := Or.inl hall
    refine ⟨w, ?_, Fr.rfl'⟩
    refine loopN (fun n i => lX6_isOver_4 111 n w (nI (cnt (canr a) i)) (nI i)) 6 _ (fun n i hi => s1 n i hi) (fun n => ?_) 4096 (by omega)
    show lX6_isOver_4 111 (n + 1) w (nI (cnt (canr a) 6)) (nI 6) = _
    rw [lX6_isOver_4, if_pos (by decide), cnt_0 hall, if_pos (by decide), if_pos hov]
    rfl
def encM (n : Nat) : Int32 := if n = 6 then -1 else nI n
theorem M_nextList (Z : ZA (w.1 112) a) (I : IO a) (J : IR0 a) : fX6_nextList w 111 = some (encM (nx a 6)) := by
  have h3 := J.2.2.2.2.2.2.2.2.2.1
  have hway := J.2.2.2.2.2.2.2.1
  refine loopN (fun n i => lX6_nextList_4 111 n w (encM (nx a i)) (nI (i + 1))) 6 _ (fun n i hi => ?_) (fun n => ?_) 4096 (by omega)
  · show lX6_nextList_4 111 (n + 1) w (encM (nx a i)) (nI (i + 1)) = _
    have hcl := cand_lt (a := a) hi
    have hn := nx_le (a := a) (k := i) (by omega)
    have e6 : ¬ (6 : Int32) < nI (i + 1) := by rw [n6, nI_lt_ (by omega) (by omega)]; omega
    have enc0 : encM (nx a i) < 0 ↔ nx a i = 6 := by
      unfold encM
      by_cases h : nx a i = 6
      · rw [if_pos h]; exact ⟨fun _ => h, fun _ => by decide⟩
      · rw [if_neg h]; exact ⟨fun z => absurd z (nI_pos (by omega)), fun z => absurd z h⟩
    have encn : ∀ b, b < 6 → encM b = nI b := fun b hb => by unfold encM; rw [if_neg (by omega)]
    have ecn : nI (a 563) - nI 1 + nI (i + 1) = nI (a 563 + i) := by
      rw [show nI (i + 1) = nI 1 + nI i by rw [nI_add, Nat.add_comm 1 i], ← Int32.add_assoc, Int32.sub_add_cancel, nI_add]
    rw [lX6_nextList_4, if_neg e6]
    by_cases hw0 : a 560 = 0
    · have ec : cand a i = (a 563 + i) % 6 := by unfold cand; rw [if_pos hw0]
      have em : nI (a 563 + i) - nI (a 563 + i) / nI 6 * nI 6 = nI (cand a i) := by rw [ec]; exact nI_mod (by omega) (by omega) (by omega)
      have hch : fX6_isChosenBefore w 111 (nI (cand a i)) (encM (nx a i)) = some 0 := by
        unfold fX6_isChosenBefore
        simp (disch := omega) only [Nat.reduceAdd, Nat.reduceMul, Nat.reduceSub, l0, n1, n2, n3, n4, n5, n6, n40, n60, n240, n480, n486, n492, n498, n558, n559, n560, n561, n562, n563, n564, n565, n566, n567, n568, n574, n580, n586, n646, nI_add, nI_mul, Nat.zero_add, Nat.add_zero, ob_some, ob2_some, nI_le_, nI_lt_, nI_eq_, zl Z]
        rw [if_pos hw0]
        rfl
      have hnc : ∀ b, ¬ chs a (cand a i) b := fun b z => by rcases z with z | z <;> omega
      have e0 : nI (a 560) = 0 := by rw [hw0]; rfl
      rw [n560, zl Z (by omega) (by omega), ob_some, if_pos e0, n563, z563 Z, ob_some, ecn, n6, em, M_canr Z I J hcl, ob_some]
      by_cases hc : canr a (cand a i)
      · rw [if_pos hc, if_neg (show ¬ (1 : Int32) = 0 by decide)]
        by_cases h6 : nx a i = 6
        · rw [if_pos (enc0.mpr h6), nx_y hc (Or.inl h6), encn _ hcl, n1, nI_add]
        · rw [if_neg (fun z => h6 (enc0.mp z)), hch, ob_some, if_pos rfl, nx_n2 h6 (hnc _), n1, nI_add]
      · rw [if_neg hc, if_pos (show (0 : Int32) = 0 from rfl), nx_n hc, n1, nI_add]
    · have ec : cand a i = i := by unfold cand; rw [if_neg hw0]
      have e0 : ¬ nI (a 560) = 0 := by rw [l0, nI_eq_ (by omega) (by omega)]; exact hw0
      have e1 : nI (i + 1) - 1 = nI i := by rw [n1, nI_sub (by omega)]; congr 1
      rw [n560, zl Z (by omega) (by omega), ob_some, if_neg e0, e1, M_canr Z I J hi, ob_some]
      rw [ec] at hcl
      by_cases hc : canr a i
      · have hc' : canr a (cand a i) := by rw [ec]; exact hc
        rw [if_pos hc, if_neg (show ¬ (1 : Int32) = 0 by decide)]
        by_cases h6 : nx a i = 6
        · rw [if_pos (enc0.mpr h6), nx_y hc' (Or.inl h6), ec, encn _ hcl, n1, nI_add]
        · have hb := (hn.2 h6).1
          have hch : fX6_isChosenBefore w 111 (nI i) (encM (nx a i)) = some (@ite Int32 (chs a (cand a i) (nx a i)) (Classical.propDecidable _) 1 0) := by
            have t1 := wtb_le I hi
            have t2 := wtb_le I hb
            have s1 := (I.1 i hi).1
            have s2 := (I.1 (nx a i) hb).1
            unfold fX6_isChosenBefore
            rw [encn _ hb, n560, zl Z (by omega) (by omega), ob_some, if_neg e0, ob_some, ec]
            by_cases hw1 : a 560 = 1
            · rw [if_pos (by rw [hw1]; rfl)]
              simp (disch := omega) only [Nat.reduceAdd, Nat.reduceMul, Nat.reduceSub, l0, n1, n2, n3, n4, n5, n6, n40, n60, n240, n480, n486, n492, n498, n558, n559, n560, n561, n562, n563, n564, n565, n566, n567, n568, n574, n580, n586, n646, nI_add, nI_mul, Nat.zero_add, Nat.add_zero, ob_some, ob2_some, nI_le_, nI_lt_, nI_eq_, zl Z, M_tb Z I J]
              by_cases hlt : a (486 + nx a i) * tb a (nx a i) < a (486 + i) * tb a i
              · rw [if_neg (by omega), if_pos (show chs a i (nx a i) from Or.inl ⟨hw1, hlt⟩)]; rfl
              · rw [if_pos (by omega), if_neg (show ¬ chs a i (nx a i) by rintro (z | z); exact hlt z.2; omega)]; rfl
            · rw [if_neg (by rw [n1, nI_eq_ (by omega) (by omega)]; exact hw1), M_left Z J hi, M_left Z J hb, ob_some, ob_some]
              by_cases hlt : a (480 + i) - a (568 + i) < a (480 + nx a i) - a (568 + nx a i)
              · rw [if_neg (by rw [nI_le_ (by omega) (by omega)]; omega), if_pos (show chs a i (nx a i) from Or.inr ⟨by omega, hlt⟩)]; rfl
              · rw [if_pos (by rw [nI_le_ (by omega) (by omega)]; omega), if_neg (show ¬ chs a i (nx a i) by rintro (z | z); omega; exact hlt z.2)]; rfl
          rw [if_neg (fun z => h6 (enc0.mp z)), hch, ob_some]
          by_cases hcc : chs a (cand a i) (nx a i)
          · rw [if_pos hcc, if_neg (show ¬ (1 : Int32) = 0 by decide), nx_y hc' (Or.inr hcc), ec, encn _ hcl, n1, nI_add]
          · rw [if_neg hcc, if_pos (show (0 : Int32) = 0 from rfl), nx_n2 h6 hcc, n1, nI_add]
      · have hc' : ¬ canr a (cand a i) := by rw [ec]; exact hc
        rw [if_neg hc, if_pos (show (0 : Int32) = 0 from rfl), nx_n hc', n1, nI_add]
  · show lX6_nextList_4 111 (n + 1) w (encM (nx a 6)) (nI 7) = _
    rw [lX6_nextList_4, if_pos (by decide)]
end MV
