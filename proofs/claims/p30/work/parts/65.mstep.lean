/-! PURE PART: a step of the reference -/
/-- looked up in list o, when d is read in list l -/
def lku (a : Nat → Nat) (l d o : Nat) : Prop := a (586 + d) = 0 ∧ a 561 = 1 ∧ o ≠ l ∧ 0 < a (486 + o)
def ST (a a' : Nat → Nat) (l d : Nat) : Prop :=
  (∀ k, k < 559 → a' k = a k) ∧ (a' 559 = a 559 ∧ a' 560 = a 560 ∧ a' 561 = a 561 ∧ a' 566 = a 566) ∧
  (a' 563 = l + 1 ∧ a' 564 = a 564 + 1 ∧ a' 565 = a 565 + a (498 + d) ∧ a' 567 = a 567 + (if tb a l < bd a l then 1 else 0)) ∧
  (∀ m, m < 6 → a' (568 + m) = if m = l then a (568 + m) + 1 else a (568 + m)) ∧
  (∀ m, m < 6 → a' (574 + m) = if m = l ∧ tb a l < bd a l then 1 else a (574 + m)) ∧
  (∀ m, m < 6 → a' (580 + m) = a (580 + m) + @ite Nat (a (498 + d) = 0 ∧ lku a l d m) (Classical.propDecidable _) 1 0) ∧
  (∀ e, e < 60 → e ≠ d → a' (586 + e) = a (586 + e) ∧ a' (646 + e) = a (646 + e)) ∧
  (a (498 + d) ≠ 0 → a' (586 + d) = a (586 + d) ∧ a' (646 + d) = a (646 + d)) ∧
  (a (498 + d) = 0 → a' (586 + d) = (if a (586 + d) = 0 then a 564 + 1 else a (586 + d)) ∧ a' (646 + d) < 64 ∧ ∀ o, o < 6 → ((a' (646 + d)).testBit o = true ↔ (a (646 + d)).testBit o = true ∨ o = l ∨ lku a l d o))
theorem IO_of {a a' : Nat → Nat} (I : IO a) (h : ∀ k, k < 560 → a' k = a k) : IO a' := by
  refine ⟨fun l hl => ?_, fun l p hl hp => ?_, fun l p q hl hpq hq => ?_, fun l p q hl hpq hq => ?_, fun d hd => ?_, ?_, ?_⟩
  · rw [h (480 + l) (by omega), h (486 + l) (by omega), h (492 + l) (by omega)]; exact I.1 l hl
  · rw [h (480 + l) (by omega)] at hp
    have := (I.1 l hl).1
    rw [h (40 * l + p) (by omega), h (240 + 40 * l + p) (by omega)]
    exact I.2.1 l p hl hp
  · rw [h (480 + l) (by omega)] at hq
    have := (I.1 l hl).1
    rw [h (40 * l + p) (by omega), h (240 + 40 * l + p) (by omega), h (40 * l + q) (by omega), h (240 + 40 * l + q) (by omega)]
    exact I.2.2.1 l p q hl hpq hq
  · rw [h (480 + l) (by omega)] at hq
    have := (I.1 l hl).1
    rw [h (40 * l + p) (by omega), h (40 * l + q) (by omega)]
    exact I.2.2.2.1 l p q hl hpq hq
  · rw [h (498 + d) (by omega)]; exact I.2.2.2.2.1 d hd
  · rw [h 558 (by omega)]; exact I.2.2.2.2.2.1
  · rw [h 559 (by omega)]; exact I.2.2.2.2.2.2
theorem ST_IO {a a' : Nat → Nat} {l d : Nat} (S : ST a a' l d) (I : IO a) : IO a' := IO_of I (fun k hk => by
  by_cases h : k = 559
  · rw [h]; exact S.2.1.1
  · exact S.1 k (by omega))
theorem tb0 {x o : Nat} (h : x.testBit o = true) : x ≠ 0 := fun z => by rw [z] at h; simp at h
theorem ST_IR0 {a a' : Nat → Nat} {l d : Nat} (S : ST a a' l d) (I : IO a) (J : IR0 a) (hl : l < 6) (hc : canr a l) (hd : d = a (40 * l + a (568 + l))) : IR0 a' := by
  obtain ⟨s1, s2, s3, s4, s5, s6, s7, s8, s9⟩ := S
  obtain ⟨j1, j2, j3, j4, j5, j6, j7, j8, j9, j10, j11⟩ := J
  have hd60 : d < 60 := by rw [hd]; exact (I.2.1 l _ hl hc.2).1
  have hg := I.2.2.2.2.1 d hd60
  have nw : ∀ e, e < 60 → a' (498 + e) = a (498 + e) := fun e he => s1 _ (by omega)
  refine ⟨fun m hm => ?_, fun e he => ?_, fun e o he ho hb => ?_, fun e he => ?_, fun e he hs => ?_, fun m p hm hp hg' => ?_, ?_, ?_, ?_, ?_, fun e he => ?_⟩
  · have h1 := j1 m hm
    rw [s4 m hm, s5 m hm, s1 (480 + m) (by omega)]
    refine ⟨?_, ?_⟩
    · by_cases h : m = l
      · subst h; rw [if_pos rfl]; have := hc.2; omega
      · rw [if_neg h]; exact h1.1
    · split
      · omega
      · exact h1.2
  · by_cases h : e = d
    · subst h
      by_cases hz : a (498 + e) = 0
      · exact (s9 hz).2.1
      · rw [(s8 hz).2]; exact j2 e he
    · rw [(s7 e he h).2]; exact j2 e he
  · rw [s1 _ (by omega)]
    by_cases h : e = d
    · subst h
      by_cases hz : a (498 + e) = 0
      · rcases ((s9 hz).2.2 o ho).mp hb with z | z | z
        · exact j3 e o he ho z
        · rw [z]; exact hc.1
        · exact z.2.2.2
      · rw [(s8 hz).2] at hb; exact j3 e o he ho hb
    · rw [(s7 e he h).2] at hb; exact j3 e o he ho hb
  · unfold sn
    by_cases h : e = d
    · subst h
      by_cases hz : a (498 + e) = 0
      · have h9 := s9 hz
        refine ⟨fun _ => tb0 ((h9.2.2 l hl).mpr (Or.inr (Or.inl rfl))), fun _ => ?_⟩
        rw [h9.1]
        split <;> omega
      · rw [(s8 hz).1, (s8 hz).2]; exact j4 e he
    · rw [(s7 e he h).1, (s7 e he h).2]; exact j4 e he
  · rw [nw e he]
    by_cases h : e = d
    · subst h
      apply Classical.byContradiction
      intro hz
      unfold sn at hs
      rw [(s8 hz).1] at hs
      exact hz (j5 e he hs)
    · unfold sn at hs
      rw [(s7 e he h).1] at hs
      exact j5 e he hs
  · have hzm := (I.1 m hm).1
    have h1 := j1 m hm
    have hp40 : p < 40 := by
      rw [s4 m hm] at hp
      by_cases h : m = l
      · rw [if_pos h] at hp; have := hc.2; rw [← h] at this; omega
      · rw [if_neg h] at hp; omega
    rw [s1 (40 * m + p) (by omega)] at hg' ⊢
    by_cases hold : p < a (568 + m)
    · have he : a (40 * m + p) < 60 := (I.2.1 m p hm (by omega)).1
      rw [nw _ he] at hg'
      have hb := j6 m p hm hold hg'
      by_cases h : a (40 * m + p) = d
      · rw [h] at hg' hb ⊢
        exact ((s9 hg').2.2 m hm).mpr (Or.inl hb)
      · rw [(s7 _ he h).2]; exact hb
    · rw [s4 m hm] at hp
      by_cases h : m = l
      · rw [if_pos h] at hp
        have hpe : p = a (568 + m) := by omega
        have hde : a (40 * m + p) = d := by rw [hd, hpe, h]
        rw [hde] at hg' ⊢
        rw [nw _ hd60] at hg'
        exact ((s9 hg').2.2 m hm).mpr (Or.inr (Or.inl h))
      · rw [if_neg h] at hp
        omega
  · rw [s3.2.1, j7]
    have := sm_chg (f := fun m => a' (568 + m)) (g := fun m => a (568 + m)) hl (fun m hm hne => by rw [s4 m hm, if_neg hne])
    have e := s4 l hl
    rw [if_pos rfl] at e
    simp only [e] at this
    omega
  · rw [s2.2.1]; exact j8
  · rw [s2.2.2.1]; exact j9
  · rw [s3.1]; omega
  · rw [s3.2.1]
    have h11 := j11 e he
    by_cases h : e = d
    · subst h
      by_cases hz : a (498 + e) = 0
      · rw [(s9 hz).1]
        split <;> omega
      · rw [(s8 hz).1]; omega
    · rw [(s7 e he h).1]; omega
noncomputable def ors (x : Nat) (P : Nat → Prop) : Nat → Nat
  | 0 => x
  | n + 1 => @ite Nat (P n) (Classical.propDecidable _) (ors x P n ||| 2 ^ n) (ors x P n)
theorem ors_y {x : Nat} {P : Nat → Prop} {n : Nat} (h : P n) : ors x P (n + 1) = ors x P n ||| 2 ^ n := by rw [ors, if_pos h]
theorem ors_n {x : Nat} {P : Nat → Prop} {n : Nat} (h : ¬ P n) : ors x P (n + 1) = ors x P n := by rw [ors, if_neg h]
theorem ors_lt {x : Nat} (hx : x < 64) (P : Nat → Prop) : ∀ n, n ≤ 6 → ors x P n < 64 := by
  intro n
  induction n with
  | zero => intro _; exact hx
  | succ n ih =>
    intro h
    by_cases hp : P n
    · rw [ors_y hp]; exact sb_lt _ (ih (by omega)) n (by omega)
    · rw [ors_n hp]; exact ih (by omega)
theorem ors_tb {x : Nat} (hx : x < 64) {P : Nat → Prop} : ∀ n, n ≤ 6 → ∀ k, k < 6 → ((ors x P n).testBit k = true ↔ x.testBit k = true ∨ (k < n ∧ P k)) := by
  intro n
  induction n with
  | zero => intro _ k _; simp [ors]
  | succ n ih =>
    intro h k hk
    have h1 := ih (by omega) k hk
    by_cases hp : P n
    · rw [ors_y hp, sb_tb _ (ors_lt hx P n (by omega)) n (by omega) k hk]
      simp only [Bool.or_eq_true, decide_eq_true_eq, h1]
      constructor
      · rintro ((h2 | ⟨h2, h3⟩) | h2)
        · exact Or.inl h2
        · exact Or.inr ⟨by omega, h3⟩
        · subst h2; exact Or.inr ⟨by omega, hp⟩
      · rintro (h2 | ⟨h2, h3⟩)
        · exact Or.inl (Or.inl h2)
        · by_cases hkn : k = n
          · exact Or.inr hkn
          · exact Or.inl (Or.inr ⟨by omega, h3⟩)
    · rw [ors_n hp, h1]
      constructor
      · rintro (h2 | ⟨h2, h3⟩)
        · exact Or.inl h2
        · exact Or.inr ⟨by omega, h3⟩
      · rintro (h2 | ⟨h2, h3⟩)
        · exact Or.inl h2
        · refine Or.inr ⟨?_, h3⟩
          have : k ≠ n := fun z => hp (z ▸ h3)
          omega
noncomputable def lkf (a : Nat → Nat) (P : Nat → Prop) (d i : Nat) : Nat → Nat := fun k => if k = 646 + d then ors (a (646 + d)) P i else if 580 ≤ k ∧ k < 580 + i ∧ k < 586 then a k + @ite Nat (P (k - 580)) (Classical.propDecidable _) 1 0 else a k
section MST
variable {w : Wd} {a f : Nat → Nat} {m : Nat}
theorem zs2 {w : Wd} {a : Nat → Nat} (Z : ZA (w.1 112) a) (k v : Nat) (h : k < 706) (h2 : k ≠ 563) : ∃ w', stI 706 w 112 (nI k) (nI v) = some w' ∧ ZA (w'.1 112) (up a k v) ∧ Fr 112 113 w w' := by
  obtain ⟨w', h1, h3, h4, -⟩ := zs Z (k := k) (v := v) h h2
  exact ⟨w', h1, h3, h4⟩
theorem zs563 {w : Wd} {a : Nat → Nat} (Z : ZA (w.1 112) a) (l : Nat) : ∃ w', stI 706 w 112 (nI 563) (nI l) = some w' ∧ ZA (w'.1 112) (up a 563 (l + 1)) ∧ Fr 112 113 w w' := by
  refine ⟨_, stI_z (by omega), ⟨fun k hk h2 => ?_, ?_⟩, Fr.rfl'.sI (by omega) (by omega)⟩
  · rw [sI_1, if_pos rfl, upd_1, if_neg h2, up_n _ _ h2]; exact Z.1 k hk h2
  · rw [sI_1, if_pos rfl, upd_1, if_pos rfl, up_s, ← nI_add]
    show nI l = nI l + nI 1 - nI 1
    rw [Int32.add_sub_cancel]
theorem M_sees57 {P : Nat → Prop} (Z : ZA (w.1 112) a) (I : IO a) {l d x : Nat} (hl : l < 6) (hd : d < 60) (hk : a (646 + d) < 64) (hx : x ≤ 1) (hP : ∀ o, o < 6 → (P o ↔ x ≠ 0 ∧ a 561 = 1 ∧ o ≠ l ∧ 0 < a (486 + o))) (h561 : a 561 ≤ 1) : ∃ w', lX6_sees_57 111 4096 w (nI l) (nI d) (nI x) 0 = some w' ∧ ZA (w'.1 112) (lkf a P d 6) ∧ Fr 112 113 w w' := by
  refine loopI (fun n w' i => lX6_sees_57 111 n w' (nI l) (nI d) (nI x) (nI i)) (fun i w' => ZA (w'.1 112) (lkf a P d i) ∧ Fr 112 113 w w') 0 6 (by omega) (fun q => ∃ w', q = some w' ∧ ZA (w'.1 112) (lkf a P d 6) ∧ Fr 112 113 w w') (fun n i w' hi hi2 hI => ?_) (fun n w' hI => ?_) 4096 w (by omega) ⟨?_, Fr.rfl'⟩
  · obtain ⟨Z', F'⟩ := hI
    have g561 : lkf a P d i 561 = a 561 := by unfold lkf; rw [if_neg (by omega), if_neg (by omega)]
    have gw : lkf a P d i (486 + i) = a (486 + i) := by unfold lkf; rw [if_neg (by omega), if_neg (by omega)]
    have hwt := (I.1 i hi2).2.1
    have I' : IO (lkf a P d i) := IO_of I (fun k hk => by unfold lkf; rw [if_neg (by omega), if_neg (by omega)])
    have hsk : ¬ P i → lkf a P d (i + 1) = lkf a P d i := by
      intro hn
      funext k
      unfold lkf
      by_cases h1 : k = 646 + d
      · rw [if_pos h1, if_pos h1, ors_n hn]
      · rw [if_neg h1, if_neg h1]
        by_cases h2 : k = 580 + i
        · rw [if_pos (show 580 ≤ k ∧ k < 580 + (i + 1) ∧ k < 586 by omega), if_neg (show ¬ P (k - 580) by rw [h2, Nat.add_sub_cancel_left]; exact hn), if_neg (show ¬ (580 ≤ k ∧ k < 580 + i ∧ k < 586) by omega)]; rfl
        · by_cases h3 : 580 ≤ k ∧ k < 580 + i ∧ k < 586
          · rw [if_pos h3, if_pos (by omega)]
          · rw [if_neg h3, if_neg (by omega)]
    have e6 : ¬ (6 : Int32) ≤ nI i := by rw [n6, nI_le_ (by omega) (by omega)]; omega
    by_cases hp : P i
    · have hpp := (hP i hi2).mp hp
      have g1 : lkf a P d i (580 + i) = a (580 + i) := by unfold lkf; rw [if_neg (by omega), if_neg (by omega)]
      have g2 : lkf a P d i (646 + d) = ors (a (646 + d)) P i := by unfold lkf; rw [if_pos rfl]
      obtain ⟨w2, e2, Z2, F2⟩ := zs2 Z' (580 + i) (a (580 + i) + 1) (by omega) (by omega)
      obtain ⟨w3, e3, Z3, F3⟩ := zs2 Z2 (646 + d) (ors (a (646 + d)) P (i + 1)) (by omega) (by omega)
      have g3 : up (lkf a P d i) (580 + i) (a (580 + i) + 1) (646 + d) = ors (a (646 + d)) P i := by rw [up_n _ _ (by omega), g2]
      refine ⟨w3, ⟨?_, (F'.trans F2).trans F3⟩, ?_⟩
      · have : up (up (lkf a P d i) (580 + i) (a (580 + i) + 1)) (646 + d) (ors (a (646 + d)) P (i + 1)) = lkf a P d (i + 1) := by
          funext k
          unfold up lkf
          by_cases h1 : k = 646 + d
          · rw [if_pos h1, if_pos h1]
          · simp only [if_neg h1]
            by_cases h2 : k = 580 + i
            · rw [if_pos h2, if_pos (show 580 ≤ k ∧ k < 580 + (i + 1) ∧ k < 586 by omega), if_pos (show P (k - 580) by rw [h2, Nat.add_sub_cancel_left]; exact hp), h2]
            · rw [if_neg h2]
              by_cases h3 : 580 ≤ k ∧ k < 580 + i ∧ k < 586
              · rw [if_pos h3, if_pos (show 580 ≤ k ∧ k < 580 + (i + 1) ∧ k < 586 by omega)]
              · rw [if_neg h3, if_neg (show ¬ (580 ≤ k ∧ k < 580 + (i + 1) ∧ k < 586) by omega)]
        rw [← this]
        exact Z3
      · show lX6_sees_57 111 (n + 1) w' (nI l) (nI d) (nI x) (nI i) = _
        have o1 := sb_or _ (ors_lt hk P i (by omega)) i hi2
        rw [lX6_sees_57, if_neg e6, if_neg (show ¬ nI x = 0 by rw [l0, nI_eq_ (by omega) (by omega)]; exact hpp.1), n561, zl Z' (by omega) (by omega), g561, hpp.2.1, ob_some, if_pos (show nI 1 = 1 from rfl), if_neg (show ¬ nI i = nI l by rw [nI_eq_ (by omega) (by omega)]; exact hpp.2.2.1), M_isAsked Z' I' hi2, gw, if_pos hpp.2.2.2, ob_some, if_neg (show ¬ (1 : Int32) = 0 by decide)]
        rw [n580, nI_add, zl Z' (by omega) (by omega), g1, ob_some, n646, nI_add]
        rw [show nI (a (580 + i)) + 1 = nI (a (580 + i) + 1) by rw [n1, nI_add], e2, ob_some, zl Z2 (by omega) (by omega), g3, ob_some, o1, ← ors_y hp, e3, ob_some, n1, nI_add]
    · refine ⟨w', ⟨by rw [hsk hp]; exact Z', F'⟩, ?_⟩
      show lX6_sees_57 111 (n + 1) w' (nI l) (nI d) (nI x) (nI i) = _
      rw [lX6_sees_57, if_neg e6]
      by_cases h1 : x = 0
      · rw [if_pos (show nI x = 0 by rw [h1]; rfl), n1, nI_add]
      · rw [if_neg (show ¬ nI x = 0 by rw [l0, nI_eq_ (by omega) (by omega)]; exact h1), n561, zl Z' (by omega) (by omega), g561, ob_some]
        by_cases h2 : a 561 = 1
        · rw [h2, if_pos (show nI 1 = 1 from rfl)]
          by_cases h3 : i = l
          · rw [if_pos (show nI i = nI l by rw [h3]), n1, nI_add]
          · rw [if_neg (show ¬ nI i = nI l by rw [nI_eq_ (by omega) (by omega)]; exact h3), M_isAsked Z' I' hi2, gw, ob_some]
            by_cases h4 : 0 < a (486 + i)
            · exact absurd ((hP i hi2).mpr ⟨h1, h2, h3, h4⟩) hp
            · rw [if_neg h4, if_pos (show (0 : Int32) = 0 from rfl), n1, nI_add]
        · rw [if_neg (show ¬ nI (a 561) = 1 by rw [n1, nI_eq_ (by omega) (by omega)]; exact h2), n1, nI_add]
  · obtain ⟨Z', F'⟩ := hI
    refine ⟨w', ?_, Z', F'⟩
    show lX6_sees_57 111 (n + 1) w' (nI l) (nI d) (nI x) (nI 6) = _
    rw [lX6_sees_57, if_pos (by decide)]
  · have : lkf a P d 0 = a := by
      funext k
      unfold lkf
      by_cases h1 : k = 646 + d
      · rw [if_pos h1, h1]; rfl
      · rw [if_neg h1, if_neg (by omega)]
    rw [this]
    exact Z
theorem M_sees (Z : ZA (w.1 112) a) (I : IO a) {l d : Nat} (hl : l < 6) (hd : d < 60) (hk : a (646 + d) < 64) (hs : a (586 + d) ≤ 240) (h561 : a 561 ≤ 1) : ∃ w' b, fX6_sees w 111 (nI l) (nI d) = some w' ∧ ZA (w'.1 112) b ∧ Fr 112 113 w w' ∧ (∀ k, k < 706 → k ≠ 646 + d → k ≠ 586 + d → ¬ (580 ≤ k ∧ k < 586) → b k = a k) ∧ b (586 + d) = (if a (586 + d) = 0 then a 564 + 1 else a (586 + d)) ∧ b (646 + d) < 64 ∧ (∀ o, o < 6 → ((b (646 + d)).testBit o = true ↔ (a (646 + d)).testBit o = true ∨ o = l ∨ lku a l d o)) ∧ (∀ o, o < 6 → b (580 + o) = a (580 + o) + @ite Nat (lku a l d o) (Classical.propDecidable _) 1 0) := by
  have o1 := sb_or _ hk l hl
  have hk2 := sb_lt _ hk l hl
  have ht := sb_tb _ hk l hl
  obtain ⟨w2, e2, Z2, F2⟩ := zs2 Z (646 + d) (a (646 + d) ||| 2 ^ l) (by omega) (by omega)
  have es : fX6_isSeen w 111 (nI d) = some (if a (586 + d) = 0 then 0 else 1) := by
    unfold fX6_isSeen
    simp (disch := omega) only [Nat.reduceAdd, Nat.reduceMul, Nat.reduceSub, l0, n1, n2, n3, n4, n5, n6, n40, n60, n240, n480, n486, n492, n498, n558, n559, n560, n561, n562, n563, n564, n565, n566, n567, n568, n574, n580, n586, n646, nI_add, nI_mul, Nat.zero_add, Nat.add_zero, ob_some, ob2_some, nI_le_, nI_lt_, nI_eq_, zl Z]
    by_cases h : a (586 + d) = 0
    · rw [if_pos (by omega), if_pos h]; rfl
    · rw [if_neg (by omega), if_neg h]; rfl
  unfold fX6_sees
  rw [es, ob_some]
  by_cases hz : a (586 + d) = 0
  · obtain ⟨w3, e3, Z3, F3⟩ := zs2 Z2 (586 + d) (a 564 + 1) (by omega) (by omega)
    obtain ⟨b0, hb0⟩ : ∃ b, b = up (up a (646 + d) (a (646 + d) ||| 2 ^ l)) (586 + d) (a 564 + 1) := ⟨_, rfl⟩
    rw [← hb0] at Z3
    have c1 : ∀ k, k ≠ 646 + d → k ≠ 586 + d → b0 k = a k := fun k h1 h2 => by rw [hb0, up_n _ _ h2, up_n _ _ h1]
    have c2 : b0 (646 + d) = a (646 + d) ||| 2 ^ l := by rw [hb0, up_n _ _ (by omega), up_s]
    have c3 : b0 (586 + d) = a 564 + 1 := by rw [hb0, up_s]
    have I3 : IO b0 := IO_of I (fun k hk => c1 k (by omega) (by omega))
    obtain ⟨w4, e4, Z4, F4⟩ := M_sees57 (P := lku a l d) (x := 1) Z3 I3 hl hd (by rw [c2]; exact hk2) (by omega) (fun o ho => by
      rw [c1 561 (by omega) (by omega), c1 (486 + o) (by omega) (by omega)]
      unfold lku
      exact ⟨fun z => ⟨by omega, z.2⟩, fun z => ⟨hz, z.2⟩⟩) (by rw [c1 561 (by omega) (by omega)]; exact h561)
    refine ⟨w4, _, ?_, Z4, (F2.trans F3).trans F4, fun k hk h1 h2 h3 => ?_, ?_, ?_, fun o ho => ?_, fun o ho => ?_⟩
    · rw [if_pos hz, if_pos rfl, n646, nI_add, zl Z (by omega) (by omega), ob_some, o1, e2, ob_some, n564, zl Z2 (by omega) (by omega), up_n _ _ (by omega), ob_some, n1, nI_add, n586, nI_add, e3, ob_some]
      exact e4
    · unfold lkf
      rw [if_neg h1, if_neg (by omega), c1 k h1 h2]
    · unfold lkf
      rw [if_neg (by omega), if_neg (by omega), c3, if_pos hz]
    · unfold lkf
      rw [if_pos rfl, c2]
      exact ors_lt hk2 _ 6 (by omega)
    · unfold lkf
      rw [if_pos rfl, c2, ors_tb hk2 6 (by omega) o ho, ht o ho]
      simp only [Bool.or_eq_true, decide_eq_true_eq]
      constructor
      · rintro ((z | z) | z)
        · exact Or.inl z
        · exact Or.inr (Or.inl z)
        · exact Or.inr (Or.inr z.2)
      · rintro (z | z | z)
        · exact Or.inl (Or.inl z)
        · exact Or.inl (Or.inr z)
        · exact Or.inr ⟨ho, z⟩
    · unfold lkf
      rw [if_neg (by omega), if_pos (by omega), Nat.add_sub_cancel_left, c1 _ (by omega) (by omega)]
  · obtain ⟨b0, hb0⟩ : ∃ b, b = up a (646 + d) (a (646 + d) ||| 2 ^ l) := ⟨_, rfl⟩
    rw [← hb0] at Z2
    have c1 : ∀ k, k ≠ 646 + d → b0 k = a k := fun k h1 => by rw [hb0, up_n _ _ h1]
    have c2 : b0 (646 + d) = a (646 + d) ||| 2 ^ l := by rw [hb0, up_s]
    have I2 : IO b0 := IO_of I (fun k hk => c1 k (by omega))
    have hno : ∀ o, ¬ lku a l d o := fun o z => hz z.1
    obtain ⟨w4, e4, Z4, F4⟩ := M_sees57 (P := lku a l d) (x := 0) Z2 I2 hl hd (by rw [c2]; exact hk2) (by omega) (fun o ho => ⟨fun z => absurd z (hno o), fun z => absurd rfl z.1⟩) (by rw [c1 561 (by omega)]; exact h561)
    refine ⟨w4, _, ?_, Z4, F2.trans F4, fun k hk h1 h2 h3 => ?_, ?_, ?_, fun o ho => ?_, fun o ho => ?_⟩
    · rw [if_neg hz, if_neg (by decide), n646, nI_add, zl Z (by omega) (by omega), ob_some, o1, e2, ob_some]
      exact e4
    · unfold lkf
      rw [if_neg h1, if_neg (by omega), c1 k h1]
    · unfold lkf
      rw [if_neg (by omega), if_neg (by omega), c1 _ (by omega), if_neg hz]
    · unfold lkf
      rw [if_pos rfl, c2]
      exact ors_lt hk2 _ 6 (by omega)
    · unfold lkf
      rw [if_pos rfl, c2, ors_tb hk2 6 (by omega) o ho, ht o ho]
      simp only [Bool.or_eq_true, decide_eq_true_eq]
      constructor
      · rintro ((z | z) | z)
        · exact Or.inl z
        · exact Or.inr (Or.inl z)
        · exact Or.inr (Or.inr z.2)
      · rintro (z | z | z)
        · exact Or.inl (Or.inl z)
        · exact Or.inl (Or.inr z)
        · exact Or.inr ⟨ho, z⟩
    · unfold lkf
      rw [if_neg (by omega), if_pos (by omega), Nat.add_sub_cancel_left, c1 _ (by omega)]
end MST
