/-! PURE PART: an entry is taken out, an entry is put in -/
theorem loopI {σ α : Type} (F : Nat → σ → Nat → α) (Inv : Nat → σ → Prop) (M N : Nat) (hMN : M ≤ N) (r : α → Prop) (hs : ∀ n i s, M ≤ i → i < N → Inv i s → ∃ s', Inv (i + 1) s' ∧ F (n + 1) s i = F n s' (i + 1)) (he : ∀ n s, Inv N s → r (F (n + 1) s N)) : ∀ n s, N - M < n → Inv M s → r (F n s M) := by
  have key : ∀ d i n s, M ≤ i → i + d = N → d < n → Inv i s → r (F n s i) := by
    intro d
    induction d with
    | zero =>
      intro i n s h0 h1 h2 h3
      obtain ⟨n, rfl⟩ : ∃ m, n = m + 1 := ⟨n - 1, by omega⟩
      have : i = N := by omega
      subst this
      exact he n s h3
    | succ d ih =>
      intro i n s h0 h1 h2 h3
      obtain ⟨n, rfl⟩ : ∃ m, n = m + 1 := ⟨n - 1, by omega⟩
      obtain ⟨s', h4, h5⟩ := hs n i s h0 (by omega) h3
      rw [h5]
      exact ih (i + 1) n s' (by omega) (by omega) (by omega) h4
  intro n s h h2
  exact key (N - M) M n s (Nat.le_refl _) (by omega) h h2
/-- downwards: i from N to M -/
theorem loopD {σ α : Type} (F : Nat → σ → Nat → α) (Inv : Nat → σ → Prop) (M N : Nat) (hMN : M ≤ N) (r : α → Prop) (hs : ∀ n i s, M ≤ i → i < N → Inv (i + 1) s → ∃ s', Inv i s' ∧ F (n + 1) s (i + 1) = F n s' i) (he : ∀ n s, Inv M s → r (F (n + 1) s M)) : ∀ n s, N - M < n → Inv N s → r (F n s N) := by
  have key : ∀ d i n s, i = M + d → i ≤ N → d < n → Inv i s → r (F n s i) := by
    intro d
    induction d with
    | zero =>
      intro i n s h1 h0 h2 h3
      obtain ⟨n, rfl⟩ : ∃ m, n = m + 1 := ⟨n - 1, by omega⟩
      have : i = M := by omega
      subst this
      exact he n s h3
    | succ d ih =>
      intro i n s h1 h0 h2 h3
      obtain ⟨n, rfl⟩ : ∃ m, n = m + 1 := ⟨n - 1, by omega⟩
      obtain ⟨i, rfl⟩ : ∃ m, i = m + 1 := ⟨i - 1, by omega⟩
      obtain ⟨s', h4, h5⟩ := hs n i s (by omega) (by omega) h3
      rw [h5]
      exact ih i n s' (by omega) (by omega) (by omega) h4
  intro n s h h2
  exact key (N - M) N n s (by omega) (Nat.le_refl _) h h2
def TK (a a' : Nat → Nat) (l p : Nat) : Prop :=
  a' (480 + l) + 1 = a (480 + l) ∧
  (∀ k, k < 706 → k ≠ 480 + l → ¬ (40 * l ≤ k ∧ k < 40 * l + 40) → ¬ (240 + 40 * l ≤ k ∧ k < 240 + 40 * l + 40) → a' k = a k) ∧
  (∀ i, i < a' (480 + l) → a' (40 * l + i) = a (40 * l + (if i < p then i else i + 1)) ∧ a' (240 + 40 * l + i) = a (240 + 40 * l + (if i < p then i else i + 1)))
def PT (a a' : Nat → Nat) (l p d s : Nat) : Prop :=
  a' (480 + l) = a (480 + l) + 1 ∧
  (∀ k, k < 706 → k ≠ 480 + l → ¬ (40 * l ≤ k ∧ k < 40 * l + 40) → ¬ (240 + 40 * l ≤ k ∧ k < 240 + 40 * l + 40) → a' k = a k) ∧
  (∀ i, i < a' (480 + l) → a' (40 * l + i) = (if i < p then a (40 * l + i) else if i = p then d else a (40 * l + (i - 1))) ∧ a' (240 + 40 * l + i) = (if i < p then a (240 + 40 * l + i) else if i = p then s else a (240 + 40 * l + (i - 1))))
def tkf (a : Nat → Nat) (l p j : Nat) : Nat → Nat := fun k => if k = 480 + l then a k - 1 else if (40 * l + p ≤ k ∧ k < 40 * l + j) ∨ (240 + 40 * l + p ≤ k ∧ k < 240 + 40 * l + j) then a (k + 1) else a k
def ptf (a : Nat → Nat) (l N j : Nat) : Nat → Nat := fun k => if (40 * l + j < k ∧ k ≤ 40 * l + N) ∨ (240 + 40 * l + j < k ∧ k ≤ 240 + 40 * l + N) then a (k - 1) else a k
def tkA (a : Nat → Nat) (l p : Nat) : Nat → Nat := up (up (tkf a l p (a (480 + l) - 1)) (40 * l + (a (480 + l) - 1)) 0) (240 + 40 * l + (a (480 + l) - 1)) 0
def ptA (a : Nat → Nat) (l p d s : Nat) : Nat → Nat := up (up (up (ptf a l (a (480 + l)) p) (40 * l + p) d) (240 + 40 * l + p) s) (480 + l) (a (480 + l) + 1)
section TKM
variable {w : Wd} {a : Nat → Nat} {o : Nat}
theorem zs {w : Wd} {a : Nat → Nat} (Z : ZA (w.1 112) a) {k v : Nat} (h : k < 706) (h2 : k ≠ 563) : ∃ w', stI 706 w 112 (nI k) (nI v) = some w' ∧ ZA (w'.1 112) (up a k v) ∧ Fr 112 113 w w' ∧ w' = sI w 112 k (nI v) := ⟨_, stI_z h, ZA_up Z v h2, Fr.rfl'.sI (by omega) (by omega), rfl⟩
theorem M_takeOut (Z : ZA (w.1 112) a) (I : IO a) {l p : Nat} (hl : l < 6) (hp : p < a (480 + l)) : ∃ w' a', fX6_takeOut w 111 (nI l) (nI p) = some w' ∧ ZA (w'.1 112) a' ∧ TK a a' l p ∧ Fr 112 113 w w' ∧ a' = tkA a l p := by
  have hs := (I.1 l hl).1
  have h0 : ¬ 480 + l = 563 := by omega
  unfold fX6_takeOut
  simp (disch := omega) only [Nat.reduceAdd, Nat.reduceMul, Nat.reduceSub, l0, n1, n2, n3, n4, n5, n6, n40, n60, n240, n480, n486, n492, n498, n558, n559, n560, n561, n562, n563, n564, n565, n566, n567, n568, n574, n580, n586, n646, nI_add, nI_mul, Nat.zero_add, Nat.add_zero, ob_some, ob2_some, nI_le_, nI_lt_, nI_eq_, zl Z]
  obtain ⟨w1, e1, Z1, F1, -⟩ := zs Z (k := 480 + l) (v := a (480 + l) - 1) (by omega) (by omega)
  rw [nI_sub (by omega), e1, ob_some]
  refine loopI (fun n w' j => lX6_takeOut_16 111 n w' (nI l) (nI j)) (fun j w' => ZA (w'.1 112) (tkf a l p j) ∧ Fr 112 113 w w') p (a (480 + l) - 1) (by omega) (fun q => ∃ w' a', q = some w' ∧ ZA (w'.1 112) a' ∧ TK a a' l p ∧ Fr 112 113 w w' ∧ a' = tkA a l p) (fun n j w' hj hj2 hI => ?_) (fun n w' hI => ?_) 4096 w1 (by omega) ⟨?_, F1⟩
  · obtain ⟨Z', F'⟩ := hI
    have t0 : tkf a l p j (480 + l) = a (480 + l) - 1 := by unfold tkf; rw [if_pos rfl]
    have t1 : tkf a l p j (40 * l + j + 1) = a (40 * l + j + 1) := by unfold tkf; rw [if_neg (by omega), if_neg (by omega)]
    have t2 : tkf a l p j (240 + 40 * l + j + 1) = a (240 + 40 * l + j + 1) := by unfold tkf; rw [if_neg (by omega), if_neg (by omega)]
    show ∃ s', _ ∧ lX6_takeOut_16 111 (n + 1) w' (nI l) (nI j) = _
    rw [lX6_takeOut_16]
    obtain ⟨w2, e2, Z2, F2, -⟩ := zs Z' (k := 40 * l + j) (v := a (40 * l + j + 1)) (by omega) (by omega)
    obtain ⟨w3, e3, Z3, F3, -⟩ := zs Z2 (k := 240 + 40 * l + j) (v := a (240 + 40 * l + j + 1)) (by omega) (by omega)
    have t3 : up (tkf a l p j) (40 * l + j) (a (40 * l + j + 1)) (240 + 40 * l + j + 1) = a (240 + 40 * l + j + 1) := by rw [up_n _ _ (by omega), t2]
    refine ⟨w3, ⟨?_, (F'.trans F2).trans F3⟩, ?_⟩
    · have : up (up (tkf a l p j) (40 * l + j) (a (40 * l + j + 1))) (240 + 40 * l + j) (a (240 + 40 * l + j + 1)) = tkf a l p (j + 1) := by
        funext k
        unfold up tkf
        by_cases k1 : k = 240 + 40 * l + j
        · rw [if_pos k1, if_neg (by omega), if_pos (by omega), k1]
        · rw [if_neg k1]
          by_cases k2 : k = 40 * l + j
          · rw [if_pos k2, if_neg (by omega), if_pos (by omega), k2]
          · rw [if_neg k2]
            by_cases k3 : k = 480 + l
            · rw [if_pos k3, if_pos k3]
            · rw [if_neg k3, if_neg k3]
              by_cases k4 : (40 * l + p ≤ k ∧ k < 40 * l + j) ∨ (240 + 40 * l + p ≤ k ∧ k < 240 + 40 * l + j)
              · rw [if_pos k4, if_pos (by omega)]
              · rw [if_neg k4, if_neg (by omega)]
      rw [← this]
      exact Z3
    · simp (disch := omega) only [Nat.reduceAdd, Nat.reduceMul, Nat.reduceSub, l0, n1, n2, n3, n4, n5, n6, n40, n60, n240, n480, n486, n492, n498, n558, n559, n560, n561, n562, n563, n564, n565, n566, n567, n568, n574, n580, n586, n646, nI_add, nI_mul, Nat.zero_add, Nat.add_zero, ob_some, ob2_some, nI_le_, nI_lt_, nI_eq_, zl Z', t0, t1, e2, zl Z2, t3, e3]
      rw [if_neg (by omega)]
  · obtain ⟨Z', F'⟩ := hI
    have t0 : tkf a l p (a (480 + l) - 1) (480 + l) = a (480 + l) - 1 := by unfold tkf; rw [if_pos rfl]
    show ∃ w'' a', lX6_takeOut_16 111 (n + 1) w' (nI l) (nI (a (480 + l) - 1)) = _ ∧ _
    rw [lX6_takeOut_16]
    obtain ⟨w2, e2, Z2, F2, -⟩ := zs Z' (k := 40 * l + (a (480 + l) - 1)) (v := 0) (by omega) (by omega)
    obtain ⟨w3, e3, Z3, F3, -⟩ := zs Z2 (k := 240 + 40 * l + (a (480 + l) - 1)) (v := 0) (by omega) (by omega)
    have t3 : up (tkf a l p (a (480 + l) - 1)) (40 * l + (a (480 + l) - 1)) 0 (480 + l) = a (480 + l) - 1 := by rw [up_n _ _ (by omega), t0]
    refine ⟨w3, _, ?_, Z3, ⟨?_, fun k hk h1 h2 h3 => ?_, fun i hi => ?_⟩, (F'.trans F2).trans F3, rfl⟩
    · simp (disch := omega) only [Nat.reduceAdd, Nat.reduceMul, Nat.reduceSub, l0, n1, n2, n3, n4, n5, n6, n40, n60, n240, n480, n486, n492, n498, n558, n559, n560, n561, n562, n563, n564, n565, n566, n567, n568, n574, n580, n586, n646, nI_add, nI_mul, Nat.zero_add, Nat.add_zero, ob_some, ob2_some, nI_le_, nI_lt_, nI_eq_, zl Z', t0, e2, zl Z2, t3, e3]
      rw [if_pos (by omega)]
    · rw [up_n _ _ (by omega), t3]; omega
    · rw [up_n _ _ (by omega), up_n _ _ (by omega)]
      unfold tkf
      rw [if_neg h1, if_neg (by omega)]
    · have hi' : i < a (480 + l) - 1 := by
        rw [up_n _ _ (by omega), t3] at hi
        exact hi
      by_cases h : i < p
      · rw [if_pos h]
        refine ⟨?_, ?_⟩
        · simp (disch := omega) only [up_n]
          unfold tkf
          rw [if_neg (by omega), if_neg (by omega)]
        · simp (disch := omega) only [up_n]
          unfold tkf
          rw [if_neg (by omega), if_neg (by omega)]
      · rw [if_neg h]
        refine ⟨?_, ?_⟩
        · simp (disch := omega) only [up_n]
          unfold tkf
          rw [if_neg (by omega), if_pos (by omega)]
          rfl
        · simp (disch := omega) only [up_n]
          unfold tkf
          rw [if_neg (by omega), if_pos (by omega)]
          rfl
  · have : up a (480 + l) (a (480 + l) - 1) = tkf a l p p := by
      funext k
      unfold up tkf
      by_cases k3 : k = 480 + l
      · rw [if_pos k3, if_pos k3, k3]
      · rw [if_neg k3, if_neg k3, if_neg (by omega)]
    rw [← this]
    exact Z1
/-- how an entry stands to (d, s) -/
def aho (a : Nat → Nat) (l d s i : Nat) : Prop := s < a (240 + 40 * l + i) ∨ (a (240 + 40 * l + i) = s ∧ a (40 * l + i) < d)
theorem M_putIn (Z : ZA (w.1 112) a) (I : IO a) {l p d s : Nat} (hl : l < 6) (hd : d < 60) (hs : s ≤ 999) (hz : a (480 + l) < 40) (hp : p ≤ a (480 + l)) (ha : ∀ i, i < a (480 + l) → (aho a l d s i ↔ i < p)) : ∃ w' a', fX6_putIn w 111 (nI l) (nI d) (nI s) = some (nI p, w') ∧ ZA (w'.1 112) a' ∧ PT a a' l p d s ∧ Fr 112 113 w w' ∧ a' = ptA a l p d s := by
  have h2 : lX6_putIn_6 111 4096 w (nI l) (nI d) (nI s) 0 0 = lX6_putIn_109 111 4096 w (nI l) (nI d) (nI s) (nI p) (nI (a (480 + l))) := by
    refine loopN (fun n i => lX6_putIn_6 111 n w (nI l) (nI d) (nI s) (nI (min i p)) (nI i)) (a (480 + l)) _ (fun n i hi => ?_) (fun n => ?_) 4096 (by omega)
    · show lX6_putIn_6 111 (n + 1) w (nI l) (nI d) (nI s) _ (nI i) = _
      have hb := I.2.1 l i hl hi
      have hi2 := ha i hi
      rw [lX6_putIn_6]
      simp (disch := omega) only [Nat.reduceAdd, Nat.reduceMul, Nat.reduceSub, l0, n1, n2, n3, n4, n5, n6, n40, n60, n240, n480, n486, n492, n498, n558, n559, n560, n561, n562, n563, n564, n565, n566, n567, n568, n574, n580, n586, n646, nI_add, nI_mul, Nat.zero_add, Nat.add_zero, ob_some, ob2_some, nI_le_, nI_lt_, nI_eq_, zl Z]
      rw [if_neg (by omega)]
      by_cases c1 : s < a (240 + 40 * l + i)
      · have := hi2.mp (Or.inl c1)
        rw [if_pos c1, show min i p + 1 = min (i + 1) p by omega]
      · rw [if_neg c1]
        by_cases c2 : a (240 + 40 * l + i) = s
        · rw [if_pos c2]
          by_cases c3 : d ≤ a (40 * l + i)
          · have : ¬ i < p := fun z => by rcases hi2.mpr z with z | z <;> omega
            rw [if_pos c3, show min i p = min (i + 1) p by omega]
          · have := hi2.mp (Or.inr ⟨c2, by omega⟩)
            rw [if_neg c3, show min i p + 1 = min (i + 1) p by omega]
        · have : ¬ i < p := fun z => by rcases hi2.mpr z with z | z <;> omega
          rw [if_neg c2, show min i p = min (i + 1) p by omega]
    · show lX6_putIn_6 111 (n + 1) w (nI l) (nI d) (nI s) _ (nI (a (480 + l))) = _
      rw [lX6_putIn_6]
      simp (disch := omega) only [Nat.reduceAdd, Nat.reduceMul, Nat.reduceSub, l0, n1, n2, n3, n4, n5, n6, n40, n60, n240, n480, n486, n492, n498, n558, n559, n560, n561, n562, n563, n564, n565, n566, n567, n568, n574, n580, n586, n646, nI_add, nI_mul, Nat.zero_add, Nat.add_zero, ob_some, ob2_some, nI_le_, nI_lt_, nI_eq_, zl Z]
      rw [if_pos (by omega), Nat.min_eq_right hp]
  unfold fX6_putIn
  rw [h2]
  refine loopD (fun n w' j => lX6_putIn_109 111 n w' (nI l) (nI d) (nI s) (nI p) (nI j)) (fun j w' => ZA (w'.1 112) (ptf a l (a (480 + l)) j) ∧ Fr 112 113 w w') p (a (480 + l)) hp (fun q => ∃ w' a', q = some (nI p, w') ∧ ZA (w'.1 112) a' ∧ PT a a' l p d s ∧ Fr 112 113 w w' ∧ a' = ptA a l p d s) (fun n j w' hj hj2 hI => ?_) (fun n w' hI => ?_) 4096 w (by omega) ⟨?_, Fr.rfl'⟩
  · obtain ⟨Z', F'⟩ := hI
    have t1 : ptf a l (a (480 + l)) (j + 1) (40 * l + j) = a (40 * l + j) := by unfold ptf; rw [if_neg (by omega)]
    have t2 : ptf a l (a (480 + l)) (j + 1) (240 + 40 * l + j) = a (240 + 40 * l + j) := by unfold ptf; rw [if_neg (by omega)]
    show ∃ s', _ ∧ lX6_putIn_109 111 (n + 1) w' (nI l) (nI d) (nI s) (nI p) (nI (j + 1)) = _
    rw [lX6_putIn_109]
    obtain ⟨w2, e2, Z2, F2, -⟩ := zs Z' (k := 40 * l + (j + 1)) (v := a (40 * l + j)) (by omega) (by omega)
    obtain ⟨w3, e3, Z3, F3, -⟩ := zs Z2 (k := 240 + 40 * l + (j + 1)) (v := a (240 + 40 * l + j)) (by omega) (by omega)
    have t3 : up (ptf a l (a (480 + l)) (j + 1)) (40 * l + (j + 1)) (a (40 * l + j)) (240 + 40 * l + j) = a (240 + 40 * l + j) := by rw [up_n _ _ (by omega), t2]
    have e4 : nI (40 * l + (j + 1)) - nI 1 = nI (40 * l + j) := by rw [nI_sub (by omega)]; congr 1
    have e5 : nI (240 + 40 * l + (j + 1)) - nI 1 = nI (240 + 40 * l + j) := by rw [nI_sub (by omega)]; congr 1
    have e6 : nI (j + 1) + -nI 1 = nI j := by rw [← Int32.sub_eq_add_neg, nI_sub (by omega)]; congr 1
    refine ⟨w3, ⟨?_, (F'.trans F2).trans F3⟩, ?_⟩
    · have : up (up (ptf a l (a (480 + l)) (j + 1)) (40 * l + (j + 1)) (a (40 * l + j))) (240 + 40 * l + (j + 1)) (a (240 + 40 * l + j)) = ptf a l (a (480 + l)) j := by
        funext k
        unfold up ptf
        by_cases k1 : k = 240 + 40 * l + (j + 1)
        · rw [if_pos k1, if_pos (by omega), k1]; rfl
        · rw [if_neg k1]
          by_cases k2 : k = 40 * l + (j + 1)
          · rw [if_pos k2, if_pos (by omega), k2]; rfl
          · rw [if_neg k2]
            by_cases k4 : (40 * l + (j + 1) < k ∧ k ≤ 40 * l + a (480 + l)) ∨ (240 + 40 * l + (j + 1) < k ∧ k ≤ 240 + 40 * l + a (480 + l))
            · rw [if_pos k4, if_pos (by omega)]
            · rw [if_neg k4, if_neg (by omega)]
      rw [← this]
      exact Z3
    · simp (disch := omega) only [Nat.reduceAdd, Nat.reduceMul, Nat.reduceSub, l0, n1, n2, n3, n4, n5, n6, n40, n60, n240, n480, n486, n492, n498, n558, n559, n560, n561, n562, n563, n564, n565, n566, n567, n568, n574, n580, n586, n646, nI_add, nI_mul, Nat.zero_add, Nat.add_zero, ob_some, ob2_some, nI_le_, nI_lt_, nI_eq_, zl Z', e4, t1, e2, zl Z2, e5, t3, e3, e6]
      rw [if_neg (by omega)]
  · obtain ⟨Z', F'⟩ := hI
    have t0 : ptf a l (a (480 + l)) p (480 + l) = a (480 + l) := by unfold ptf; rw [if_neg (by omega)]
    show ∃ w'' a', lX6_putIn_109 111 (n + 1) w' (nI l) (nI d) (nI s) (nI p) (nI p) = _ ∧ _
    rw [lX6_putIn_109]
    obtain ⟨w2, e2, Z2, F2, -⟩ := zs Z' (k := 40 * l + p) (v := d) (by omega) (by omega)
    obtain ⟨w3, e3, Z3, F3, -⟩ := zs Z2 (k := 240 + 40 * l + p) (v := s) (by omega) (by omega)
    have t3 : up (up (ptf a l (a (480 + l)) p) (40 * l + p) d) (240 + 40 * l + p) s (480 + l) = a (480 + l) := by rw [up_n _ _ (by omega), up_n _ _ (by omega), t0]
    obtain ⟨w4, e4, Z4, F4, -⟩ := zs Z3 (k := 480 + l) (v := a (480 + l) + 1) (by omega) (by omega)
    refine ⟨w4, _, ?_, Z4, ⟨up_s .., fun k hk h1 h2 h3 => ?_, fun i hi => ?_⟩, ((F'.trans F2).trans F3).trans F4, rfl⟩
    · simp (disch := omega) only [Nat.reduceAdd, Nat.reduceMul, Nat.reduceSub, l0, n1, n2, n3, n4, n5, n6, n40, n60, n240, n480, n486, n492, n498, n558, n559, n560, n561, n562, n563, n564, n565, n566, n567, n568, n574, n580, n586, n646, nI_add, nI_mul, Nat.zero_add, Nat.add_zero, ob_some, ob2_some, nI_le_, nI_lt_, nI_eq_, e2, e3, zl Z3, t3, e4]
      rw [if_pos (by omega)]
    · rw [up_n _ _ (by omega), up_n _ _ (by omega), up_n _ _ (by omega)]
      unfold ptf
      rw [if_neg (by omega)]
    · rw [up_s] at hi
      by_cases h : i = p
      · rw [if_neg (by omega), if_pos h, if_neg (by omega), if_pos h, h]
        refine ⟨?_, ?_⟩
        · simp (disch := omega) only [up_n, up_s]
        · simp (disch := omega) only [up_n, up_s]
      · by_cases h3 : i < p
        · rw [if_pos h3, if_pos h3]
          refine ⟨?_, ?_⟩
          · simp (disch := omega) only [up_n]
            unfold ptf
            rw [if_neg (by omega)]
          · simp (disch := omega) only [up_n]
            unfold ptf
            rw [if_neg (by omega)]
        · rw [if_neg h3, if_neg h, if_neg h3, if_neg h]
          refine ⟨?_, ?_⟩
          · simp (disch := omega) only [up_n]
            unfold ptf
            rw [if_pos (by omega)]
            congr 1
            omega
          · simp (disch := omega) only [up_n]
            unfold ptf
            rw [if_pos (by omega)]
            congr 1
            omega
  · have : a = ptf a l (a (480 + l)) (a (480 + l)) := by
      funext k
      unfold ptf
      rw [if_neg (by omega)]
    rw [← this]
    exact Z
end TKM
