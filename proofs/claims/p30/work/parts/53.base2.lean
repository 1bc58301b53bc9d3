/-! PURE PART, BASE 2: literals, remainders, updates of numbers, counting -/
theorem n5 : (5 : Int32) = nI 5 := by decide
theorem n240' : (240 : Int32) = nI 240 := by decide
theorem n560 : (560 : Int32) = nI 560 := by decide
theorem n561 : (561 : Int32) = nI 561 := by decide
theorem n562 : (562 : Int32) = nI 562 := by decide
theorem n563 : (563 : Int32) = nI 563 := by decide
theorem n564 : (564 : Int32) = nI 564 := by decide
theorem n565 : (565 : Int32) = nI 565 := by decide
theorem n566 : (566 : Int32) = nI 566 := by decide
theorem n567 : (567 : Int32) = nI 567 := by decide
theorem n568 : (568 : Int32) = nI 568 := by decide
theorem n574 : (574 : Int32) = nI 574 := by decide
theorem n580 : (580 : Int32) = nI 580 := by decide
theorem n586 : (586 : Int32) = nI 586 := by decide
theorem n646 : (646 : Int32) = nI 646 := by decide
theorem n706 : (706 : Int32) = nI 706 := by decide
theorem n2118 : (2118 : Int32) = nI 2118 := by decide
theorem nI_div {a b : Nat} (ha : a < 2147483648) (hb : b < 2147483648) (hb0 : 0 < b) : nI a / nI b = nI (a / b) := by
  have h1 : a / b ≤ a := Nat.div_le_self a b
  apply Int32.toInt_inj.mp
  rw [Int32.toInt_div, nI_toInt (by omega), nI_toInt (by omega), nI_toInt (by omega)]
  have e : (a : Int).tdiv (b : Int) = ((a / b : Nat) : Int) := by simp
  rw [e]
  generalize a / b = c at h1
  apply Int.bmod_eq_of_le <;> omega
theorem nI_mod {a b : Nat} (ha : a < 2147483648) (hb : b < 2147483648) (hb0 : 0 < b) : nI a - nI a / nI b * nI b = nI (a % b) := by
  rw [nI_div ha hb hb0, nI_mul, nI_sub (Nat.div_mul_le_self a b)]
  congr 1
  have := Nat.div_add_mod a b
  rw [Nat.mul_comm] at this
  omega
def up (a : Nat → Nat) (k v : Nat) : Nat → Nat := fun j => if j = k then v else a j
theorem up_s (a : Nat → Nat) (k v : Nat) : up a k v k = v := by simp [up]
theorem up_n (a : Nat → Nat) {k j : Nat} (v : Nat) (h : j ≠ k) : up a k v j = a j := by simp [up, h]
theorem ZA_up {w : Wd} {a : Nat → Nat} (Z : ZA (w.1 112) a) {k : Nat} (v : Nat) (h : k ≠ 563) : ZA ((sI w 112 k (nI v)).1 112) (up a k v) := by
  rw [sI_1, if_pos rfl]
  constructor
  · intro j hj hj2
    rw [upd_1, up]
    split
    · rfl
    · exact Z.1 j hj hj2
  · rw [upd_1, if_neg (Ne.symm h), up_n a v (Ne.symm h)]
    exact Z.2
theorem stI_z {w : Wd} {k : Nat} {x : Int32} (h : k < 706) : stI 706 w 112 (nI k) x = some (sI w 112 k x) := stI_n h (by decide)
/-- how many below n have P -/
noncomputable def cnt (P : Nat → Prop) (n : Nat) : Nat := match n with
  | 0 => 0
  | n + 1 => cnt P n + @ite Nat (P n) (Classical.propDecidable _) 1 0
theorem cnt_s {P : Nat → Prop} {n : Nat} (h : P n) : cnt P (n + 1) = cnt P n + 1 := by rw [cnt, if_pos h]
theorem cnt_n {P : Nat → Prop} {n : Nat} (h : ¬ P n) : cnt P (n + 1) = cnt P n := by rw [cnt, if_neg h]; rfl
theorem cnt_le (P : Nat → Prop) : ∀ n, cnt P n ≤ n := by
  intro n
  induction n with
  | zero => exact Nat.le_refl _
  | succ n ih =>
    by_cases h : P n
    · rw [cnt_s h]; omega
    · rw [cnt_n h]; omega
theorem cnt_cong {P Q : Nat → Prop} : ∀ {n : Nat}, (∀ i, i < n → (P i ↔ Q i)) → cnt P n = cnt Q n := by
  intro n
  induction n with
  | zero => intro _; rfl
  | succ n ih =>
    intro h
    have h1 := ih (fun i hi => h i (by omega))
    by_cases hp : P n
    · rw [cnt_s hp, cnt_s ((h n (by omega)).mp hp), h1]
    · rw [cnt_n hp, cnt_n (fun q => hp ((h n (by omega)).mpr q)), h1]
theorem cnt_mono {P Q : Nat → Prop} : ∀ {n : Nat}, (∀ i, i < n → P i → Q i) → cnt P n ≤ cnt Q n := by
  intro n
  induction n with
  | zero => intro _; exact Nat.le_refl _
  | succ n ih =>
    intro h
    have h1 := ih (fun i hi => h i (by omega))
    by_cases hp : P n
    · rw [cnt_s hp, cnt_s (h n (by omega) hp)]; omega
    · rw [cnt_n hp]
      by_cases hq : Q n
      · rw [cnt_s hq]; omega
      · rw [cnt_n hq]; omega
/-- one more -/
theorem cnt_one {P Q : Nat → Prop} {k : Nat} : ∀ {n : Nat}, k < n → ¬ P k → (∀ i, i < n → (Q i ↔ P i ∨ i = k)) → cnt Q n = cnt P n + 1 := by
  intro n
  induction n with
  | zero => intro h; omega
  | succ n ih =>
    intro hk hp h
    by_cases hkn : k = n
    · subst hkn
      rw [cnt_s ((h k (by omega)).mpr (Or.inr rfl)), cnt_n hp, cnt_cong (fun i hi => ?_)]
      rw [h i (by omega)]
      constructor
      · rintro (z | z)
        · exact z
        · omega
      · exact Or.inl
    · have h1 := ih (by omega) hp (fun i hi => h i (by omega))
      by_cases hq : Q n
      · have : P n := by
          rcases (h n (by omega)).mp hq with z | z
          · exact z
          · exact absurd z.symm hkn
        rw [cnt_s hq, cnt_s this, h1]
      · have : ¬ P n := fun z => hq ((h n (by omega)).mpr (Or.inl z))
        rw [cnt_n hq, cnt_n this, h1]
theorem cnt_lt {P Q : Nat → Prop} {k n : Nat} (hk : k < n) (hp : ¬ P k) (hq : Q k) (h : ∀ i, i < n → P i → Q i) : cnt P n < cnt Q n := by
  have h1 : cnt (fun i => P i ∨ i = k) n = cnt P n + 1 := cnt_one hk hp (fun i _ => Iff.rfl)
  have h2 : cnt (fun i => P i ∨ i = k) n ≤ cnt Q n := cnt_mono (fun i hi z => by
    rcases z with z | z
    · exact h i hi z
    · subst z; exact hq)
  omega
theorem cnt_0 {P : Nat → Prop} {n : Nat} (h : ∀ i, i < n → ¬ P i) : cnt P n = 0 := by
  induction n with
  | zero => rfl
  | succ n ih => rw [cnt_n (h n (by omega)), ih (fun i hi => h i (by omega))]
/-- as many as a row without a repetition has places -/
theorem cnt_row {f : Nat → Nat} {N : Nat} : ∀ {m : Nat}, (∀ p, p < m → f p < N) → (∀ p q, p < q → q < m → f p ≠ f q) → cnt (fun d => ∃ p, p < m ∧ f p = d) N = m := by
  intro m
  induction m with
  | zero =>
    intro _ _
    exact cnt_0 (fun i _ => by rintro ⟨p, hp, -⟩; omega)
  | succ m ih =>
    intro h1 h2
    have h3 := ih (fun p hp => h1 p (by omega)) (fun p q hpq hq => h2 p q hpq (by omega))
    rw [cnt_one (P := fun d => ∃ p, p < m ∧ f p = d) (k := f m) (h1 m (by omega)) (by
      rintro ⟨p, hp, e⟩
      exact h2 p m hp (by omega) e) (fun i hi => by
      constructor
      · rintro ⟨p, hp, e⟩
        by_cases hpm : p = m
        · subst hpm; exact Or.inr e.symm
        · exact Or.inl ⟨p, by omega, e⟩
      · rintro (⟨p, hp, e⟩ | e)
        · exact ⟨p, by omega, e⟩
        · exact ⟨m, by omega, e.symm⟩), h3]
theorem sm_add (f g : Nat → Nat) : ∀ n, sm (fun i => f i + g i) n = sm f n + sm g n := by
  intro n
  induction n with
  | zero => rfl
  | succ n ih => rw [sm, sm, sm, ih]; omega
/-- one term alone differs -/
theorem sm_chg {f g : Nat → Nat} {n p : Nat} (hp : p < n) (h : ∀ i, i < n → i ≠ p → f i = g i) : sm f n + g p = sm g n + f p := by
  induction n with
  | zero => omega
  | succ n ih =>
    rw [sm, sm]
    by_cases hn : p = n
    · subst hn
      rw [sm_cong (fun i hi => h i (by omega) (by omega))]
      omega
    · have := ih (by omega) (fun i hi hne => h i (by omega) hne)
      rw [h n (by omega) (fun z => hn z.symm)]
      omega
/-- which ids a step leaves alone -/
def Fr (lo hi : Nat) (w w' : Wd) : Prop := (∀ k, k < lo ∨ hi ≤ k → w'.1 k = w.1 k) ∧ (∀ k, k < lo ∨ hi ≤ k → w'.2.1 k = w.2.1 k) ∧ (∀ k, k < lo ∨ hi ≤ k → w'.2.2 k = w.2.2 k)
theorem Fr.rfl' {lo hi : Nat} {w : Wd} : Fr lo hi w w := ⟨fun _ _ => rfl, fun _ _ => rfl, fun _ _ => rfl⟩
theorem Fr.trans {lo hi : Nat} {w w' w'' : Wd} (h : Fr lo hi w w') (h2 : Fr lo hi w' w'') : Fr lo hi w w'' := ⟨fun k hk => (h2.1 k hk).trans (h.1 k hk), fun k hk => (h2.2.1 k hk).trans (h.2.1 k hk), fun k hk => (h2.2.2 k hk).trans (h.2.2 k hk)⟩
theorem Fr.wide {lo hi lo' hi' : Nat} {w w' : Wd} (h : Fr lo hi w w') (h1 : lo' ≤ lo) (h2 : hi ≤ hi') : Fr lo' hi' w w' := ⟨fun k hk => h.1 k (by omega), fun k hk => h.2.1 k (by omega), fun k hk => h.2.2 k (by omega)⟩
theorem Fr.sI {lo hi : Nat} {w w' : Wd} (h : Fr lo hi w w') {k j : Nat} {x : Int32} (h1 : lo ≤ k) (h2 : k < hi) : Fr lo hi w (sI w' k j x) := ⟨fun i hi => by rw [sI_1, if_neg (by omega)]; exact h.1 i hi, h.2.1, h.2.2⟩
theorem Fr.sA {lo hi : Nat} {w w' : Wd} (h : Fr lo hi w w') {k : Nat} {f : Nat → Int32} (h1 : lo ≤ k) (h2 : k < hi) : Fr lo hi w (sA w' k f) := ⟨fun i hi => by rw [sA_1, if_neg (by omega)]; exact h.1 i hi, h.2.1, h.2.2⟩
theorem Fr.sL {lo hi : Nat} {w w' : Wd} (h : Fr lo hi w w') {k : Nat} {x : Int64} (h1 : lo ≤ k) (h2 : k < hi) : Fr lo hi w (sL w' k x) := ⟨h.1, fun i hi => by show (if i = k then x else w'.2.1 i) = _; rw [if_neg (by omega)]; exact h.2.1 i hi, h.2.2⟩
theorem Fr.sR {lo hi : Nat} {w w' : Wd} (h : Fr lo hi w w') {k j x : Nat} (h1 : lo ≤ k) (h2 : k < hi) : Fr lo hi w (sR w' k j x) := ⟨h.1, h.2.1, fun i hi => by show (if i = k then va_up (w'.2.2 k) j x else w'.2.2 i) = _; rw [if_neg (by omega)]; exact h.2.2 i hi⟩
