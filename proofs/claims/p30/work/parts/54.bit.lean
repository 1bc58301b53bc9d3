/-! PURE PART: small sets of bits -/
theorem sb_or : ∀ x, x < 64 → ∀ l, l < 6 → nI x ||| ((1 : Int32) <<< (nI l &&& 31)) = nI (x ||| 2 ^ l) := by decide +kernel
theorem sb_sh0 : ∀ l, l < 6 → (0 : Int32) <<< (nI l &&& 31) = 0 := by decide +kernel
theorem sb_or0 (x : Int32) : x ||| 0 = x := by
  apply Int32.toBitVec_inj.mp
  rw [Int32.toBitVec_or]
  simp
theorem sb_lt : ∀ x, x < 64 → ∀ l, l < 6 → x ||| 2 ^ l < 64 := by decide +kernel
theorem sb_tst : ∀ x, x < 64 → ∀ l, l < 6 → (nI x >>> (nI l &&& 31)) &&& 1 = nI (if x.testBit l then 1 else 0) := by decide +kernel
def ppc (x : Nat) : Nat := sm (fun l => if x.testBit l then 1 else 0) 6
theorem sb_pop0 : ∀ x, x < 64 → fJ6_bitCount_0f7a4 w0 (nI x) = some (nI (ppc x)) := by decide +kernel
theorem sb_pop {w : Wd} {x : Nat} (h : x < 64) : fJ6_bitCount_0f7a4 w (nI x) = some (nI (ppc x)) := sb_pop0 x h
theorem sb_bits {w : Wd} {x : Nat} (h : x < 64) : fX6_bits w (nI x) = some (nI (ppc x)) := by
  refine loopN (fun n i => lX6_bits_4 n w (nI x) (nI (sm (fun l => if x.testBit l then 1 else 0) i)) (nI i)) 6 _ (fun n i hi => ?_) (fun n => ?_) 4096 (by omega)
  · show lX6_bits_4 (n + 1) w (nI x) _ (nI i) = _
    rw [lX6_bits_4, sb_tst x h i hi]
    simp (disch := omega) only [n1, n6, nI_add, nI_le_]
    rw [if_neg (by omega), sm]
  · show lX6_bits_4 (n + 1) w (nI x) _ (nI 6) = _
    rw [lX6_bits_4]
    simp (disch := omega) only [n6, nI_le_]
    rw [if_pos (by omega), ppc]
theorem sb_tb : ∀ x, x < 64 → ∀ l, l < 6 → ∀ k, k < 6 → (x ||| 2 ^ l).testBit k = (x.testBit k || decide (k = l)) := by decide +kernel
theorem sb_0 : ∀ x, x < 64 → (x = 0 ↔ ∀ l, l < 6 → x.testBit l = false) := by decide +kernel
/-- the set of those that have p, up to n -/
noncomputable def bs (p : Nat → Prop) : Nat → Nat
  | 0 => 0
  | n + 1 => @ite Nat (p n) (Classical.propDecidable _) (bs p n ||| 2 ^ n) (bs p n)
theorem bs_y {p : Nat → Prop} {n : Nat} (h : p n) : bs p (n + 1) = bs p n ||| 2 ^ n := by rw [bs, if_pos h]
theorem bs_n {p : Nat → Prop} {n : Nat} (h : ¬ p n) : bs p (n + 1) = bs p n := by rw [bs, if_neg h]
theorem bs_lt (p : Nat → Prop) : ∀ n, n ≤ 6 → bs p n < 64 := by
  intro n
  induction n with
  | zero => intro _; show 0 < 64; omega
  | succ n ih =>
    intro h
    by_cases hp : p n
    · rw [bs_y hp]; exact sb_lt _ (ih (by omega)) n (by omega)
    · rw [bs_n hp]; exact ih (by omega)
theorem bs_tb {p : Nat → Prop} : ∀ n, n ≤ 6 → ∀ k, k < 6 → ((bs p n).testBit k = true ↔ k < n ∧ p k) := by
  intro n
  induction n with
  | zero => intro _ k _; simp [bs]
  | succ n ih =>
    intro h k hk
    have h1 := ih (by omega) k hk
    by_cases hp : p n
    · rw [bs_y hp, sb_tb _ (bs_lt p n (by omega)) n (by omega) k hk]
      simp only [Bool.or_eq_true, decide_eq_true_eq, h1]
      constructor
      · rintro (⟨h2, h3⟩ | h2)
        · exact ⟨by omega, h3⟩
        · subst h2; exact ⟨by omega, hp⟩
      · rintro ⟨h2, h3⟩
        by_cases hkn : k = n
        · exact Or.inr hkn
        · exact Or.inl ⟨by omega, h3⟩
    · rw [bs_n hp, h1]
      constructor
      · rintro ⟨h2, h3⟩; exact ⟨by omega, h3⟩
      · rintro ⟨h2, h3⟩
        refine ⟨?_, h3⟩
        have : k ≠ n := fun z => hp (z ▸ h3)
        omega
theorem sb_ext : ∀ x, x < 64 → ∀ y, y < 64 → (∀ l, l < 6 → x.testBit l = y.testBit l) → x = y := by
  intro x hx y hy h
  apply Nat.eq_of_testBit_eq
  intro i
  by_cases hi : i < 6
  · exact h i hi
  · rw [Nat.testBit_lt_two_pow (Nat.lt_of_lt_of_le hx (show 64 ≤ 2 ^ i from Nat.pow_le_pow_right (n := 2) (by decide) (show 6 ≤ i by omega))), Nat.testBit_lt_two_pow (Nat.lt_of_lt_of_le hy (show 64 ≤ 2 ^ i from Nat.pow_le_pow_right (n := 2) (by decide) (show 6 ≤ i by omega)))]
