/-! PURE PART, BASE: loops, ints as numbers -/
theorem loopN {α : Type} (F : Nat → Nat → α) (N : Nat) (r : α) (hs : ∀ n i, i < N → F (n + 1) i = F n (i + 1)) (he : ∀ n, F (n + 1) N = r) : ∀ n, N < n → F n 0 = r := by
  have key : ∀ d i n, i + d = N → d < n → F n i = r := by
    intro d
    induction d with
    | zero =>
      intro i n h1 h2
      obtain ⟨n, rfl⟩ : ∃ m, n = m + 1 := ⟨n - 1, by omega⟩
      rw [show i = N by omega]
      exact he n
    | succ d ih =>
      intro i n h1 h2
      obtain ⟨n, rfl⟩ : ∃ m, n = m + 1 := ⟨n - 1, by omega⟩
      rw [hs n i (by omega)]
      exact ih (i + 1) n (by omega) (by omega)
  intro n h
  exact key N 0 n (by omega) h
/-- from a first index on -/
theorem loopM {α : Type} (F : Nat → Nat → α) (M N : Nat) (hMN : M ≤ N) (r : α) (hs : ∀ n i, M ≤ i → i < N → F (n + 1) i = F n (i + 1)) (he : ∀ n, F (n + 1) N = r) : ∀ n, N - M < n → F n M = r := by
  intro n hn
  have h := loopN (fun n i => F n (M + i)) (N - M) r (fun n i hi => hs n (M + i) (by omega) (by omega)) (fun n => by rw [show M + (N - M) = N by omega]; exact he n) n hn
  simpa using h
def sm (f : Nat → Nat) : Nat → Nat
  | 0 => 0
  | n + 1 => sm f n + f n
theorem sm_cong {f g : Nat → Nat} : ∀ {n : Nat}, (∀ i, i < n → f i = g i) → sm f n = sm g n := by
  intro n
  induction n with
  | zero => intro _; rfl
  | succ n ih =>
    intro h
    rw [sm, sm, ih (fun i hi => h i (by omega)), h n (by omega)]
theorem sm_le {f : Nat → Nat} {c : Nat} : ∀ {n : Nat}, (∀ i, i < n → f i ≤ c) → sm f n ≤ n * c := by
  intro n
  induction n with
  | zero => intro _; simp [sm]
  | succ n ih =>
    intro h
    have h1 := ih (fun i hi => h i (by omega))
    have h2 := h n (by omega)
    rw [sm, Nat.succ_mul]
    omega
theorem sm_mono {f : Nat → Nat} {m n : Nat} (h : m ≤ n) : sm f m ≤ sm f n := by
  induction n with
  | zero => rw [show m = 0 by omega]; exact Nat.le_refl _
  | succ n ih =>
    by_cases hm : m = n + 1
    · subst hm; exact Nat.le_refl _
    · have := ih (by omega)
      rw [sm]
      omega
theorem sm_zero {f : Nat → Nat} : ∀ {n : Nat}, (∀ i, i < n → f i = 0) → sm f n = 0 := by
  intro n h
  have := sm_le (c := 0) (fun i hi => Nat.le_of_eq (h i hi))
  omega
/-- one term alone -/
theorem sm_one {f : Nat → Nat} {n p : Nat} (hp : p < n) (h : ∀ i, i < n → i ≠ p → f i = 0) : sm f n = f p := by
  induction n with
  | zero => omega
  | succ n ih =>
    rw [sm]
    by_cases hn : p = n
    · subst hn
      rw [sm_zero (fun i hi => h i (by omega) (by omega))]
      omega
    · rw [ih (by omega) (fun i hi hne => h i (by omega) hne), h n (by omega) (by omega)]
      omega
def b2 (p : Prop) [Decidable p] : Nat := if p then 1 else 0
/-! ints as numbers -/
theorem l0 : (0 : Int32) = nI 0 := by decide
theorem nI_le_ {a b : Nat} (ha : a < 2147483648) (hb : b < 2147483648) : (nI a ≤ nI b) = (a ≤ b) := propext (nI_leI ha hb)
theorem nI_lt_ {a b : Nat} (ha : a < 2147483648) (hb : b < 2147483648) : (nI a < nI b) = (a < b) := propext (nI_ltI ha hb)
theorem nI_eq_ {a b : Nat} (ha : a < 2147483648) (hb : b < 2147483648) : (nI a = nI b) = (a = b) := propext (nI_eq ha hb)
theorem nI_mul (a b : Nat) : nI a * nI b = nI (a * b) := by
  apply Int32.toInt_inj.mp
  simp [nI, Int32.toInt_mul, Int32.toInt_ofNat', Int32.ofNat_mul]
theorem nI_sub {a b : Nat} (h : b ≤ a) : nI a - nI b = nI (a - b) := by
  have : nI a = nI (a - b) + nI b := by rw [nI_add]; congr 1; omega
  rw [this]
  simp
theorem ldI_n {q : Nat} {w : Wd} {k j : Nat} (h : j < q) (hq : q < 2147483648) : ldI q w k (nI j) = some (w.1 k j) := by
  have hj : j < 2 ^ 31 := by omega
  have h0 : ¬ (nI j < 0 ∨ q ≤ (nI j).toNatClampNeg) := by
    rintro (h1 | h1)
    · exact nI_pos hj h1
    · rw [nI_clamp hj] at h1
      omega
  rw [ldI, if_neg h0, nI_clamp hj]
theorem stI_n {q : Nat} {w : Wd} {k j : Nat} {x : Int32} (h : j < q) (hq : q < 2147483648) : stI q w k (nI j) x = some (sI w k j x) := by
  have hj : j < 2 ^ 31 := by omega
  have h0 : ¬ (nI j < 0 ∨ q ≤ (nI j).toNatClampNeg) := by
    rintro (h1 | h1)
    · exact nI_pos hj h1
    · rw [nI_clamp hj] at h1
      omega
  rw [stI, if_neg h0, nI_clamp hj]
theorem at_n {q : Nat} {w : Wd} {k j : Nat} (h : j < q) (hq : q < 2147483648) : fX5_at w k q (nI j) = some (w.1 k j) := by
  unfold fX5_at
  rw [if_neg (nI_pos (by omega)), if_neg (nI_ge h hq), ldI_n h hq]
  rfl
theorem at_o {q : Nat} {w : Wd} {k j : Nat} (h : q ≤ j) (hj : j < 2147483648) : fX5_at w k q (nI j) = some 0 := by
  unfold fX5_at
  rw [if_neg (nI_pos (by omega)), if_pos (nI_le h hj)]
theorem at_neg {q : Nat} {w : Wd} {k : Nat} {x : Int32} (h : x < 0) : fX5_at w k q x = some 0 := by
  unfold fX5_at
  rw [if_pos h]
theorem put_n {q : Nat} {w : Wd} {k j : Nat} {x : Int32} (h : j < q) (hq : q < 2147483648) : fX5_put w k q (nI j) x = some (sI w k j x) := by
  unfold fX5_put
  rw [if_neg (nI_pos (by omega)), if_neg (nI_ge h hq), stI_n h hq]
  rfl
theorem sI_1 (w : Wd) (k j : Nat) (x : Int32) (a : Nat) : (sI w k j x).1 a = if a = k then upd (w.1 k) j x else w.1 a := rfl
theorem sI_2 (w : Wd) (k j : Nat) (x : Int32) : (sI w k j x).2 = w.2 := rfl
theorem sA_1 (w : Wd) (k : Nat) (f : Nat → Int32) (a : Nat) : (sA w k f).1 a = if a = k then f else w.1 a := rfl
theorem sA_2 (w : Wd) (k : Nat) (f : Nat → Int32) : (sA w k f).2 = w.2 := rfl
theorem sI_sA (w : Wd) (k j : Nat) (x : Int32) : sI w k j x = sA w k (upd (w.1 k) j x) := rfl
theorem sA_sA (w : Wd) (k : Nat) (f g : Nat → Int32) : sA (sA w k f) k g = sA w k g := by
  unfold sA
  congr 1
  funext a
  by_cases h : a = k <;> simp [h]
theorem sA_self (w : Wd) (k : Nat) : sA w k (w.1 k) = w := by
  unfold sA
  obtain ⟨w1, w2⟩ := w
  congr 1
  funext a
  by_cases h : a = k
  · subst h; simp
  · simp [h]
theorem upd_1 (f : Nat → Int32) (k : Nat) (x : Int32) (j : Nat) : upd f k x j = if j = k then x else f j := rfl
theorem bz_n {x : Nat} (h : x ≤ 1) : bz (nI x) = nI x := by
  obtain rfl | rfl : x = 0 ∨ x = 1 := by omega
  · decide
  · decide
theorem rtZ_0 : rtZ 0 = some 0 := by decide
theorem rtZ_1 : rtZ 1 = some 1 := by decide
theorem ob_some {α β : Type} (a : α) (f : α → Option β) : (some a).bind f = f a := rfl
theorem ob2_some {ρ : Type} (x : Int32) (w : Wd) (K : Int32 → Wd → Option ρ) : ob2 (some (x, w)) K = K x w := rfl
