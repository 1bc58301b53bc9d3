/-! PURE PART: the bits of a long counted -/
def hn (B : Nat) : (Nat → Nat) → Nat → Nat
  | _, 0 => 0
  | f, n + 1 => f 0 + B * hn B (fun i => f (i + 1)) n
theorem hn_lt {B : Nat} (hB : 0 < B) : ∀ (n : Nat) (f : Nat → Nat), (∀ i, i < n → f i < B) → hn B f n < B ^ n := by
  intro n
  induction n with
  | zero => intro f _; show 0 < B ^ 0; rw [Nat.pow_zero]; omega
  | succ n ih =>
    intro f h
    have h1 := ih (fun i => f (i + 1)) (fun i hi => h (i + 1) (by omega))
    have h0 := h 0 (by omega)
    rw [hn, Nat.pow_succ, Nat.mul_comm (B ^ n) B]
    have h2 : B * (hn B (fun i => f (i + 1)) n + 1) ≤ B * B ^ n := Nat.mul_le_mul_left B h1
    rw [Nat.mul_add] at h2
    omega
theorem hn_cong {B : Nat} : ∀ (n : Nat) (f g : Nat → Nat), (∀ i, i < n → f i = g i) → hn B f n = hn B g n := by
  intro n
  induction n with
  | zero => intro f g _; rfl
  | succ n ih =>
    intro f g h
    rw [hn, hn, h 0 (by omega), ih (fun i => f (i + 1)) (fun i => g (i + 1)) (fun i hi => h (i + 1) (by omega))]
theorem hn_add {B : Nat} : ∀ (n : Nat) (f g : Nat → Nat), hn B f n + hn B g n = hn B (fun i => f i + g i) n := by
  intro n
  induction n with
  | zero => intro f g; rfl
  | succ n ih =>
    intro f g
    have := ih (fun i => f (i + 1)) (fun i => g (i + 1))
    simp only [hn]
    rw [← this, Nat.mul_add]
    omega
/-- the last digit split off -/
theorem hn_last {B : Nat} : ∀ (n : Nat) (f : Nat → Nat), hn B f (n + 1) = hn B f n + f n * B ^ n := by
  intro n
  induction n with
  | zero => intro f; simp [hn]
  | succ n ih =>
    intro f
    have h1 : hn B f (n + 1 + 1) = f 0 + B * hn B (fun i => f (i + 1)) (n + 1) := rfl
    have h2 : hn B f (n + 1) = f 0 + B * hn B (fun i => f (i + 1)) n := rfl
    rw [h1, ih (fun i => f (i + 1)), h2, Nat.mul_add, Nat.pow_succ]
    have : B * (f (n + 1) * B ^ n) = f (n + 1) * (B ^ n * B) := by rw [Nat.mul_comm B, Nat.mul_assoc]
    omega
theorem hn_sm {B : Nat} (f : Nat → Nat) : ∀ n, hn B f n = sm (fun i => f i * B ^ i) n := by
  intro n
  induction n with
  | zero => rfl
  | succ n ih => rw [hn_last, ih, sm]
theorem hn_zero {B : Nat} (f : Nat → Nat) {n : Nat} (h : f n = 0) : hn B f (n + 1) = hn B f n := by rw [hn_last, h, Nat.zero_mul, Nat.add_zero]
theorem hn_div {B : Nat} (f : Nat → Nat) (n : Nat) (h : f 0 < B) : hn B f (n + 1) / B = hn B (fun i => f (i + 1)) n := by
  rw [hn, Nat.add_mul_div_left _ _ (by omega), Nat.div_eq_of_lt h, Nat.zero_add]
/-- a digit further down, as many digits -/
theorem hn_shift {B : Nat} (f : Nat → Nat) (n : Nat) (h : f 0 < B) (h2 : f (n + 1) = 0) : hn B f (n + 1) / B = hn B (fun i => f (i + 1)) (n + 1) := by
  rw [hn_div f n h, hn_zero (fun i => f (i + 1)) h2]
theorem hn_pair {B : Nat} : ∀ (n : Nat) (f : Nat → Nat), hn B f (2 * n) = hn (B * B) (fun i => f (2 * i) + B * f (2 * i + 1)) n := by
  intro n
  induction n with
  | zero => intro f; rfl
  | succ n ih =>
    intro f
    have h1 : hn B f (2 * (n + 1)) = f 0 + B * (f 1 + B * hn B (fun i => f (i + 2)) (2 * n)) := rfl
    rw [h1, ih (fun i => f (i + 2)), hn]
    show f 0 + B * (f 1 + B * hn (B * B) (fun i => f (2 * i + 2) + B * f (2 * i + 1 + 2)) n) = f (2 * 0) + B * f (2 * 0 + 1) + B * B * hn (B * B) (fun i => f (2 * (i + 1)) + B * f (2 * (i + 1) + 1)) n
    rw [Nat.mul_add, ← Nat.mul_assoc, hn_cong n (fun i => f (2 * i + 2) + B * f (2 * i + 1 + 2)) (fun i => f (2 * (i + 1)) + B * f (2 * (i + 1) + 1)) (fun i hi => rfl)]
    show f 0 + (B * f 1 + B * B * _) = f 0 + B * f 1 + B * B * _
    omega
theorem and_split {k x y R K : Nat} (hx : x < 2 ^ k) (hy : y < 2 ^ k) : (x + 2 ^ k * R) &&& (y + 2 ^ k * K) = (x &&& y) + 2 ^ k * (R &&& K) := by
  have hxy : x &&& y < 2 ^ k := Nat.and_lt_two_pow _ hy
  apply Nat.eq_of_testBit_eq
  intro i
  rw [Nat.testBit_and, Nat.add_comm x, Nat.add_comm y, Nat.add_comm (x &&& y), Nat.testBit_two_pow_mul_add _ hx, Nat.testBit_two_pow_mul_add _ hy, Nat.testBit_two_pow_mul_add _ hxy]
  by_cases h : i < k
  · rw [if_pos h, if_pos h, if_pos h, Nat.testBit_and]
  · rw [if_neg h, if_neg h, if_neg h, Nat.testBit_and]
/-- every other digit kept -/
theorem hn_mask {k : Nat} : ∀ (n : Nat) (f : Nat → Nat), (∀ i, i < 2 * n → f i < 2 ^ k) → hn (2 ^ k) f (2 * n) &&& hn (2 ^ (2 * k)) (fun _ => 2 ^ k - 1) n = hn (2 ^ (2 * k)) (fun i => f (2 * i)) n := by
  intro n
  induction n with
  | zero => intro f _; show 0 &&& 0 = 0; rfl
  | succ n ih =>
    intro f h
    have hk2 : 2 ^ (2 * k) = 2 ^ k * 2 ^ k := by rw [← Nat.pow_add]; congr 1; omega
    have h0 := h 0 (by omega)
    have h1 := h 1 (by omega)
    have e : hn (2 ^ k) f (2 * (n + 1)) = (f 0 + 2 ^ k * f 1) + 2 ^ (2 * k) * hn (2 ^ k) (fun i => f (i + 2)) (2 * n) := by
      have h1 : hn (2 ^ k) f (2 * (n + 1)) = f 0 + 2 ^ k * (f 1 + 2 ^ k * hn (2 ^ k) (fun i => f (i + 2)) (2 * n)) := rfl
      rw [h1, hk2, Nat.mul_add, ← Nat.mul_assoc, Nat.add_assoc]
    have hlt : f 0 + 2 ^ k * f 1 < 2 ^ (2 * k) := by
      rw [hk2]
      have h2 : 2 ^ k * (f 1 + 1) ≤ 2 ^ k * 2 ^ k := Nat.mul_le_mul_left _ h1
      rw [Nat.mul_add] at h2
      omega
    have hm : 2 ^ k - 1 < 2 ^ (2 * k) := by
      rw [hk2]
      have : 2 ^ k * 1 ≤ 2 ^ k * 2 ^ k := Nat.mul_le_mul_left _ (by omega)
      omega
    rw [e]
    show (f 0 + 2 ^ k * f 1 + 2 ^ (2 * k) * _) &&& ((2 ^ k - 1) + 2 ^ (2 * k) * hn (2 ^ (2 * k)) (fun _ => 2 ^ k - 1) n) = f (2 * 0) + 2 ^ (2 * k) * hn (2 ^ (2 * k)) (fun i => f (2 * (i + 1))) n
    rw [and_split hlt hm, ih (fun i => f (i + 2)) (fun i hi => h (i + 2) (by omega)), Nat.and_two_pow_sub_one_eq_mod, Nat.add_mul_mod_self_left, Nat.mod_eq_of_lt h0]
    rfl
theorem fm_and (a b : Nat) : nI a &&& nI b = nI (a &&& b) := by
  apply Int32.toBitVec_inj.mp
  rw [Int32.toBitVec_and]
  show BitVec.ofNat 32 a &&& BitVec.ofNat 32 b = BitVec.ofNat 32 (a &&& b)
  apply BitVec.eq_of_getLsbD_eq
  intro i hi
  simp [BitVec.getLsbD_ofNat, Nat.testBit_and, hi]
/-- seven steps of the count -/
theorem pop_hn (w : Wd) (b : Nat → Nat) (hb : ∀ i, b i ≤ 1) (hz : ∀ i, 60 ≤ i → b i = 0) : fJ13_bitCount_95d88 w (lN (hn 2 b 64)) = some (nI (sm b 60)) := by
  obtain ⟨c, hc⟩ : ∃ c : Nat → Nat, c = fun i => b (2 * i) + b (2 * i + 1) := ⟨_, rfl⟩
  obtain ⟨e, he⟩ : ∃ e : Nat → Nat, e = fun i => c (2 * i) + c (2 * i + 1) := ⟨_, rfl⟩
  obtain ⟨e2, he2⟩ : ∃ e2 : Nat → Nat, e2 = fun i => e i + e (i + 1) := ⟨_, rfl⟩
  obtain ⟨g, hg⟩ : ∃ g : Nat → Nat, g = fun i => e2 (2 * i) := ⟨_, rfl⟩
  obtain ⟨g1, hg1⟩ : ∃ g1 : Nat → Nat, g1 = fun i => g i + g (i + 1) := ⟨_, rfl⟩
  obtain ⟨g2, hg2⟩ : ∃ g2 : Nat → Nat, g2 = fun i => g1 i + g1 (i + 2) := ⟨_, rfl⟩
  obtain ⟨g3, hg3⟩ : ∃ g3 : Nat → Nat, g3 = fun i => g2 i + g2 (i + 4) := ⟨_, rfl⟩
  have vc : ∀ i, c i = b (2 * i) + b (2 * i + 1) := fun i => by rw [hc]
  have ve : ∀ i, e i = c (2 * i) + c (2 * i + 1) := fun i => by rw [he]
  have ve2 : ∀ i, e2 i = e i + e (i + 1) := fun i => by rw [he2]
  have vg : ∀ i, g i = e2 (2 * i) := fun i => by rw [hg]
  have vg1 : ∀ i, g1 i = g i + g (i + 1) := fun i => by rw [hg1]
  have vg2 : ∀ i, g2 i = g1 i + g1 (i + 2) := fun i => by rw [hg2]
  have vg3 : ∀ i, g3 i = g2 i + g2 (i + 4) := fun i => by rw [hg3]
  have bc : ∀ i, c i ≤ 2 := fun i => by rw [vc]; have := hb (2 * i); have := hb (2 * i + 1); omega
  have be : ∀ i, e i ≤ 4 := fun i => by rw [ve]; have := bc (2 * i); have := bc (2 * i + 1); omega
  have be2 : ∀ i, e2 i ≤ 8 := fun i => by rw [ve2]; have := be i; have := be (i + 1); omega
  have bg : ∀ i, g i ≤ 8 := fun i => by rw [vg]; exact be2 _
  have bg1 : ∀ i, g1 i ≤ 16 := fun i => by rw [vg1]; have := bg i; have := bg (i + 1); omega
  have bg2 : ∀ i, g2 i ≤ 32 := fun i => by rw [vg2]; have := bg1 i; have := bg1 (i + 2); omega
  have bg3 : ∀ i, g3 i ≤ 64 := fun i => by rw [vg3]; have := bg2 i; have := bg2 (i + 4); omega
  have zc : ∀ i, 30 ≤ i → c i = 0 := fun i hi => by rw [vc, hz _ (by omega), hz _ (by omega)]
  have ze : ∀ i, 15 ≤ i → e i = 0 := fun i hi => by rw [ve, zc _ (by omega), zc _ (by omega)]
  have ze2 : ∀ i, 15 ≤ i → e2 i = 0 := fun i hi => by rw [ve2, ze _ (by omega), ze _ (by omega)]
  have zg : ∀ i, 8 ≤ i → g i = 0 := fun i hi => by rw [vg, ze2 _ (by omega)]
  have zg1 : ∀ i, 8 ≤ i → g1 i = 0 := fun i hi => by rw [vg1, zg _ (by omega), zg _ (by omega)]
  have zg2 : ∀ i, 8 ≤ i → g2 i = 0 := fun i hi => by rw [vg2, zg1 _ (by omega), zg1 _ (by omega)]
  have lD : hn 2 b 64 < 2 ^ 64 := hn_lt (by omega) 64 b (fun i _ => by have := hb i; omega)
  have lC : hn 4 c 32 < 2 ^ 64 := hn_lt (B := 4) (by omega) 32 c (fun i _ => by have := bc i; omega)
  have lE : hn 16 e 16 < 2 ^ 64 := hn_lt (B := 16) (by omega) 16 e (fun i _ => by have := be i; omega)
  have lE2 : hn 16 e2 16 < 2 ^ 64 := hn_lt (B := 16) (by omega) 16 e2 (fun i _ => by have := be2 i; omega)
  have lG : hn 256 g 8 < 2 ^ 64 := hn_lt (B := 256) (by omega) 8 g (fun i _ => by have := bg i; omega)
  have lG1 : hn 256 g1 8 < 2 ^ 64 := hn_lt (B := 256) (by omega) 8 g1 (fun i _ => by have := bg1 i; omega)
  have lG2 : hn 256 g2 8 < 2 ^ 64 := hn_lt (B := 256) (by omega) 8 g2 (fun i _ => by have := bg2 i; omega)
  have m5 : (6148914691236517205 : Nat) = hn 4 (fun _ => 1) 32 := by decide +kernel
  have m3 : (3689348814741910323 : Nat) = hn 16 (fun _ => 3) 16 := by decide +kernel
  have mf : (1085102592571150095 : Nat) = hn 256 (fun _ => 15) 8 := by decide +kernel
  -- the first step
  have d1 : hn 2 b 64 / 2 = hn 2 (fun i => b (i + 1)) 64 := hn_shift b 63 (by have := hb 0; omega) (hz 64 (by omega))
  have d2 : hn 2 (fun i => b (i + 1)) 64 &&& 6148914691236517205 = hn 4 (fun i => b (2 * i + 1)) 32 := by
    rw [m5]
    exact hn_mask (k := 1) 32 (fun i => b (i + 1)) (fun i _ => by have := hb (i + 1); omega)
  have d3 : hn 2 b 64 = hn 4 (fun i => b (2 * i) + 2 * b (2 * i + 1)) 32 := hn_pair (B := 2) 32 b
  have d4 : hn 4 c 32 + hn 4 (fun i => b (2 * i + 1)) 32 = hn 2 b 64 := by
    rw [hn_add, d3]
    exact hn_cong 32 (fun i => c i + b (2 * i + 1)) (fun i => b (2 * i) + 2 * b (2 * i + 1)) (fun i _ => by rw [vc]; omega)
  have t1 : (some (lN (hn 2 b 64) - (((Int64.toUInt64 (lN (hn 2 b 64)) >>> (Int64.toUInt64 (Int32.toInt64 1) &&& Int64.toUInt64 63)).toInt64) &&& 6148914691236517205)) : Option Int64) = some (lN (hn 4 c 32)) := by
    have s1 : ((lN (hn 2 b 64)).toUInt64 >>> (Int64.toUInt64 (Int32.toInt64 1) &&& Int64.toUInt64 63)).toInt64 = lN (hn 2 b 64 / 2) := wb_shr (k := 1) lD (by omega)
    have s2 : lN (hn 2 (fun i => b (i + 1)) 64) &&& 6148914691236517205 = lN (hn 4 (fun i => b (2 * i + 1)) 32) := by
      rw [show (6148914691236517205 : Int64) = lN 6148914691236517205 from rfl, wb_and (by rw [← d1]; omega) (by omega), d2]
    rw [s1, d1, s2, lN_sub (by omega)]
    exact congrArg (fun n => some (lN n)) (by omega)
  -- the second
  have q1 : hn 4 c 32 &&& 3689348814741910323 = hn 16 (fun i => c (2 * i)) 16 := by
    rw [m3]
    exact hn_mask (k := 2) 16 c (fun i _ => by have := bc i; omega)
  have q2 : hn 4 c 32 / 4 = hn 4 (fun i => c (i + 1)) 32 := hn_shift c 31 (by have := bc 0; omega) (zc 32 (by omega))
  have q3 : hn 4 (fun i => c (i + 1)) 32 &&& 3689348814741910323 = hn 16 (fun i => c (2 * i + 1)) 16 := by
    rw [m3]
    exact hn_mask (k := 2) 16 (fun i => c (i + 1)) (fun i _ => by have := bc (i + 1); omega)
  have t2 : (some ((lN (hn 4 c 32) &&& 3689348814741910323) + (((Int64.toUInt64 (lN (hn 4 c 32)) >>> (Int64.toUInt64 (Int32.toInt64 2) &&& Int64.toUInt64 63)).toInt64) &&& 3689348814741910323)) : Option Int64) = some (lN (hn 16 e 16)) := by
    have s1 : ((lN (hn 4 c 32)).toUInt64 >>> (Int64.toUInt64 (Int32.toInt64 2) &&& Int64.toUInt64 63)).toInt64 = lN (hn 4 c 32 / 4) := wb_shr (k := 2) lC (by omega)
    rw [s1, q2, show (3689348814741910323 : Int64) = lN 3689348814741910323 from rfl, wb_and lC (by omega), wb_and (by rw [← q2]; omega) (by omega), q1, q3, lN_add, hn_add]
    exact congrArg (fun n => some (lN n)) (hn_cong 16 (fun i => c (2 * i) + c (2 * i + 1)) e (fun i _ => (ve i).symm))
  -- the third
  have r1 : hn 16 e 16 / 16 = hn 16 (fun i => e (i + 1)) 16 := hn_shift e 15 (by have := be 0; omega) (ze 16 (by omega))
  have r2 : hn 16 e2 16 &&& 1085102592571150095 = hn 256 g 8 := by
    rw [mf, hg]
    exact hn_mask (k := 4) 8 e2 (fun i _ => by have := be2 i; omega)
  have t3 : (some ((lN (hn 16 e 16) + ((Int64.toUInt64 (lN (hn 16 e 16)) >>> (Int64.toUInt64 (Int32.toInt64 4) &&& Int64.toUInt64 63)).toInt64)) &&& 1085102592571150095) : Option Int64) = some (lN (hn 256 g 8)) := by
    have s1 : ((lN (hn 16 e 16)).toUInt64 >>> (Int64.toUInt64 (Int32.toInt64 4) &&& Int64.toUInt64 63)).toInt64 = lN (hn 16 e 16 / 16) := wb_shr (k := 4) lE (by omega)
    have s2 : hn 16 (fun i => e i + e (i + 1)) 16 = hn 16 e2 16 := hn_cong 16 (fun i => e i + e (i + 1)) e2 (fun i _ => (ve2 i).symm)
    rw [s1, r1, lN_add, hn_add, s2, show (1085102592571150095 : Int64) = lN 1085102592571150095 from rfl, wb_and lE2 (by omega), r2]
  -- the fourth, the fifth, the sixth
  have u1 : hn 256 g 8 / 256 = hn 256 (fun i => g (i + 1)) 8 := hn_shift g 7 (by have := bg 0; omega) (zg 8 (by omega))
  have t4 : (some (lN (hn 256 g 8) + ((Int64.toUInt64 (lN (hn 256 g 8)) >>> (Int64.toUInt64 (Int32.toInt64 8) &&& Int64.toUInt64 63)).toInt64)) : Option Int64) = some (lN (hn 256 g1 8)) := by
    have s1 : ((lN (hn 256 g 8)).toUInt64 >>> (Int64.toUInt64 (Int32.toInt64 8) &&& Int64.toUInt64 63)).toInt64 = lN (hn 256 g 8 / 256) := wb_shr (k := 8) lG (by omega)
    rw [s1, u1, lN_add, hn_add]
    exact congrArg (fun n => some (lN n)) (hn_cong 8 (fun i => g i + g (i + 1)) g1 (fun i _ => (vg1 i).symm))
  have u2 : hn 256 g1 8 / 65536 = hn 256 (fun i => g1 (i + 2)) 8 := by
    rw [show (65536 : Nat) = 256 * 256 from rfl, ← Nat.div_div_eq_div_mul, hn_shift g1 7 (by have := bg1 0; omega) (zg1 8 (by omega)), hn_shift (fun i => g1 (i + 1)) 7 (by show g1 1 < 256; have := bg1 1; omega) (zg1 9 (by omega))]
  have t5 : (some (lN (hn 256 g1 8) + ((Int64.toUInt64 (lN (hn 256 g1 8)) >>> (Int64.toUInt64 (Int32.toInt64 16) &&& Int64.toUInt64 63)).toInt64)) : Option Int64) = some (lN (hn 256 g2 8)) := by
    have s1 : ((lN (hn 256 g1 8)).toUInt64 >>> (Int64.toUInt64 (Int32.toInt64 16) &&& Int64.toUInt64 63)).toInt64 = lN (hn 256 g1 8 / 65536) := wb_shr (k := 16) lG1 (by omega)
    rw [s1, u2, lN_add, hn_add]
    exact congrArg (fun n => some (lN n)) (hn_cong 8 (fun i => g1 i + g1 (i + 2)) g2 (fun i _ => (vg2 i).symm))
  have u3 : hn 256 g2 8 / 4294967296 = hn 256 (fun i => g2 (i + 4)) 8 := by
    rw [show (4294967296 : Nat) = 256 * 256 * 256 * 256 from rfl, ← Nat.div_div_eq_div_mul, ← Nat.div_div_eq_div_mul, ← Nat.div_div_eq_div_mul, hn_shift g2 7 (by have := bg2 0; omega) (zg2 8 (by omega)), hn_shift (fun i => g2 (i + 1)) 7 (by show g2 1 < 256; have := bg2 1; omega) (zg2 9 (by omega)), hn_shift (fun i => g2 (i + 1 + 1)) 7 (by show g2 2 < 256; have := bg2 2; omega) (zg2 10 (by omega)), hn_shift (fun i => g2 (i + 1 + 1 + 1)) 7 (by show g2 3 < 256; have := bg2 3; omega) (zg2 11 (by omega))]
  have t6 : (some (lN (hn 256 g2 8) + ((Int64.toUInt64 (lN (hn 256 g2 8)) >>> (Int64.toUInt64 (Int32.toInt64 32) &&& Int64.toUInt64 63)).toInt64)) : Option Int64) = some (lN (hn 256 g3 8)) := by
    have s1 : ((lN (hn 256 g2 8)).toUInt64 >>> (Int64.toUInt64 (Int32.toInt64 32) &&& Int64.toUInt64 63)).toInt64 = lN (hn 256 g2 8 / 4294967296) := wb_shr (k := 32) lG2 (by omega)
    rw [s1, u3, lN_add, hn_add]
    exact congrArg (fun n => some (lN n)) (hn_cong 8 (fun i => g2 i + g2 (i + 4)) g3 (fun i _ => (vg3 i).symm))
  unfold fJ13_bitCount_95d88
  rw [t1, ob_some, t2, ob_some, t3, ob_some, t4, ob_some, t5, ob_some, t6, ob_some, lN_i]
  have fin : nI (hn 256 g3 8) &&& 127 = nI (g3 0) := by
    rw [show (127 : Int32) = nI (2 ^ 7 - 1) from rfl, fm_and, Nat.and_two_pow_sub_one_eq_mod]
    refine congrArg nI ?_
    have h3 : hn 256 g3 8 = g3 0 + 256 * hn 256 (fun i => g3 (i + 1)) 7 := rfl
    have := bg3 0
    rw [h3]
    omega
  rw [fin]
  refine congrArg (fun n => some (nI n)) ?_
  simp only [vg3, vg2, vg1, vg, ve2, ve, vc, sm]
  have z60 := hz 60 (by omega)
  have z61 := hz 61 (by omega)
  have z62 := hz 62 (by omega)
  have z63 := hz 63 (by omega)
  simp only [Nat.reduceMul, Nat.reduceAdd, z60, z61, z62, z63]
  omega
theorem C_gct {w : Wd} {a : Nat → Nat} {o : Nat} (O : OC w o a) (I : IO a) : fJ13_bitCount_95d88 w (w.2.1 o) = some (nI (gct a)) := by
  obtain ⟨B, hB⟩ : ∃ B : Nat → Nat, B = fun i => if i < 60 then a (498 + i) else 0 := ⟨_, rfl⟩
  have v1 : ∀ i, i < 60 → B i = a (498 + i) := fun i hi => by rw [hB]; show (if i < 60 then a (498 + i) else 0) = _; rw [if_pos hi]
  have v2 : ∀ i, 60 ≤ i → B i = 0 := fun i hi => by rw [hB]; show (if i < 60 then a (498 + i) else 0) = _; rw [if_neg (by omega)]
  have h := pop_hn w B (fun i => by
    by_cases hi : i < 60
    · rw [v1 i hi]; exact I.2.2.2.2.1 i hi
    · rw [v2 i (by omega)]; omega) v2
  have e1 : hn 2 B 64 = gs a 60 := by
    rw [hn_zero (n := 63) B (v2 63 (by omega)), hn_zero (n := 62) B (v2 62 (by omega)), hn_zero (n := 61) B (v2 61 (by omega)), hn_zero (n := 60) B (v2 60 (by omega)), hn_sm]
    exact sm_cong (fun i hi => by rw [v1 i hi])
  have e2 : sm B 60 = gct a := sm_cong (fun i hi => v1 i hi)
  rw [e1, e2] at h
  rw [O.2.2.2.2.2.1]
  exact h
