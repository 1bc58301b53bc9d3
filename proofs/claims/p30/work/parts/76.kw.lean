/-! PURE PART: the class alone, and the row of numbers that it says -/
theorem Zex (a : Nat → Nat) : ∃ w : Wd, ZA (w.1 112) a :=
  ⟨(fun _ j => if j = 563 then nI (a 563) - 1 else nI (a j), fun _ => 0, fun _ _ => 0), fun k _ h => by
    show (if k = 563 then nI (a 563) - 1 else nI (a k)) = _
    rw [if_neg h], rfl⟩
/-- the history, whatever it holds -/
def HH (w : Wd) : Prop := ∃ h p, HC w h p ∧ h ≤ 4 ∧ ∀ j, j < h → GD (p j)
def KW (w : Wd) (a : Nat → Nat) : Prop := Rs w 1 a ∧ GD a ∧ HH w
section KWS
variable {w w1 w2 : Wd} {a a' : Nat → Nat} {h : Nat} {p : Nat → Nat → Nat}
theorem HC_fr (H : HC w h p) (hI : ∀ j, j < h → IO (p j)) {lo hi : Nat} (F : Fr lo hi w w1) (hf : 83 ≤ lo ∨ hi ≤ 17) : HC w1 h p := by
  obtain ⟨H1, H2, P, HR⟩ := H
  have k2 : w1.2.2 18 = w.2.2 18 := F.2.2 18 (by omega)
  refine ⟨by rw [F.1 17 (by omega)]; exact H1, H2, ?_, fun j hj => ?_⟩
  · show (∀ i, i < 4 → ∃ t, t < 4 ∧ w1.2.2 18 i = 19 + 16 * t) ∧ (∀ i j, i < 4 → j < 4 → i ≠ j → w1.2.2 18 i ≠ w1.2.2 18 j)
    rw [k2]
    exact P
  · rw [k2]
    obtain ⟨t', ht', x'⟩ := P.1 j (by omega)
    exact Rs_fr (HR j hj) (hI j hj) F (by omega)
theorem HH_fr (H : HH w) {lo hi : Nat} (F : Fr lo hi w w1) (hf : 83 ≤ lo ∨ hi ≤ 17) : HH w1 := by
  obtain ⟨h, p, H, h4, hp⟩ := H
  exact ⟨h, p, HC_fr H (fun j hj => (hp j hj).1) F hf, h4, hp⟩
theorem rh_le (h : Nat) (hh : h ≤ 4) : rh h ≤ 4 := by unfold rh; split <;> omega
theorem rp_GD (V1 : GD a) (hh : h ≤ 4) (hp : ∀ j, j < h → GD (p j)) : ∀ j, j < rh h → GD (rp p h a j) := by
  intro j hj
  unfold rh at hj
  unfold rp
  by_cases h4 : h < 4
  · rw [if_pos h4] at hj ⊢
    by_cases hjh : j = h
    · rw [if_pos hjh]; exact V1
    · rw [if_neg hjh]; exact hp j (by omega)
  · rw [if_neg h4] at hj ⊢
    by_cases hj3 : j = 3
    · rw [if_pos hj3]; exact V1
    · rw [if_neg hj3]; exact hp (j + 1) (by omega)
theorem KREC (K : KW w a) : ∃ w1, fX0_record LY w 17 1 = some w1 ∧ Rs w1 1 a ∧ HH w1 ∧ Fr 17 83 w w1 := by
  obtain ⟨R, V, h, p, H, h4, hp⟩ := K
  obtain ⟨w1, e, H, F⟩ := C_record H (fun j hj => (hp j hj).1) R V.1
  exact ⟨w1, e, Rs_fr R V.1 F (by omega), ⟨_, _, H, rh_le h h4, rp_GD V h4 hp⟩, F⟩
theorem KW_fr (K : KW w a) {lo hi : Nat} (F : Fr lo hi w w1) (hf : 83 ≤ lo) : KW w1 a := ⟨Rs_fr K.1 K.2.1.1 F (by omega), K.2.1, HH_fr K.2.2 F (by omega)⟩
theorem neg_lt1 {x : Int32} (h : x < 0) : x < 1 := by
  rw [Int32.lt_iff_toInt_lt] at h ⊢
  have h1 : (0 : Int32).toInt = 0 := by decide
  have h2 : (1 : Int32).toInt = 1 := by decide
  omega
theorem num_cases (x : Int32) : (x < 0) ∨ ∃ s, s < 2147483648 ∧ x = nI s := by
  by_cases h : x < 0
  · exact Or.inl h
  · obtain ⟨j, hj, e⟩ := nI_of h
    exact Or.inr ⟨j, by omega, e⟩
theorem on_0 (R : Rs w 1 a) (I : IO a) : (a 559 = 0 → bz (w.1 8 0) = 0) ∧ (a 559 ≠ 0 → a 559 = 1 ∧ ¬ bz (w.1 8 0) = 0) := by
  have h := R.2.1
  have h1 := I.2.2.2.2.2.2
  refine ⟨fun z => ?_, fun z => ?_⟩
  · rw [show (8 : Nat) = 1 + 7 from rfl, h, z]; rfl
  · have : a 559 = 1 := by omega
    refine ⟨this, ?_⟩
    rw [show (8 : Nat) = 1 + 7 from rfl, h, this]
    decide
end KWS
