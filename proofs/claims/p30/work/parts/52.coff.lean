/-! PURE PART, THE OFFICE OF THE CLASS: what its rows say (numbers a), its reads -/
theorem of_decide_eq_decide_ {p q : Prop} {_ : Decidable p} {_ : Decidable q} (h : decide p = decide q) : p ↔ q := by
  constructor
  · intro hp
    exact of_decide_eq_true (h ▸ decide_eq_true hp)
  · intro hq
    exact of_decide_eq_true (h ▸ decide_eq_true hq)
def gs (a : Nat → Nat) (n : Nat) : Nat := sm (fun d => a (498 + d) * 2 ^ d) n
theorem gs_lt {a : Nat → Nat} : ∀ {n : Nat}, (∀ d, d < n → a (498 + d) ≤ 1) → gs a n < 2 ^ n := by
  intro n
  induction n with
  | zero => intro _; simp [gs, sm]
  | succ n ih =>
    intro h
    have h1 := ih (fun d hd => h d (by omega))
    have h2 := h n (by omega)
    unfold gs at h1 ⊢
    rw [sm, Nat.pow_succ]
    have h3 : a (498 + n) * 2 ^ n ≤ 1 * 2 ^ n := Nat.mul_le_mul_right _ h2
    omega
theorem gs_bit {a : Nat → Nat} : ∀ {n : Nat}, (∀ d, d < n → a (498 + d) ≤ 1) → ∀ i, (gs a n).testBit i = decide (i < n ∧ a (498 + i) = 1) := by
  intro n
  induction n with
  | zero => intro _ i; simp [gs, sm]
  | succ n ih =>
    intro h i
    have h1 := ih (fun d hd => h d (by omega)) i
    have h2 := h n (by omega)
    have h3 := gs_lt (a := a) (n := n) (fun d hd => h d (by omega))
    have e : gs a (n + 1) = 2 ^ n * a (498 + n) + gs a n := by
      unfold gs
      rw [sm, Nat.mul_comm]
      omega
    rw [e, Nat.testBit_two_pow_mul_add _ h3]
    by_cases hi : i < n
    · rw [if_pos hi, h1]
      simp [hi, show i < n + 1 by omega]
    · rw [if_neg hi]
      by_cases hin : i = n
      · subst hin
        rw [Nat.sub_self]
        obtain h0 | h0 : a (498 + i) = 0 ∨ a (498 + i) = 1 := by omega
        · rw [h0]; simp
        · rw [h0]; simp
      · have : ¬ i < n + 1 := by omega
        obtain h0 | h0 : a (498 + n) = 0 ∨ a (498 + n) = 1 := by omega
        · rw [h0]; simp [this]
        · rw [h0]
          obtain ⟨k, hk⟩ : ∃ k, i - n = k + 1 := ⟨i - n - 1, by omega⟩
          rw [hk]
          simp [this, Nat.testBit_succ]
theorem gs_flip {a : Nat → Nat} {d : Nat} (hd : d < 60) (h : ∀ d, d < 60 → a (498 + d) ≤ 1) {a' : Nat → Nat} (h1 : a' (498 + d) = 1 - a (498 + d)) (h2 : ∀ e, e ≠ d → a' (498 + e) = a (498 + e)) : gs a 60 ^^^ 2 ^ d = gs a' 60 := by
  have h' : ∀ d, d < 60 → a' (498 + d) ≤ 1 := by
    intro e he
    by_cases hed : e = d
    · subst hed; rw [h1]; omega
    · rw [h2 e hed]; exact h e he
  apply Nat.eq_of_testBit_eq
  intro i
  rw [Nat.testBit_xor, gs_bit h, gs_bit h', Nat.testBit_two_pow]
  by_cases hi : i = d
  · subst hi
    have := h i hd
    rw [h1]
    obtain h0 | h0 : a (498 + i) = 0 ∨ a (498 + i) = 1 := by omega
    · simp [h0, hd]
    · simp [h0, hd]
  · rw [h2 i hi]
    simp [Ne.symm hi]
def OC (w : Wd) (o : Nat) (a : Nat → Nat) : Prop :=
  (∀ l, l < 6 → w.1 (o + 3) l = nI (a (480 + l))) ∧
  (∀ l p, l < 6 → p < a (480 + l) → w.1 (o + 2) (l * 40 + p) = nI (a (40 * l + p))) ∧
  (∀ l d, l < 6 → d < 60 → w.1 (o + 1) (l * 60 + d) = nI (scr a l d)) ∧
  (∀ l, l < 6 → w.1 (o + 4) l = nI (a (486 + l))) ∧
  (∀ l, l < 6 → w.1 (o + 5) l = nI (a (492 + l))) ∧
  w.2.1 o = lN (gs a 60) ∧ w.1 o 6 = nI (a 558)
section CO
variable {w : Wd} {a : Nat → Nat} {o : Nat}
theorem isDoc_y {d : Nat} (h : d < 60) : fX5_isDocument w (nI d) = some 1 := by
  unfold fX5_isDocument
  rw [if_neg (nI_pos (by omega))]
  simp (disch := omega) only [n60, nI_le_]
  rw [if_neg (by omega)]
  rfl
theorem isDoc_n {x : Int32} (h : ∀ d, d < 60 → x ≠ nI d) : fX5_isDocument w x = some 0 := by
  unfold fX5_isDocument
  by_cases h0 : x < 0
  · rw [if_pos h0]; rfl
  · rw [if_neg h0]
    obtain ⟨j, hj, rfl⟩ := nI_of h0
    have : 60 ≤ j := Nat.not_lt.mp fun z => h j z rfl
    simp (disch := omega) only [n60, nI_le_]
    rw [if_pos this]
    rfl
theorem isList_y {d : Nat} (h : d < 6) : fX5_isList w (nI d) = some 1 := by
  unfold fX5_isList
  rw [if_neg (nI_pos (by omega))]
  simp (disch := omega) only [n6, nI_le_]
  rw [if_neg (by omega)]
  rfl
theorem isList_n {x : Int32} (h : ∀ d, d < 6 → x ≠ nI d) : fX5_isList w x = some 0 := by
  unfold fX5_isList
  by_cases h0 : x < 0
  · rw [if_pos h0]; rfl
  · rw [if_neg h0]
    obtain ⟨j, hj, rfl⟩ := nI_of h0
    have : 6 ≤ j := Nat.not_lt.mp fun z => h j z rfl
    simp (disch := omega) only [n6, nI_le_]
    rw [if_pos this]
    rfl
theorem oneIf_0 : fX5_oneIf w 0 = some 0 := rfl
theorem oneIf_1 : fX5_oneIf w 1 = some 1 := rfl
theorem C_sizeOf (O : OC w o a) {l : Nat} (hl : l < 6) : fX1_sizeOf w o (nI l) = some (nI (a (480 + l))) := by
  unfold fX1_sizeOf
  rw [at_n hl (by decide), O.1 l hl]
  rfl
theorem C_weightOf (O : OC w o a) {l : Nat} (hl : l < 6) : fX1_weightOf w o (nI l) = some (nI (a (486 + l))) := by
  unfold fX1_weightOf
  rw [at_n hl (by decide), O.2.2.2.1 l hl]
  rfl
theorem C_isAsked (O : OC w o a) (I : IO a) {l : Nat} (hl : l < 6) : fX1_isAsked w o (nI l) = some (if 0 < a (486 + l) then 1 else 0) := by
  have := I.1 l hl
  unfold fX1_isAsked
  rw [at_n hl (by decide), O.2.2.2.1 l hl, ob_some]
  have e : nI (a (486 + l)) ≤ 0 ↔ a (486 + l) ≤ 0 := nI_leI (by omega) (b := 0) (by omega)
  by_cases h : 0 < a (486 + l)
  · rw [if_neg (fun z => by have := e.mp z; omega), if_pos h]; rfl
  · rw [if_pos (e.mpr (by omega)), if_neg h]; rfl
theorem C_documentAt (O : OC w o a) (I : IO a) {l p : Nat} (hl : l < 6) (hp : p < a (480 + l)) : fX1_documentAt w o (nI l) (nI p) = some (nI (a (40 * l + p))) := by
  have := I.1 l hl
  unfold fX1_documentAt
  simp (disch := omega) only [n40, nI_mul, nI_add, at_n, ob_some, O.2.1]
theorem C_scoreOf (O : OC w o a) {l d : Nat} (hl : l < 6) (hd : d < 60) : fX1_scoreOf w o (nI l) (nI d) = some (nI (scr a l d)) := by
  unfold fX1_scoreOf
  rw [isDoc_y hd, ob_some, if_neg (by decide)]
  simp (disch := omega) only [n60, nI_mul, nI_add, at_n, ob_some, O.2.2.1]
theorem scr_at (I : IO a) {l p : Nat} (hl : l < 6) (hp : p < a (480 + l)) : scr a l (a (40 * l + p)) = a (240 + 40 * l + p) := by
  unfold scr
  rw [sm_one hp (fun i hi hip => ?_), if_pos rfl]
  refine if_neg fun e => ?_
  by_cases hlt : i < p
  · exact I.2.2.2.1 l i p hl hlt hp e
  · exact I.2.2.2.1 l p i hl (by omega) hi e.symm
theorem C_scoreAt (O : OC w o a) (I : IO a) {l p : Nat} (hl : l < 6) (hp : p ≤ 1000) : fX1_scoreAt w o (nI l) (nI p) = some (nI (if p < a (480 + l) then a (240 + 40 * l + p) else 0)) := by
  have h1 := I.1 l hl
  unfold fX1_scoreAt
  rw [at_n hl (by decide), O.1 l hl, ob_some]
  by_cases h : p < a (480 + l)
  · have h2 := I.2.1 l p hl h
    rw [if_neg (by rw [nI_le_ (by omega) (by omega)]; omega), C_documentAt O I hl h, ob_some, C_scoreOf O hl h2.1, ob_some, scr_at I hl h, if_pos h]
  · rw [if_pos (by rw [nI_le_ (by omega) (by omega)]; omega), if_neg h]; rfl
theorem C_valueOf (O : OC w o a) (I : IO a) {d : Nat} (hd : d < 60) : fX1_valueOf w o (nI d) = some (nI (val a d)) := by
  refine loopN (fun n i => lX1_valueOf_4 o n w (nI d) (nI (sm (fun l => a (486 + l) * scr a l d) i)) (nI i)) 6 _ (fun n i hi => ?_) (fun n => ?_) 4096 (by omega)
  · show lX1_valueOf_4 o (n + 1) w (nI d) _ (nI i) = _
    rw [lX1_valueOf_4]
    simp (disch := omega) only [n1, n6, nI_add, nI_mul, at_n, O.2.2.2.1, ob_some, nI_le_, C_scoreOf O]
    rw [if_neg (by omega), sm]
  · show lX1_valueOf_4 o (n + 1) w (nI d) _ (nI 6) = _
    rw [lX1_valueOf_4]
    simp (disch := omega) only [n6, nI_le_]
    rw [if_pos (by omega), val]
theorem del_sh (I : IO a) {d : Nat} (hd : d < 60) : (lN (gs a 60) >>> (Int32.toInt64 (nI d) &&& 63)) &&& 1 = lN (a (498 + d)) := by
  have hg := gs_lt (a := a) (n := 60) I.2.2.2.2.1
  have hg' : gs a 60 < 2 ^ 62 := Nat.lt_trans hg (by decide)
  have hD : ((Int32.toInt64 (nI d) &&& 63).toBitVec.smod 64).toNat = d := by
    rw [wb_c d (by omega), wb_tb, wb_sm d (by omega), BitVec.toNat_ofNat, Nat.mod_eq_of_lt (by omega)]
  rw [pf_shr hD hg', wb_a1 (by
    have : gs a 60 / 2 ^ d ≤ gs a 60 := Nat.div_le_self _ _
    omega)]
  have hb := gs_bit (a := a) (n := 60) I.2.2.2.2.1 d
  have h1 := I.2.2.2.2.1 d hd
  rw [Nat.testBit_eq_decide_div_mod_eq] at hb
  have hb' := of_decide_eq_decide_ hb
  congr 1
  obtain h0 | h0 : a (498 + d) = 0 ∨ a (498 + d) = 1 := by omega
  · rw [h0] at hb' ⊢
    have : ¬ gs a 60 / 2 ^ d % 2 = 1 := fun z => by
      have := (hb'.mp z).2
      omega
    omega
  · rw [h0]
    exact hb'.mpr ⟨hd, h0⟩
theorem C_isDeleted (O : OC w o a) (I : IO a) {d : Nat} (hd : d < 60) : fX1_isDeleted w o (nI d) = some (nI (a (498 + d))) := by
  have h1 := I.2.2.2.2.1 d hd
  unfold fX1_isDeleted
  rw [O.2.2.2.2.2.1, del_sh I hd]
  obtain h0 | h0 : a (498 + d) = 0 ∨ a (498 + d) = 1 := by omega
  · rw [h0]; decide
  · rw [h0]; decide
end CO
