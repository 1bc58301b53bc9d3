/-! THE SCRIPT: rows -/
def ldX (L : Nat) (xs : Nat → Int32) (i : Int32) : Option Int32 := if i < 0 ∨ L ≤ i.toNatClampNeg then none else some (xs i.toNatClampNeg)
def SX (E : Ex) (L : Nat) (xs : Nat → Int32) : Prop := E.2.2.2.2.2.2.1 1 = L ∧ E.2.2.2.2.2.2.2 = xs
section YL
variable {ρ : Type} {g : Gx} {E : Ex} {cc : ByteArray} {nL nf nl L : Nat} {xs : Nat → Int32} {own : String} {QQ : ρ → State → Prop} {o : Option ρ} {w w' : Wd} {pc n : Nat} {ls ls' : List (Nat × Value)} {st : List Value}
theorem y_sld (C : CC g E cc nL own nf nl) (HX : SX E L xs) {i : Int32} {K : Int32 → Option ρ} (hd : decode cc pc = .ok (.iaload, 1)) (hn : pc + 1 = n) (kk : ∀ x, ldX L xs i = some x → YO g E nL QQ (K x) w n ls (.int x :: st)) : YO g E nL QQ ((ldX L xs i).bind K) w pc ls (.int i :: .ref (E.2.2.2.2.2.2.1 0) :: st) := by
  subst hn
  obtain ⟨rfl, rfl⟩ := HX
  by_cases h : i < 0 ∨ E.2.2.2.2.2.2.1 1 ≤ i.toNatClampNeg
  · rw [ldX, if_pos h]; exact y_no
  · have e : ldX (E.2.2.2.2.2.2.1 1) E.2.2.2.2.2.2.2 i = some (E.2.2.2.2.2.2.2 i.toNatClampNeg) := by rw [ldX, if_neg h]
    rw [e]
    have S : yST E g.2.2.2.2.1 g.2.2.2.2.1.heap := C.2.2.2.2.2.2.2.2.2.1
    have hbA : ¬ yA E (E.2.2.2.2.2.2.1 0) := fun z => Nat.not_lt.mpr z S.2.2
    exact fun r hr H locs la hP hS hl => va_sld C.1 C.2.1 S.1 S.2.1 hbA hS h hd (kk _ e r hr H locs la hP hS hl)
theorem y_slen (C : CC g E cc nL own nf nl) (HX : SX E L xs) (hd : decode cc pc = .ok (.arraylength, 1)) (hn : pc + 1 = n) (kk : YO g E nL QQ o w n ls (.int (nI L) :: st)) : YO g E nL QQ o w pc ls (.ref (E.2.2.2.2.2.2.1 0) :: st) := by
  subst hn
  obtain ⟨rfl, rfl⟩ := HX
  have S : yST E g.2.2.2.2.1 g.2.2.2.2.1.heap := C.2.2.2.2.2.2.2.2.2.1
  have hbA : ¬ yA E (E.2.2.2.2.2.2.1 0) := fun z => Nat.not_lt.mpr z S.2.2
  exact fun r hr H locs la hP hS hl => va_slen C.1 C.2.1 S.1 S.2.1 hbA hS hd (kk r hr H locs la hP hS hl)
theorem y_ldc (C : CC g E cc nL own nf nl) {index : Nat} (v : Int32) (hw : Cond.constant own index v ∈ TB) (hd : decode cc pc = .ok (.ldc index, 2)) (hn : pc + 2 = n) (kk : YO g E nL QQ o w n ls (.int v :: st)) : YO g E nL QQ o w pc ls st := by
  subst hn
  exact fun r hr H locs la hP hS hl => lv_ldc C.1 C.2.1 C.2.2.2.1 (C.2.2.2.2.1 _ hw) hd (kk r hr H locs la hP hS hl)
theorem y_iremv (C : CC g E cc nL own nf nl) {x y : Int32} (hd : decode cc pc = .ok (.irem, 1)) (hn : pc + 1 = n) (kk : ¬ y = 0 → YO g E nL QQ o w n ls (.int (x - x / y * y) :: st)) : YO g E nL QQ (if y = 0 then none else o) w pc ls (.int y :: .int x :: st) := by
  by_cases h : y = 0
  · rw [if_pos h]; exact y_no
  · rw [if_neg h]; exact y_irem C hd h hn (kk h)
theorem y_idivv (C : CC g E cc nL own nf nl) {x y : Int32} (hd : decode cc pc = .ok (.idiv, 1)) (hn : pc + 1 = n) (kk : ¬ y = 0 → YO g E nL QQ o w n ls (.int (x / y) :: st)) : YO g E nL QQ (if y = 0 then none else o) w pc ls (.int y :: .int x :: st) := by
  by_cases h : y = 0
  · rw [if_pos h]; exact y_no
  · rw [if_neg h]; exact y_idiv C hd h hn (kk h)
end YL
