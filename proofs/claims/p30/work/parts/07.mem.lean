def yP (E : Ex) (w : Wd) (U : State) : Prop := va_P E.1 vwCl (yW E w) U.heap ∧ yKK E U ∧ yST E U U.heap
def yQi (E : Ex) (r : Int32 × Wd) : Array Value → State → Outcome → State → Prop := va_Qi (fun (x : Int32) (_ : Unit) => x = r.1) (fun _ t => va_P E.1 vwCl (yW E r.2) t.heap) (yA E)
def yQv (E : Ex) (r : Wd) : Array Value → State → Outcome → State → Prop := va_Qv (fun (_ : Unit) => True) (fun _ t => va_P E.1 vwCl (yW E r) t.heap) (yA E)
def yQq (E : Ex) (r : Option Nat) (w : Wd) : Array Value → State → Outcome → State → Prop := va_Qq (fun (x : Option Nat) (_ : Unit) => x = r.map (fun k => E.2.2.2.2.1 + k)) (fun _ t => va_P E.1 vwCl (yW E w) t.heap) (yA E)
abbrev MZ (l : Launch) (y : MethodName) (cc : ByteArray) (maxL : Nat) (rt : Option FieldType) (rm : Room) (E : Ex) (av : List Value) (w : Wd) (Qc : Array Value → State → Outcome → State → Prop) : Prop := Met l y (yws y cc maxL rt) rm (va_Pc av (yP E w)) Qc 0 0 (yA E)
def MI (l : Launch) (y : MethodName) (cc : ByteArray) (maxL : Nat) (rt : Option FieldType) (rm : Room) (E : Ex) (av : List Value) (w : Wd) (f : Option (Int32 × Wd)) : Prop := ∀ r, f = some r → MZ l y cc maxL rt rm E av w (yQi E r)
def MP (l : Launch) (y : MethodName) (cc : ByteArray) (maxL : Nat) (rt : Option FieldType) (rm : Room) (E : Ex) (av : List Value) (w : Wd) (f : Option Int32) : Prop := ∀ r, f = some r → MZ l y cc maxL rt rm E av w (yQi E (r, w))
def MV (l : Launch) (y : MethodName) (cc : ByteArray) (maxL : Nat) (rt : Option FieldType) (rm : Room) (E : Ex) (av : List Value) (w : Wd) (f : Option Wd) : Prop := ∀ r, f = some r → MZ l y cc maxL rt rm E av w (yQv E r)
def MQq (l : Launch) (y : MethodName) (cc : ByteArray) (maxL : Nat) (rt : Option FieldType) (rm : Room) (E : Ex) (av : List Value) (w : Wd) (f : Option (Option Nat)) : Prop := ∀ r, f = some r → MZ l y cc maxL rt rm E av w (yQq E r w)
def ldI (q : Nat) (w : Wd) (k : Nat) (i : Int32) : Option Int32 := if i < 0 ∨ q ≤ i.toNatClampNeg then none else some (w.1 k i.toNatClampNeg)
def stI (q : Nat) (w : Wd) (k : Nat) (i x : Int32) : Option Wd := if i < 0 ∨ q ≤ i.toNatClampNeg then none else some (sI w k i.toNatClampNeg x)
def stC (q : Nat) (w : Wd) (k : Nat) (i x : Int32) : Option Wd := if i < 0 ∨ q ≤ i.toNatClampNeg then none else some (sI w k i.toNatClampNeg (vp_nar .char x))
def ldR (q : Nat) (w : Wd) (k : Nat) (i : Int32) : Option Nat := if i < 0 ∨ q ≤ i.toNatClampNeg then none else some (w.2.2 k i.toNatClampNeg)
def stR (q : Nat) (w : Wd) (k : Nat) (i : Int32) (x : Nat) : Option Wd := if i < 0 ∨ q ≤ i.toNatClampNeg then none else some (sR w k i.toNatClampNeg x)
def stZ (w : Wd) (k j : Nat) (x : Int32) : Option Wd := if x = 0 ∨ x = 1 then some (sI w k j x) else none
def rtZ (x : Int32) : Option Int32 := if x = 0 ∨ x = 1 then some x else none
def rtC (x : Int32) : Option Int32 := if narrow .char (.int x) = .int x then some x else none
def imin (x y : Int32) : Int32 := if y < x then y else x
def imax (x y : Int32) : Int32 := if x < y then y else x
def cpy (w : Wd) (k0 q0 k1 q1 : Nat) (sp dp n : Int32) : Option Wd := if sp < 0 ∨ dp < 0 ∨ n < 0 ∨ q0 < sp.toNatClampNeg + n.toNatClampNeg ∨ q1 < dp.toNatClampNeg + n.toNatClampNeg then none else some (sA w k1 (va_cpy (w.1 k0) (w.1 k1) sp.toNatClampNeg dp.toNatClampNeg n.toNatClampNeg))
section YM
variable {ρ : Type} {g : Gx} {E : Ex} {cc : ByteArray} {nL nf nl : Nat} {own : String} {QQ : ρ → State → Prop} {o : Option ρ} {w w' : Wd} {pc n : Nat} {ls ls' : List (Nat × Value)} {st : List Value}
theorem y_get (C : CC g E cc nL own nf nl) {k ci f N index : Nat} {Cn ref : String} {T : u_T} {v : Value} (hin : ∀ c ∈ u_ws Cn T N, c ∈ TB) (ho : E.2.2.2.2.2.1[k]? = some (ci + 3, 0)) (hc : vwCl[ci]? = some (Cn, T, N)) (hf : f < N) (hl : Cond.fieldLink own index ref (T f).2.1 (T f).2.2.1 ∈ TB) (hr : ref = (T f).1) (hv : (yF E.2.2.2.2.1 w k ci)[f]? = some v) (hd : decode cc pc = .ok (.getfield index, 3)) (hn : pc + 3 = n)
    (kk : YO g E nL QQ o w n ls (v :: st)) : YO g E nL QQ o w pc ls (.ref (E.2.2.2.2.1 + k) :: st) := by
  subst hn; subst hr
  exact fun r hr H locs la hP hS hl' => va_get C.1 C.2.1 C.2.2.2.2.1 hin C.2.2.2.1 C.2.2.2.2.2.1.1 hP k (yW_get ho) hc f hf (C.2.2.2.2.1 _ hl) (fun _ h => h) hv hd (kk r hr H locs la hP hS hl')
theorem y_getN (C : CC g E cc nL own nf nl) {k ci f N index : Nat} {Cn ref host : String} {T : u_T} {v : Value} (hin : ∀ c ∈ u_ws Cn T N, c ∈ TB) (ho : E.2.2.2.2.2.1[k]? = some (ci + 3, 0)) (hc : vwCl[ci]? = some (Cn, T, N)) (hf : f < N) (hl : Cond.fieldLinkNest own index ref (T f).2.1 (T f).2.2.1 host ∈ NWs) (hr : ref = (T f).1) (hv : (yF E.2.2.2.2.1 w k ci)[f]? = some v) (hd : decode cc pc = .ok (.getfield index, 3)) (hn : pc + 3 = n)
    (kk : YO g E nL QQ o w n ls (v :: st)) : YO g E nL QQ o w pc ls (.ref (E.2.2.2.2.1 + k) :: st) := by
  subst hn; subst hr
  exact fun r hr H locs la hP hS hl' => va_getN C.1 C.2.1 C.2.2.2.2.1 hin C.2.2.2.1 C.2.2.2.2.2.1.1 hP k (yW_get ho) hc f hf (va_Nw.use rfl (C.2.2.2.2.2.1.2 _ hl)) (fun _ h => h) hv hd (kk r hr H locs la hP hS hl')
theorem y_put (C : CC g E cc nL own nf nl) {k ci f N index : Nat} {Cn ref : String} {T : u_T} {ty : FieldType} {v : Value} (hin : ∀ c ∈ u_ws Cn T N, c ∈ TB) (ty0 : Nat → FieldType) (hty : ∀ k, k < N → parseFieldDescriptor (T k).2.2.1 = some (ty0 k)) (hnm : ∀ a, a < N → ∀ b, b < N → a ≠ b → (T a).2.1 ≠ (T b).2.1) (ho : E.2.2.2.2.2.1[k]? = some (ci + 3, 0)) (hc : vwCl[ci]? = some (Cn, T, N)) (hf : f < N) (hl : Cond.fieldLink own index ref (T f).2.1 (T f).2.2.1 ∈ TB) (hr : ref = (T f).1) (hfin : (T f).2.2.2 = false) (hpd : parseFieldDescriptor (T f).2.2.1 = some ty) (hnn : narrow ty v = v) (hfit : fits ty v = true) (hlen : f < (yF E.2.2.2.2.1 w k ci).length)
    (hw : (yF E.2.2.2.2.1 w k ci).set f v = yF E.2.2.2.2.1 w' k ci) (hoth : ∀ j, j ≠ k → ∀ u, yC E w j u = yC E w' j u) (hd : decode cc pc = .ok (.putfield index, 3)) (hn : pc + 3 = n)
    (kk : YO g E nL QQ o w' n ls st) : YO g E nL QQ o w pc ls (v :: .ref (E.2.2.2.2.1 + k) :: st) := by
  subst hn; subst hr
  refine fun r hr H locs la hP hS hl' => va_put C.1 C.2.1 C.2.2.2.2.1 hin ty0 hty hnm C.2.2.2.1 C.2.2.2.2.2.1.1 hP (yW_D E w) hS k (yW_get ho) hc f hf (C.2.2.2.2.1 _ hl) (fun _ h => h) hfin hpd hnn hfit hlen hd (fun H1 locs1 hP1 hD1 hS1 => ?_)
  rw [hw] at hP1
  have hP1 : va_P E.1 vwCl (yW E w') H1 := yW_set (w' := w') ho (rfl : _ = yC E w' k (ci + 3, 0)) hoth ▸ hP1
  exact kk r hr H1 locs1 la hP1 hS1 hl'
theorem y_putN (C : CC g E cc nL own nf nl) {k ci f N index : Nat} {Cn ref host : String} {T : u_T} {ty : FieldType} {v : Value} (hin : ∀ c ∈ u_ws Cn T N, c ∈ TB) (ty0 : Nat → FieldType) (hty : ∀ k, k < N → parseFieldDescriptor (T k).2.2.1 = some (ty0 k)) (hnm : ∀ a, a < N → ∀ b, b < N → a ≠ b → (T a).2.1 ≠ (T b).2.1) (ho : E.2.2.2.2.2.1[k]? = some (ci + 3, 0)) (hc : vwCl[ci]? = some (Cn, T, N)) (hf : f < N) (hl : Cond.fieldLinkNest own index ref (T f).2.1 (T f).2.2.1 host ∈ NWs) (hr : ref = (T f).1) (hfin : (T f).2.2.2 = false) (hpd : parseFieldDescriptor (T f).2.2.1 = some ty) (hnn : narrow ty v = v) (hfit : fits ty v = true) (hlen : f < (yF E.2.2.2.2.1 w k ci).length)
    (hw : (yF E.2.2.2.2.1 w k ci).set f v = yF E.2.2.2.2.1 w' k ci) (hoth : ∀ j, j ≠ k → ∀ u, yC E w j u = yC E w' j u) (hd : decode cc pc = .ok (.putfield index, 3)) (hn : pc + 3 = n)
    (kk : YO g E nL QQ o w' n ls st) : YO g E nL QQ o w pc ls (v :: .ref (E.2.2.2.2.1 + k) :: st) := by
  subst hn; subst hr
  refine fun r hr H locs la hP hS hl' => va_putN C.1 C.2.1 C.2.2.2.2.1 hin ty0 hty hnm C.2.2.2.1 C.2.2.2.2.2.1.1 hP (yW_D E w) hS k (yW_get ho) hc f hf (va_Nw.use rfl (C.2.2.2.2.2.1.2 _ hl)) (fun _ h => h) hfin hpd hnn hfit hlen hd (fun H1 locs1 hP1 hD1 hS1 => ?_)
  rw [hw] at hP1
  have hP1 : va_P E.1 vwCl (yW E w') H1 := yW_set (w' := w') ho (rfl : _ = yC E w' k (ci + 3, 0)) hoth ▸ hP1
  exact kk r hr H1 locs1 la hP1 hS1 hl'
theorem y_alen (C : CC g E cc nL own nf nl) {k q : Nat} (hk : E.2.2.2.2.2.1[k]? = some (0, q)) (hd : decode cc pc = .ok (.arraylength, 1)) (hn : pc + 1 = n) (kk : YO g E nL QQ o w n ls (.int (nI q) :: st)) : YO g E nL QQ o w pc ls (.ref (E.2.2.2.2.1 + k) :: st) := by
  subst hn
  exact fun r hr H locs la hP hS hl' => va_alen C.1 C.2.1 C.2.2.2.2.2.1.1 hP k 0 (yW_get hk) rfl rfl hd (kk r hr H locs la hP hS hl')
theorem y_alenC (C : CC g E cc nL own nf nl) {k q : Nat} (hk : E.2.2.2.2.2.1[k]? = some (1, q)) (hd : decode cc pc = .ok (.arraylength, 1)) (hn : pc + 1 = n) (kk : YO g E nL QQ o w n ls (.int (nI q) :: st)) : YO g E nL QQ o w pc ls (.ref (E.2.2.2.2.1 + k) :: st) := by
  subst hn
  exact fun r hr H locs la hP hS hl' => va_alen C.1 C.2.1 C.2.2.2.2.2.1.1 hP k 1 (yW_get hk) rfl rfl hd (kk r hr H locs la hP hS hl')
theorem y_alenR (C : CC g E cc nL own nf nl) {k q : Nat} (hk : E.2.2.2.2.2.1[k]? = some (2, q)) (hd : decode cc pc = .ok (.arraylength, 1)) (hn : pc + 1 = n) (kk : YO g E nL QQ o w n ls (.int (nI q) :: st)) : YO g E nL QQ o w pc ls (.ref (E.2.2.2.2.1 + k) :: st) := by
  subst hn
  exact fun r hr H locs la hP hS hl' => va_alen C.1 C.2.1 C.2.2.2.2.2.1.1 hP k 2 (yW_get hk) rfl rfl hd (kk r hr H locs la hP hS hl')
theorem y_iald (C : CC g E cc nL own nf nl) {k q : Nat} {i : Int32} {K : Int32 → Option ρ} (hk : E.2.2.2.2.2.1[k]? = some (0, q)) (hd : decode cc pc = .ok (.iaload, 1)) (hn : pc + 1 = n) (kk : ∀ x, ldI q w k i = some x → YO g E nL QQ (K x) w n ls (.int x :: st)) : YO g E nL QQ ((ldI q w k i).bind K) w pc ls (.int i :: .ref (E.2.2.2.2.1 + k) :: st) := by
  subst hn
  by_cases h : i < 0 ∨ q ≤ i.toNatClampNeg
  · rw [ldI, if_pos h]; exact y_no
  · have e : ldI q w k i = some (w.1 k i.toNatClampNeg) := by rw [ldI, if_neg h]
    rw [e]
    exact fun r hr H locs la hP hS hl' => va_iald C.1 C.2.1 C.2.2.2.2.2.1.1 hP k 0 (yW_get hk) rfl h hd (kk _ e r hr H locs la hP hS hl')
theorem y_cald (C : CC g E cc nL own nf nl) {k q : Nat} {i : Int32} {K : Int32 → Option ρ} (hk : E.2.2.2.2.2.1[k]? = some (1, q)) (hd : decode cc pc = .ok (.caload, 1)) (hn : pc + 1 = n) (kk : ∀ x, ldI q w k i = some x → YO g E nL QQ (K x) w n ls (.int x :: st)) : YO g E nL QQ ((ldI q w k i).bind K) w pc ls (.int i :: .ref (E.2.2.2.2.1 + k) :: st) := by
  subst hn
  by_cases h : i < 0 ∨ q ≤ i.toNatClampNeg
  · rw [ldI, if_pos h]; exact y_no
  · have e : ldI q w k i = some (w.1 k i.toNatClampNeg) := by rw [ldI, if_neg h]
    rw [e]
    exact fun r hr H locs la hP hS hl' => va_cald C.1 C.2.1 C.2.2.2.2.2.1.1 hP k 1 (yW_get hk) rfl h hd (kk _ e r hr H locs la hP hS hl')
theorem y_aald (C : CC g E cc nL own nf nl) {k q : Nat} {i : Int32} {K : Nat → Option ρ} (hk : E.2.2.2.2.2.1[k]? = some (2, q)) (hd : decode cc pc = .ok (.aaload, 1)) (hn : pc + 1 = n) (kk : ∀ x, ldR q w k i = some x → YO g E nL QQ (K x) w n ls (.ref (E.2.2.2.2.1 + x) :: st)) : YO g E nL QQ ((ldR q w k i).bind K) w pc ls (.int i :: .ref (E.2.2.2.2.1 + k) :: st) := by
  subst hn
  by_cases h : i < 0 ∨ q ≤ i.toNatClampNeg
  · rw [ldR, if_pos h]; exact y_no
  · have e : ldR q w k i = some (w.2.2 k i.toNatClampNeg) := by rw [ldR, if_neg h]
    rw [e]
    exact fun r hr H locs la hP hS hl' => va_aldq C.1 C.2.1 C.2.2.2.2.2.1.1 hP k 2 (yW_get hk) rfl h hd (kk _ e r hr H locs la hP hS hl')
theorem y_iast (C : CC g E cc nL own nf nl) {k q : Nat} {i x : Int32} {K : Wd → Option ρ} (hk : E.2.2.2.2.2.1[k]? = some (0, q)) (hd : decode cc pc = .ok (.iastore, 1)) (hn : pc + 1 = n) (kk : ∀ w', stI q w k i x = some w' → YO g E nL QQ (K w') w' n ls st) : YO g E nL QQ ((stI q w k i x).bind K) w pc ls (.int x :: .int i :: .ref (E.2.2.2.2.1 + k) :: st) := by
  subst hn
  by_cases h : i < 0 ∨ q ≤ i.toNatClampNeg
  · rw [stI, if_pos h]; exact y_no
  · have e : stI q w k i x = some (sI w k i.toNatClampNeg x) := by rw [stI, if_neg h]
    rw [e]
    refine fun r hr H locs la hP hS hl' => va_iast C.1 C.2.1 C.2.2.2.2.2.1.1 hP (yW_D E w) hS k 0 (yW_get hk) rfl h hd (fun H1 locs1 hP1 hD1 hS1 => ?_)
    rw [yW_set (w' := sI w k i.toNatClampNeg x) hk (by simp [yC, sI]) yC_sI] at hP1
    exact kk _ e r hr H1 locs1 la hP1 hS1 hl'
theorem y_cast (C : CC g E cc nL own nf nl) {k q : Nat} {i x : Int32} {K : Wd → Option ρ} (hk : E.2.2.2.2.2.1[k]? = some (1, q)) (hd : decode cc pc = .ok (.castore, 1)) (hn : pc + 1 = n) (kk : ∀ w', stC q w k i x = some w' → YO g E nL QQ (K w') w' n ls st) : YO g E nL QQ ((stC q w k i x).bind K) w pc ls (.int x :: .int i :: .ref (E.2.2.2.2.1 + k) :: st) := by
  subst hn
  by_cases h : i < 0 ∨ q ≤ i.toNatClampNeg
  · rw [stC, if_pos h]; exact y_no
  · have e : stC q w k i x = some (sI w k i.toNatClampNeg (vp_nar .char x)) := by rw [stC, if_neg h]
    rw [e]
    refine fun r hr H locs la hP hS hl' => va_cast C.1 C.2.1 C.2.2.2.2.2.1.1 hP (yW_D E w) hS k 1 (yW_get hk) rfl h hd (fun H1 locs1 hP1 hD1 hS1 => ?_)
    rw [yW_set (w' := sI w k i.toNatClampNeg (vp_nar .char x)) hk (by simp [yC, sI]) yC_sI] at hP1
    exact kk _ e r hr H1 locs1 la hP1 hS1 hl'
theorem y_aast (C : CC g E cc nL own nf nl) {k q x : Nat} {i : Int32} {K : Wd → Option ρ} (hk : E.2.2.2.2.2.1[k]? = some (2, q)) (hx : E.2.2.2.2.2.1[x]? = some (3 + 3, 0)) (hd : decode cc pc = .ok (.aastore, 1)) (hn : pc + 1 = n) (kk : ∀ w', stR q w k i x = some w' → YO g E nL QQ (K w') w' n ls st) : YO g E nL QQ ((stR q w k i x).bind K) w pc ls (.ref (E.2.2.2.2.1 + x) :: .int i :: .ref (E.2.2.2.2.1 + k) :: st) := by
  subst hn
  by_cases h : i < 0 ∨ q ≤ i.toNatClampNeg
  · rw [stR, if_pos h]; exact y_no
  · have e : stR q w k i x = some (sR w k i.toNatClampNeg x) := by rw [stR, if_neg h]
    rw [e]
    refine fun r hr H locs la hP hS hl' => va_astq C.1 C.2.1 C.2.2.2.2.2.1.1 hP (yW_D E w) hS k 2 x 3 (yW_get hk) rfl (yW_get hx) rfl h hd (fun H1 locs1 hP1 hD1 hS1 => ?_)
    rw [yW_set (w' := sR w k i.toNatClampNeg x) hk (by
      have hfun : va_up (fun j => some (E.2.2.2.2.1 + w.2.2 k j)) i.toNatClampNeg (some (E.2.2.2.2.1 + x)) = fun j => some (E.2.2.2.2.1 + va_up (w.2.2 k) i.toNatClampNeg x j) := by
        funext j
        simp only [va_up]
        split <;> rfl
      simp only [yC, sR, if_true]
      rw [hfun]) yC_sR] at hP1
    exact kk _ e r hr H1 locs1 la hP1 hS1 hl'
end YM
