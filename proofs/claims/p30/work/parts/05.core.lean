/-! THE WORLD: ids in the order of making; address = base + id -/
abbrev Wd : Type := (Nat → Nat → Int32) × (Nat → Int64) × (Nat → Nat → Nat)
abbrev Ly : Type := List (Nat × Nat)
abbrev Ex : Type := va_G × ClassId × ClassId × ClassId × Nat × Ly × (Nat → Nat) × (Nat → Int32)
def bz (x : Int32) : Int32 := if x = 0 then 0 else 1
def sI (w : Wd) (k j : Nat) (x : Int32) : Wd := (fun a => if a = k then upd (w.1 k) j x else w.1 a, w.2)
def sA (w : Wd) (k : Nat) (f : Nat → Int32) : Wd := (fun a => if a = k then f else w.1 a, w.2)
def sL (w : Wd) (k : Nat) (x : Int64) : Wd := (w.1, fun a => if a = k then x else w.2.1 a, w.2.2)
def sR (w : Wd) (k j : Nat) (x : Nat) : Wd := (w.1, w.2.1, fun a => if a = k then va_up (w.2.2 k) j x else w.2.2 a)
def yF (B : Nat) (w : Wd) (k ci : Nat) : List Value := match ci with
  | 0 => [.ref (B + (k + 1)), .int (w.1 k 1)]
  | 1 => [.ref (B + (k + 1)), .ref (B + (k + 2)), .ref (B + (k + 3)), .ref (B + (k + 4)), .ref (B + (k + 5)), .long (w.2.1 k), .int (w.1 k 6)]
  | 2 => [.int (bz (w.1 k 0)), .int (w.1 k 1), .int (bz (w.1 k 2)), .int (w.1 k 3), .int (w.1 k 4), .int (w.1 k 5), .int (w.1 k 6), .ref (B + (k + 1)), .ref (B + (k + 2)), .ref (B + (k + 3)), .ref (B + (k + 4)), .ref (B + (k + 5)), .ref (B + (k + 6)), .ref (B + (k + 7)), .ref (B + (k + 8)), .int (w.1 k 15)]
  | 3 => [.ref (B + (k + 1)), .ref (B + (k + 7)), .int (w.1 k 2), .int (w.1 k 3)]
  | 4 => [.ref (B + (k + 1)), .int (w.1 k 1), .int (w.1 k 2), .ref (B + (k + 2))]
  | 5 => [.ref (B + (k + 1)), .ref (B + (k + 17)), .ref (B + (k + 83)), .int (bz (w.1 k 3)), .ref (B + (k + 99)), .ref (B + (k + 102))]
  | 6 => [.ref (B + (k + 1)), .ref (B + (k + 2)), .ref (B + (k + 3)), .ref (B + (k + 4)), .ref (B + (k + 5)), .int (w.1 k 5), .int (bz (w.1 k 6)), .ref (B + (k + 6)), .int (w.1 k 8), .int (w.1 k 9), .int (bz (w.1 k 10)), .ref (B + (k + 7))]
  | _ => []
def yC (E : Ex) (w : Wd) (k : Nat) (t : Nat × Nat) : va_E := match t.1 with
  | 0 => .inl (E.2.1, t.2, .inl (w.1 k))
  | 1 => .inl (E.2.2.1, t.2, .inl (w.1 k))
  | 2 => .inl (E.2.2.2.1, t.2, .inr (.inr (.inr (.inr (fun j => some (E.2.2.2.2.1 + w.2.2 k j))))))
  | n + 3 => .inr (n, yF E.2.2.2.2.1 w k n)
def yW (E : Ex) (w : Wd) : va_W := (List.range E.2.2.2.2.2.1.length).map (fun k => (E.2.2.2.2.1 + k, yC E w k (E.2.2.2.2.2.1.getD k (0, 0))))
def yA (E : Ex) : Nat → Prop := fun q => E.2.2.2.2.1 ≤ q
theorem yW_get {E : Ex} {w : Wd} {k : Nat} {t : Nat × Nat} (h : E.2.2.2.2.2.1[k]? = some t) : (yW E w)[k]? = some (E.2.2.2.2.1 + k, yC E w k t) := by
  have hk : k < E.2.2.2.2.2.1.length := (List.getElem?_eq_some_iff.mp h).1
  unfold yW
  rw [List.getElem?_map, List.getElem?_range hk]
  simp [h]
theorem yW_of {E : Ex} {w : Wd} {k : Nat} {q : Nat × va_E} (h : (yW E w)[k]? = some q) : ∃ t, E.2.2.2.2.2.1[k]? = some t ∧ q = (E.2.2.2.2.1 + k, yC E w k t) := by
  have hk : k < (yW E w).length := (List.getElem?_eq_some_iff.mp h).1
  have hk2 : k < E.2.2.2.2.2.1.length := by simpa [yW] using hk
  have h2 : E.2.2.2.2.2.1[k]? = some E.2.2.2.2.2.1[k] := List.getElem?_eq_getElem hk2
  refine ⟨_, h2, ?_⟩
  have := yW_get (w := w) h2
  rw [h] at this
  exact Option.some.inj this
theorem yW_D (E : Ex) (w : Wd) : va_D (yA E) (yW E w) := by
  refine ⟨fun i j p q hi hj hpq => ?_, fun k q hk => ?_⟩
  · obtain ⟨t, -, rfl⟩ := yW_of hi
    obtain ⟨t', -, rfl⟩ := yW_of hj
    exact Nat.add_left_cancel hpq
  · obtain ⟨t, -, rfl⟩ := yW_of hk
    exact Nat.le_add_right _ _
/-- one cell is written: the world behind -/
theorem yW_set {E : Ex} {w w' : Wd} {k : Nat} {t : Nat × Nat} {e : va_E} (h : E.2.2.2.2.2.1[k]? = some t) (he : e = yC E w' k t) (ho : ∀ j, j ≠ k → ∀ u, yC E w j u = yC E w' j u) : (yW E w).set k (E.2.2.2.2.1 + k, e) = yW E w' := by
  subst he
  apply List.ext_getElem?
  intro j
  by_cases hj : j = k
  · subst hj
    rw [yW_get (w := w') h, List.getElem?_set_self (List.getElem?_eq_some_iff.mp (yW_get (w := w) h)).1]
  · rw [List.getElem?_set_ne (Ne.symm hj)]
    cases hu : E.2.2.2.2.2.1[j]? with
    | some u => rw [yW_get (w := w) hu, yW_get (w := w') hu, ho j hj u]
    | none =>
      have hl : E.2.2.2.2.2.1.length ≤ j := by simpa using hu
      rw [List.getElem?_eq_none (by simpa [yW] using hl), List.getElem?_eq_none (by simpa [yW] using hl)]
theorem yC_cong {E : Ex} {w w' : Wd} {k : Nat} (h1 : w.1 k = w'.1 k) (h2 : w.2.1 k = w'.2.1 k) (h3 : w.2.2 k = w'.2.2 k) (u : Nat × Nat) : yC E w k u = yC E w' k u := by
  unfold yC yF
  rw [h1, h2, h3]
theorem yC_sI {E : Ex} {w : Wd} {k j : Nat} {x : Int32} : ∀ i, i ≠ k → ∀ u, yC E w i u = yC E (sI w k j x) i u := fun i hi u => yC_cong (w := w) (w' := sI w k j x) (by simp [sI, hi]) rfl rfl u
theorem yC_sA {E : Ex} {w : Wd} {k : Nat} {f : Nat → Int32} : ∀ i, i ≠ k → ∀ u, yC E w i u = yC E (sA w k f) i u := fun i hi u => yC_cong (w := w) (w' := sA w k f) (by simp [sA, hi]) rfl rfl u
theorem yC_sL {E : Ex} {w : Wd} {k : Nat} {x : Int64} : ∀ i, i ≠ k → ∀ u, yC E w i u = yC E (sL w k x) i u := fun i hi u => yC_cong (w := w) (w' := sL w k x) rfl (by simp [sL, hi]) rfl u
theorem yC_sR {E : Ex} {w : Wd} {k j x : Nat} : ∀ i, i ≠ k → ∀ u, yC E w i u = yC E (sR w k j x) i u := fun i hi u => yC_cong (w := w) (w' := sR w k j x) rfl rfl (by simp [sR, hi]) u
/-! THE WORDS -/
def TB : List Cond := lw_tbl.filter goodWord
def isNest (w : Cond) : Bool := match w with
  | .fieldLinkNest .. => true
  | .methodLinkNest .. => true
  | _ => false
def NWs : List Cond := tables_1.filter isNest
theorem TB_good : GoodIn TB TB := fun w h => ⟨h, good_of_word (List.mem_filter.mp h).2⟩
abbrev yws (y : MethodName) (cc : ByteArray) (maxL : Nat) (rt : Option FieldType) : List Cond := Cond.code y cc maxL rt :: TB
theorem yws_good {y : MethodName} {cc : ByteArray} {maxL : Nat} {rt : Option FieldType} (h : Cond.code y cc maxL rt ∈ TB) : GoodIn TB (yws y cc maxL rt) := fun w hw => by
  rcases List.mem_cons.mp hw with rfl | hw
  · exact TB_good _ h
  · exact TB_good _ hw
theorem TB_m {w : Cond} (i : Nat) (h : tables_1[i]? = some w) (hg : goodWord w = true) : w ∈ TB := List.mem_filter.mpr ⟨List.mem_append_right _ (List.mem_of_getElem? h), hg⟩
theorem TB_s {q : MethodName × Nat} (i : Nat) (h : lw_privs[i]? = some q) (hg : goodWord (Cond.selects q.1.cls q.1 q.1) = true) : Cond.selects q.1.cls q.1 q.1 ∈ TB := List.mem_filter.mpr ⟨List.mem_append_left _ (List.mem_map.mpr ⟨q, List.mem_of_getElem? h, rfl⟩), hg⟩
/-! THE CONTEXT -/
abbrev yTys (E : Ex) : List (ClassId × FieldType) := [(E.2.1, .int), (E.2.2.1, .char), (E.2.2.2.1, .object RX3)]
def yKK (E : Ex) (U : State) : Prop := va_K E.1 vwCl (yTys E) U ∧ ∀ w ∈ NWs, va_Nw w U
theorem NWs_on {w : Cond} (h : w ∈ NWs) : w.onTables = true := by
  have := (List.mem_filter.mp h).2
  cases w <;> first | rfl | cases this
theorem yKK.same {E : Ex} {u U : State} (h : yKK E u) (hv : u.vm = U.vm) : yKK E U :=
  ⟨va_K.moved (by rw [hv]; exact Vm.Alike.refl _) h.1, fun w hw => va_Nw.same (NWs_on hw) hv (h.2 w hw)⟩
theorem yKK.warm {E : Ex} {s U : State} (h : yKK E s) (hW : s.WarmedH U.vm) : yKK E U :=
  ⟨va_K.moved hW.alike h.1, fun w hw => by
    have h1 := (List.mem_filter.mp hw).2
    have h2 := h.2 w hw
    cases w <;> first | exact va_Nw.warmF hW h2 | exact va_Nw.warmM hW h2 | cases h1⟩
/-! THE SCRIPT: its cell, its length, its ints -/
def yST (E : Ex) (U : State) (H : Heap) : Prop := va_X (E.2.2.2.2.2.2.1 0) (E.2.2.2.2.2.2.1 1) E.2.2.2.2.2.2.2 U H ∧ E.2.2.2.2.2.2.1 0 < H.size ∧ E.2.2.2.2.2.2.1 0 < E.2.2.2.2.1
theorem yST.same {E : Ex} {u U : State} {H : Heap} (h : yST E u H) (hv : u.vm = U.vm) : yST E U H :=
  have ha : u.vm.Alike U.vm := by rw [hv]; exact Vm.Alike.refl _
  ⟨va_X.moved ha h.1, h.2⟩
theorem yST.warm {E : Ex} {s U : State} {H : Heap} (h : yST E s H) (hW : s.WarmedH U.vm) : yST E U H :=
  ⟨va_X.moved hW.alike h.1, h.2⟩
theorem yST.kept {E : Ex} {U : State} {H H1 : Heap} (h : yST E U H) (hq : ∀ a : Nat, a < H.size → ¬ yA E a → H1[a]? = H[a]?) : yST E U H1 := by
  obtain ⟨h1, h2, h3⟩ := h
  have hk : H1[E.2.2.2.2.2.2.1 0]? = H[E.2.2.2.2.2.2.1 0]? := hq _ h2 (fun z => by
    have z : E.2.2.2.2.1 ≤ E.2.2.2.2.2.2.1 0 := z
    omega)
  refine ⟨va_X.kept h1 hk, ?_, h3⟩
  rw [Array.getElem?_eq_getElem h2] at hk
  exact (Array.getElem?_eq_some_iff.mp hk).1
abbrev Gx : Type := Program × Launch × Env × Room × State × MethodId × Array Value × List Frame × Method × Code × Nat × Nat
def CC (g : Gx) (E : Ex) (cc : ByteArray) (nL : Nat) (own : String) (nf nl : Nat) : Prop :=
  g.1.tables.exec = Jvm.exec ∧ g.2.2.2.2.2.2.2.2.2.1.code = cc ∧ g.2.2.2.2.2.2.2.2.2.1.maxLocals = nL ∧ g.2.2.2.2.1.vm.findClass own = some g.2.2.2.2.2.1.cls ∧ (∀ w ∈ TB, w.before g.2.2.2.2.2.2.1 g.2.2.2.2.1 = true) ∧ yKK E g.2.2.2.2.1 ∧ g.2.2.2.2.2.2.2.2.1.locks = false ∧ nf ≤ g.2.2.2.1.frames ∧ nl ≤ g.2.2.2.1.locals ∧ yST E g.2.2.2.2.1 g.2.2.2.2.1.heap ∧ (g.2.2.2.2.2.2.2.2.2.2.1 ≤ g.2.2.2.1.cells ∧ g.2.2.2.2.2.2.2.2.2.2.2 ≤ g.2.2.2.1.slots)
def YW (g : Gx) (H : Heap) (locs : List Loc) (Q : State → Prop) (f : JFrame) : Prop := W g.1 g.2.1 g.2.2.1 g.2.2.2.1 g.2.2.2.2.1 g.2.2.2.2.2.1 g.2.2.2.2.2.2.1 g.2.2.2.2.2.2.2.1 g.2.2.2.2.2.2.2.2.1 g.2.2.2.2.2.2.2.2.2.1 H locs g.2.2.2.2.2.2.2.2.2.2.1 g.2.2.2.2.2.2.2.2.2.2.2 Q f
def YO {ρ : Type} (g : Gx) (E : Ex) (nL : Nat) (QQ : ρ → State → Prop) (o : Option ρ) (w : Wd) (pc : Nat) (ls : List (Nat × Value)) (st : List Value) : Prop :=
  ∀ r, o = some r → ∀ (H : Heap) (locs : List Loc) (la : Array Slot), va_P E.1 vwCl (yW E w) H → va_S (yA E) g.2.2.2.2.1.heap H locs → lv_has la nL ls → YW g H locs (QQ r) (F0 g.2.2.2.2.2.1 pc la st)
