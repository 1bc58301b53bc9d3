/-! BUILDING: a world that grows; cells by id, address = base + id -/
def zu (bf : Nat → va_E) (k : Nat) (e : va_E) : Nat → va_E := fun j => if j = k then e else bf j
theorem zu_s {bf : Nat → va_E} {k : Nat} {e : va_E} : zu bf k e k = e := if_pos rfl
theorem zu_n {bf : Nat → va_E} {k j : Nat} {e : va_E} (h : j ≠ k) : zu bf k e j = bf j := if_neg h
def zW (E : Ex) (bf : Nat → va_E) (n : Nat) : va_W := (List.range n).map (fun j => (E.2.2.2.2.1 + j, bf j))
theorem zW_get {E : Ex} {bf : Nat → va_E} {n j : Nat} (h : j < n) : (zW E bf n)[j]? = some (E.2.2.2.2.1 + j, bf j) := by
  unfold zW
  rw [List.getElem?_map, List.getElem?_range h]
  rfl
theorem zW_of {E : Ex} {bf : Nat → va_E} {n j : Nat} {q : Nat × va_E} (h : (zW E bf n)[j]? = some q) : j < n ∧ q = (E.2.2.2.2.1 + j, bf j) := by
  have hk : j < (zW E bf n).length := (List.getElem?_eq_some_iff.mp h).1
  have hk2 : j < n := by simpa [zW] using hk
  rw [zW_get hk2] at h
  exact ⟨hk2, (Option.some.inj h).symm⟩
theorem zW_D (E : Ex) (bf : Nat → va_E) (n : Nat) : va_D (yA E) (zW E bf n) := by
  refine ⟨fun i j p q hi hj hpq => ?_, fun k q hk => ?_⟩
  · obtain ⟨-, rfl⟩ := zW_of hi
    obtain ⟨-, rfl⟩ := zW_of hj
    exact Nat.add_left_cancel hpq
  · obtain ⟨-, rfl⟩ := zW_of hk
    exact Nat.le_add_right _ _
theorem zW_set {E : Ex} {bf : Nat → va_E} {n k : Nat} {e : va_E} (h : k < n) : (zW E bf n).set k (E.2.2.2.2.1 + k, e) = zW E (zu bf k e) n := by
  apply List.ext_getElem?
  intro j
  by_cases hj : j = k
  · subst hj
    rw [zW_get h, List.getElem?_set_self (List.getElem?_eq_some_iff.mp (zW_get (bf := bf) h)).1, zu_s]
  · rw [List.getElem?_set_ne (Ne.symm hj)]
    by_cases hn : j < n
    · rw [zW_get hn, zW_get hn, zu_n hj]
    · rw [List.getElem?_eq_none (by simpa [zW] using hn), List.getElem?_eq_none (by simpa [zW] using hn)]
theorem zW_push {E : Ex} {bf : Nat → va_E} {n : Nat} {e : va_E} : zW E bf n ++ [(E.2.2.2.2.1 + n, e)] = zW E (zu bf n e) (n + 1) := by
  unfold zW
  rw [List.range_succ, List.map_append]
  congr 1
  · apply List.map_congr_left
    intro j hj
    have : j < n := List.mem_range.mp hj
    rw [zu_n (by omega)]
  · simp [zu]
def zH (E : Ex) (bf : Nat → va_E) (n : Nat) (H : Heap) : Prop := va_P E.1 vwCl (zW E bf n) H ∧ H.size = E.2.2.2.2.1 + n
def zK (E : Ex) (U : State) : Prop := yKK E U ∧ va_AO RX3 U
theorem zK.same {E : Ex} {u U : State} (h : zK E u) (hv : u.vm = U.vm) : zK E U := ⟨h.1.same hv, va_AO.moved (by rw [hv]; exact Vm.Alike.refl _) h.2⟩
theorem zK.warm {E : Ex} {s U : State} (h : zK E s) (hW : s.WarmedH U.vm) : zK E U := ⟨h.1.warm hW, va_AO.moved hW.alike h.2⟩
def zP (E : Ex) (bf : Nat → va_E) (n : Nat) (U : State) : Prop := zH E bf n U.heap ∧ zK E U
def ZC (g : Gx) (E : Ex) (cc : ByteArray) (nL : Nat) (own : String) (nf nl mc ms : Nat) : Prop :=
  (g.1.tables.exec = Jvm.exec ∧ g.2.2.2.2.2.2.2.2.2.1.code = cc ∧ g.2.2.2.2.2.2.2.2.2.1.maxLocals = nL ∧ g.2.2.2.2.1.vm.findClass own = some g.2.2.2.2.2.1.cls ∧ (∀ w ∈ TB, w.before g.2.2.2.2.2.2.1 g.2.2.2.2.1 = true) ∧ zK E g.2.2.2.2.1 ∧ g.2.2.2.2.2.2.2.2.1.locks = false) ∧ (nf ≤ g.2.2.2.1.frames ∧ nl ≤ g.2.2.2.1.locals) ∧ (mc ≤ g.2.2.2.1.cells ∧ ms ≤ g.2.2.2.1.slots) ∧ E.2.2.2.2.1 ≤ g.2.2.2.2.1.heap.size
def ZW (g : Gx) (H : Heap) (locs : List Loc) (cs sl : Nat) (Q : State → Prop) (f : JFrame) : Prop := W g.1 g.2.1 g.2.2.1 g.2.2.2.1 g.2.2.2.2.1 g.2.2.2.2.2.1 g.2.2.2.2.2.2.1 g.2.2.2.2.2.2.2.1 g.2.2.2.2.2.2.2.2.1 g.2.2.2.2.2.2.2.2.2.1 H locs cs sl Q f
def ZO (g : Gx) (E : Ex) (nL cs sl : Nat) (Q : State → Prop) (bf : Nat → va_E) (n : Nat) (pc : Nat) (ls : List (Nat × Value)) (st : List Value) : Prop :=
  ∀ (H : Heap) (locs : List Loc) (la : Array Slot), zH E bf n H → va_S (yA E) g.2.2.2.2.1.heap H locs → lv_has la nL ls → ZW g H locs cs sl Q (F0 g.2.2.2.2.2.1 pc la st)
section ZR
variable {g : Gx} {E : Ex} {cc : ByteArray} {nL nf nl mc ms cs sl : Nat} {own : String} {Q : State → Prop} {bf : Nat → va_E} {n pc m : Nat} {ls ls' : List (Nat × Value)} {st : List Value}
theorem z_aload_n (C : ZC g E cc nL own nf nl mc ms) {k : Fin 4} {x : Nat} (hd : decode cc pc = .ok (.aload_n k, 1)) (q : Nat) (hq : ls[q]? = some ((k : Nat), .ref x)) (hn : pc + 1 = m) (kk : ZO g E nL cs sl Q bf n m ls (.ref x :: st)) : ZO g E nL cs sl Q bf n pc ls st := by
  subst hn
  exact fun H locs la hP hS hl => lv_aload_n C.1.1 C.1.2.1 hd rfl (lv_at hl q hq) (kk H locs la hP hS hl)
theorem z_iload_n (C : ZC g E cc nL own nf nl mc ms) {k : Fin 4} {x : Int32} (hd : decode cc pc = .ok (.iload_n k, 1)) (q : Nat) (hq : ls[q]? = some ((k : Nat), .int x)) (hn : pc + 1 = m) (kk : ZO g E nL cs sl Q bf n m ls (.int x :: st)) : ZO g E nL cs sl Q bf n pc ls st := by
  subst hn
  exact fun H locs la hP hS hl => lv_iload_n C.1.1 C.1.2.1 hd rfl (lv_at hl q hq) (kk H locs la hP hS hl)
theorem z_istore_n (C : ZC g E cc nL own nf nl mc ms) {k : Fin 4} {x : Int32} (hd : decode cc pc = .ok (.istore_n k, 1)) (hi : (k : Nat) < nL) (hq : ((k : Nat), Value.int x) :: ls.filter (fun q => !(q.1 == (k : Nat)) && !(q.1 + 1 == (k : Nat) && q.2.category == 2)) = ls') (hn : pc + 1 = m) (kk : ZO g E nL cs sl Q bf n m ls' st) : ZO g E nL cs sl Q bf n pc ls (.int x :: st) := by
  subst hn
  exact fun H locs la hP hS hl => lv_istore_n C.1.1 C.1.2.1 hd rfl hl hi hq (fun la' hl' => kk H locs la' hP hS hl')
theorem z_iinc (C : ZC g E cc nL own nf nl mc ms) {i : Nat} {d : Int} {x v : Int32} (hd : decode cc pc = .ok (.iinc i d, 3)) (q : Nat) (hk : ls[q]? = some (i, .int x)) (hv : x + Int32.ofInt d = v) (hi : i < nL) (hq : (i, Value.int v) :: ls.filter (fun q => !(q.1 == i) && !(q.1 + 1 == i && q.2.category == 2)) = ls') (hn : pc + 3 = m) (kk : ZO g E nL cs sl Q bf n m ls' st) : ZO g E nL cs sl Q bf n pc ls st := by
  subst hn
  exact fun H locs la hP hS hl => lv_iinc C.1.1 C.1.2.1 hd hl hk hv hi hq (fun la' hl' => kk H locs la' hP hS hl')
theorem z_iconst (C : ZC g E cc nL own nf nl mc ms) {i : Int} (v : Int32) (hd : decode cc pc = .ok (.iconst i, 1)) (hv : Int32.ofInt i = v) (hn : pc + 1 = m) (kk : ZO g E nL cs sl Q bf n m ls (.int v :: st)) : ZO g E nL cs sl Q bf n pc ls st := by
  subst hn
  exact fun H locs la hP hS hl => lv_iconst C.1.1 C.1.2.1 hd hv (kk H locs la hP hS hl)
theorem z_bipush (C : ZC g E cc nL own nf nl mc ms) {i : Int} (v : Int32) (hd : decode cc pc = .ok (.bipush i, 2)) (hv : (Int8.ofInt i).toInt32 = v) (hn : pc + 2 = m) (kk : ZO g E nL cs sl Q bf n m ls (.int v :: st)) : ZO g E nL cs sl Q bf n pc ls st := by
  subst hn
  exact fun H locs la hP hS hl => lv_bipush C.1.1 C.1.2.1 hd hv (kk H locs la hP hS hl)
theorem z_sipush (C : ZC g E cc nL own nf nl mc ms) {i : Int} (v : Int32) (hd : decode cc pc = .ok (.sipush i, 3)) (hv : (Int16.ofInt i).toInt32 = v) (hn : pc + 3 = m) (kk : ZO g E nL cs sl Q bf n m ls (.int v :: st)) : ZO g E nL cs sl Q bf n pc ls st := by
  subst hn
  exact fun H locs la hP hS hl => lv_sipush C.1.1 C.1.2.1 hd hv (kk H locs la hP hS hl)
theorem z_lconst (C : ZC g E cc nL own nf nl mc ms) {i : Fin 2} (v : Int64) (hd : decode cc pc = .ok (.lconst i, 1)) (hv : Int64.ofNat (i : Nat) = v) (hn : pc + 1 = m) (kk : ZO g E nL cs sl Q bf n m ls (.long v :: st)) : ZO g E nL cs sl Q bf n pc ls st := by
  subst hn
  exact fun H locs la hP hS hl => lv_lconst C.1.1 C.1.2.1 hd hv (kk H locs la hP hS hl)
theorem z_dup (C : ZC g E cc nL own nf nl mc ms) {v : Value} (hd : decode cc pc = .ok (.dup, 1)) (hv : v.category = 1) (hn : pc + 1 = m) (kk : ZO g E nL cs sl Q bf n m ls (v :: v :: st)) : ZO g E nL cs sl Q bf n pc ls (v :: st) := by
  subst hn
  exact fun H locs la hP hS hl => lv_dup C.1.1 C.1.2.1 hd hv (kk H locs la hP hS hl)
theorem z_goto (C : ZC g E cc nL own nf nl mc ms) {off : Int} {tgt : Nat} (hd : decode cc pc = .ok (.goto off, 3)) (ht : (pc : Int) + off = (tgt : Int)) (kk : ZO g E nL cs sl Q bf n tgt ls st) : ZO g E nL cs sl Q bf n pc ls st :=
  fun H locs la hP hS hl => lv_goto C.1.1 C.1.2.1 hd ht (kk H locs la hP hS hl)
theorem z_icmp_ge_T (C : ZC g E cc nL own nf nl mc ms) {x y : Int32} {off : Int} {tgt : Nat} (hd : decode cc pc = .ok (.if_icmp .ge off, 3)) (ht : (pc : Int) + off = (tgt : Int)) (h : y ≤ x) (kk : ZO g E nL cs sl Q bf n tgt ls st) : ZO g E nL cs sl Q bf n pc ls (.int y :: .int x :: st) :=
  fun H locs la hP hS hl => lv_icmp_ge C.1.1 C.1.2.1 hd ht (fun _ => kk H locs la hP hS hl) (fun z => absurd h z)
theorem z_icmp_ge_F (C : ZC g E cc nL own nf nl mc ms) {x y : Int32} {off : Int} {tgt : Nat} (hd : decode cc pc = .ok (.if_icmp .ge off, 3)) (ht : (pc : Int) + off = (tgt : Int)) (hn : pc + 3 = m) (h : ¬ y ≤ x) (kk : ZO g E nL cs sl Q bf n m ls st) : ZO g E nL cs sl Q bf n pc ls (.int y :: .int x :: st) := by
  subst hn
  exact fun H locs la hP hS hl => lv_icmp_ge C.1.1 C.1.2.1 hd ht (fun z => absurd z h) (fun _ => kk H locs la hP hS hl)
theorem z_obj (C : ZC g E cc nL own nf nl mc ms) {idx x : Nat} (hl : Cond.methodLink own idx objectInit ∈ TB) (hi : Cond.instanceMethod objectInit ∈ TB) (hc : Cond.code objectInit ⟨#[0xb1]⟩ 1 none ∈ TB) (hf : 1 ≤ nf) (hlo : (st.map fun v => v.category).sum + 12 ≤ nl) (hd : decode cc pc = .ok (.invokespecial idx, 3)) (hn : pc + 3 = m) (kk : ZO g E nL cs sl Q bf n m ls st) : ZO g E nL cs sl Q bf n pc ls (.ref x :: st) := by
  subst hn
  have ht := C.1.2.2.2.2.1
  exact fun H locs la hP hS hla => W.objInit C.1.1 C.1.2.1 C.1.2.2.2.1 (ht _ hl) (ht _ hi) (ht _ hc) rfl (hla.1.trans C.1.2.2.1.symm) rfl hd (Nat.le_trans hf C.2.1.1) (Nat.le_trans (by show 2 * 0 + _ + 12 ≤ _; omega) C.2.1.2) (kk H locs la hP hS hla)
theorem z_kept {H H1 : Heap} {e : va_E} (hP : zH E bf n H) (e1 : va_at E.1 vwCl (E.2.2.2.2.1 + n, e) H1) (z1 : H1.size = H.size + 1) (o1 : ∀ q, q < H.size → H1[q]? = H[q]?) : zH E (zu bf n e) (n + 1) H1 := by
  refine ⟨?_, by rw [z1, hP.2]; omega⟩
  rw [← zW_push]
  refine (hP.1.kept fun k x hx => o1 x.1 ((hP.1 k x hx).lt)).app (fun k x hx => ?_)
  have hz : k < 1 := (List.getElem?_eq_some_iff.mp hx).1
  rw [show k = 0 by omega] at hx
  cases hx
  exact e1
theorem z_grown {H H1 : Heap} {locs : List Loc} {H0 : Heap} (hS : va_S (yA E) H0 H locs) (z1 : H1.size = H.size + 1) (o1 : ∀ q, q < H.size → H1[q]? = H[q]?) : va_S (yA E) H0 H1 locs :=
  ⟨Nat.le_trans hS.1 (by omega), fun x h1 h2 => (o1 x (Nat.lt_of_lt_of_le h1 hS.1)).trans (hS.2.1 x h1 h2), hS.2.2⟩
theorem z_new (C : ZC g E cc nL own nf nl mc ms) {ci N index n2 : Nat} {Cn : String} {T : u_T} {fs : List Value} (hin : ∀ c ∈ u_ws Cn T N, c ∈ TB) (ty0 : Nat → FieldType) (hty : ∀ k, k < N → parseFieldDescriptor (T k).2.2.1 = some (ty0 k)) (hc : vwCl[ci]? = some (Cn, T, N)) (hfs : ∀ j, j < N → defaultValue (ty0 j) = vp_V fs j) (hcl : Cond.classLink own index Cn ∈ TB) (hins : Cond.instantiable Cn N ∈ TB) (hini : Cond.initialized Cn ∈ TB) (hcs : cs + 1 ≤ mc) (hsl : sl + N ≤ ms) (hd : decode cc pc = .ok (.new index, 3)) (hn : pc + 3 = m) (hn2 : n + 1 = n2)
    (kk : ∀ b', b' = zu bf n (.inr (ci, fs)) → ZO g E nL (cs + 1) (sl + N) Q b' n2 m ls (.ref (E.2.2.2.2.1 + n) :: st)) : ZO g E nL cs sl Q bf n pc ls st := by
  subst hn2; subst hn
  have ht := C.1.2.2.2.2.1
  intro H locs la hP hS hla
  have hKn := C.1.2.2.2.2.2.1.1.1.1 ci _ hc
  refine W.newcK C.1.1 C.1.2.1 C.1.2.2.2.1 (ht _ hcl) (ht _ hins) (ht _ hini) rfl hd (Nat.le_trans hcs C.2.2.1.1) (Nat.le_trans hsl C.2.2.1.2) hKn.2.1 hP.2 fun H1 kC hkC e1 z1 o1 => ?_
  have o1' : ∀ q, q < H.size → H1[q]? = H[q]? := fun q hq => o1 q (by rw [← hP.2]; exact hq)
  have z1' : H1.size = H.size + 1 := by rw [z1, hP.2]
  exact kk _ rfl H1 locs la (z_kept hP ⟨_, hc, (u_born ty0 ht hin hKn hkC e1 hty).to hfs⟩ z1' o1') (z_grown hS z1' o1') hla
theorem z_newI (C : ZC g E cc nL own nf nl mc ms) {N' n2 : Nat} {x : Int32} (hcl : Cond.arrayClass .int ∈ TB) (hx : ¬ x < 0) (hN : x.toNatClampNeg = N') (hby : N' * 4 ≤ 536870912) (hcs : cs + 1 ≤ mc) (hsl : sl + N' ≤ ms) (hd : decode cc pc = .ok (.newarray .int, 2)) (hn : pc + 2 = m) (hn2 : n + 1 = n2)
    (kk : ∀ b', b' = zu bf n (.inl (E.2.1, N', .inl (fun _ => 0))) → ZO g E nL (cs + 1) (sl + N') Q b' n2 m ls (.ref (E.2.2.2.2.1 + n) :: st)) : ZO g E nL cs sl Q bf n pc ls (.int x :: st) := by
  subst hn2; subst hn
  have ht := C.1.2.2.2.2.1
  intro H locs la hP hS hla
  refine va_newaK C.1.1 C.1.2.1 (atype := .int) (ht _ hcl) rfl hd rfl hx hN hby (Nat.le_trans hcs C.2.2.1.1) (Nat.le_trans hsl C.2.2.1.2) hP.2 fun H1 cA e1 z1 o1 hAr hNm => ?_
  have o1' : ∀ q, q < H.size → H1[q]? = H[q]? := fun q hq => o1 q (by rw [← hP.2]; exact hq)
  have z1' : H1.size = H.size + 1 := by rw [z1, hP.2]
  have hcA : E.2.1 = cA := Option.some.inj ((C.1.2.2.2.2.2.1.1.1.2 0 _ rfl).2.symm.trans hNm)
  subst hcA
  exact kk _ rfl H1 locs la (z_kept hP e1 z1' o1') (z_grown hS z1' o1') hla
theorem z_newC (C : ZC g E cc nL own nf nl mc ms) {N' n2 : Nat} {x : Int32} (hcl : Cond.arrayClass .char ∈ TB) (hx : ¬ x < 0) (hN : x.toNatClampNeg = N') (hby : N' * 2 ≤ 536870912) (hcs : cs + 1 ≤ mc) (hsl : sl + N' ≤ ms) (hd : decode cc pc = .ok (.newarray .char, 2)) (hn : pc + 2 = m) (hn2 : n + 1 = n2)
    (kk : ∀ b', b' = zu bf n (.inl (E.2.2.1, N', .inl (fun _ => 0))) → ZO g E nL (cs + 1) (sl + N') Q b' n2 m ls (.ref (E.2.2.2.2.1 + n) :: st)) : ZO g E nL cs sl Q bf n pc ls (.int x :: st) := by
  subst hn2; subst hn
  have ht := C.1.2.2.2.2.1
  intro H locs la hP hS hla
  refine va_newaK C.1.1 C.1.2.1 (atype := .char) (ht _ hcl) rfl hd rfl hx hN hby (Nat.le_trans hcs C.2.2.1.1) (Nat.le_trans hsl C.2.2.1.2) hP.2 fun H1 cA e1 z1 o1 hAr hNm => ?_
  have o1' : ∀ q, q < H.size → H1[q]? = H[q]? := fun q hq => o1 q (by rw [← hP.2]; exact hq)
  have z1' : H1.size = H.size + 1 := by rw [z1, hP.2]
  have hcA : E.2.2.1 = cA := Option.some.inj ((C.1.2.2.2.2.2.1.1.1.2 1 _ rfl).2.symm.trans hNm)
  subst hcA
  exact kk _ rfl H1 locs la (z_kept hP e1 z1' o1') (z_grown hS z1' o1') hla
theorem z_newR (C : ZC g E cc nL own nf nl mc ms) {N' index n2 : Nat} {x : Int32} (hcl : Cond.classLink own index RX3 ∈ TB) (hx : ¬ x < 0) (hN : x.toNatClampNeg = N') (hby : N' * 4 ≤ 536870912) (hcs : cs + 1 ≤ mc) (hsl : sl + N' ≤ ms) (hd : decode cc pc = .ok (.anewarray index, 3)) (hn : pc + 3 = m) (hn2 : n + 1 = n2)
    (kk : ∀ b', b' = zu bf n (.inl (E.2.2.2.1, N', .inr (.inr (.inr (.inr (fun _ => none)))))) → ZO g E nL (cs + 1) (sl + N') Q b' n2 m ls (.ref (E.2.2.2.2.1 + n) :: st)) : ZO g E nL cs sl Q bf n pc ls (.int x :: st) := by
  subst hn2; subst hn; subst hN
  have ht := C.1.2.2.2.2.1
  intro H locs la hP hS hla
  refine W.anew C.1.1 C.1.2.1 C.1.2.2.2.1 (ht _ hcl) (va_AO.use C.1.2.2.2.2.2.1.2) rfl hd rfl hx hby (Nat.le_trans hcs C.2.2.1.1) (Nat.le_trans hsl C.2.2.1.2) fun cA kA comp f1 f2 f3 f4 => ?_
  obtain ⟨kA', comp', k1, k2, k3, k4⟩ := (C.1.2.2.2.2.2.1.1.1.2 2 _ rfl).2
  have hcA : E.2.2.2.1 = cA := Option.some.inj (k4.symm.trans f1)
  subst hcA
  generalize hH1 : H.push ({ cls := E.2.2.2.1, slots := Array.replicate x.toNatClampNeg .null, vm := .none } : Cell) = H1
  have z1 : H1.size = H.size + 1 := by rw [← hH1, Array.size_push]
  have e1 : H1[H.size]? = some (arrV E.2.2.2.1 x.toNatClampNeg (fun _ => .null)) := by rw [← hH1, Array.getElem?_push_size, ← arrV_new]
  have o1 : ∀ q : Nat, q < H.size → H1[q]? = H[q]? := fun q hq => by rw [← hH1, Array.getElem?_push, if_neg (Nat.ne_of_lt hq)]
  rw [hP.2] at e1 ⊢
  exact kk _ rfl H1 locs la (z_kept hP e1 z1 o1) (z_grown hS z1 o1) hla
theorem z_put (C : ZC g E cc nL own nf nl mc ms) {k ci f N index : Nat} {Cn ref : String} {T : u_T} {ty : FieldType} {v : Value} {fs : List Value} (hin : ∀ c ∈ u_ws Cn T N, c ∈ TB) (ty0 : Nat → FieldType) (hty : ∀ k, k < N → parseFieldDescriptor (T k).2.2.1 = some (ty0 k)) (hnm : ∀ a, a < N → ∀ b, b < N → a ≠ b → (T a).2.1 ≠ (T b).2.1) (hk : k < n) (hb : bf k = .inr (ci, fs)) (hc : vwCl[ci]? = some (Cn, T, N)) (hf : f < N) (hl : Cond.fieldLink own index ref (T f).2.1 (T f).2.2.1 ∈ TB) (hr : ref = (T f).1) (hfin : (T f).2.2.2 = false) (hpd : parseFieldDescriptor (T f).2.2.1 = some ty) (hnn : narrow ty v = v) (hfit : fits ty v = true) (hlen : f < fs.length) (hd : decode cc pc = .ok (.putfield index, 3)) (hn : pc + 3 = m)
    (kk : ∀ b', b' = zu bf k (.inr (ci, fs.set f v)) → ZO g E nL cs sl Q b' n m ls st) : ZO g E nL cs sl Q bf n pc ls (v :: .ref (E.2.2.2.2.1 + k) :: st) := by
  subst hn; subst hr
  have ht := C.1.2.2.2.2.1
  intro H locs la hP hS hla
  have hK := C.1.2.2.2.2.2.1.1.1
  have he := zW_get (E := E) (bf := bf) hk
  rw [hb] at he
  have hap := va_apart (own := own) ht hin ty0 hty hnm hK hc
  obtain ⟨r, h1, cell, q1, q2, q3, q4⟩ := hP.1 k _ he
  have hr : r = (Cn, T, N) := Option.some.inj (h1.symm.trans hc)
  subst hr
  obtain ⟨hSl, hfc, kC, hkC, hkind⟩ := hK.1 ci _ hc
  obtain ⟨cf, kf, fi, fd, hi, hsl⟩ := hSl f hf
  have hlay := ht _ (hin _ (u_in_lay hf))
  unfold u_lay at hlay
  rw [if_neg (by rw [hfin]; decide)] at hlay
  have hst := (u_facts hfc hkC (u_lays ht hin hf) hi).1
  have h6 := u_store hfc hkC hkind hlay hi hpd hnn hfit
  refine W.putK C.1.1 C.1.2.1 (f := fd) ⟨C.1.2.2.2.1, ht _ hl, ⟨_, _, _, hi⟩, hst⟩ (by rw [q2]; exact h6) q1 q3 (by rw [hsl]; exact k2_hasslot (q4 f hf)) rfl rfl hd fun H' e1 e2 e3 => ?_
  rw [hsl] at e1 ⊢
  have hP' := hP.1.set (zW_D E bf n) he (e := .inr (ci, fs.set f v)) ⟨_, hc, t_OB.to (V := updV (vp_V fs) f v) ⟨_, e1, q2, q3, t_set q4 hap hf v⟩ (fun j _ => vp_updV_set hlen v j)⟩ e3
  rw [zW_set hk] at hP'
  exact kk _ rfl H' _ la ⟨hP', by rw [e2]; exact hP.2⟩ (hS.put e2 e3 ((zW_D E bf n).2 k _ he)) hla
theorem z_putF (C : ZC g E cc nL own nf nl mc ms) {k ci f N index : Nat} {Cn ref : String} {T : u_T} {ty : FieldType} {v : Value} {fs : List Value} (hin : ∀ c ∈ u_ws Cn T N, c ∈ TB) (ty0 : Nat → FieldType) (hty : ∀ k, k < N → parseFieldDescriptor (T k).2.2.1 = some (ty0 k)) (hnm : ∀ a, a < N → ∀ b, b < N → a ≠ b → (T a).2.1 ≠ (T b).2.1) (hk : k < n) (hb : bf k = .inr (ci, fs)) (hc : vwCl[ci]? = some (Cn, T, N)) (hf : f < N) (hl : Cond.fieldLink own index ref (T f).2.1 (T f).2.2.1 ∈ TB) (hr : ref = (T f).1) (hfin : (T f).2.2.2 = true) (hin2 : g.2.2.2.2.2.2.2.2.1.name = "<init>") (hdecl : (T f).1 = own) (hpd : parseFieldDescriptor (T f).2.2.1 = some ty) (hnn : narrow ty v = v) (hfit : fits ty v = true) (hlen : f < fs.length) (hd : decode cc pc = .ok (.putfield index, 3)) (hn : pc + 3 = m)
    (kk : ∀ b', b' = zu bf k (.inr (ci, fs.set f v)) → ZO g E nL cs sl Q b' n m ls st) : ZO g E nL cs sl Q bf n pc ls (v :: .ref (E.2.2.2.2.1 + k) :: st) := by
  subst hn; subst hr
  have ht := C.1.2.2.2.2.1
  intro H locs la hP hS hla
  have hK := C.1.2.2.2.2.2.1.1.1
  have hown := C.1.2.2.2.1
  have he := zW_get (E := E) (bf := bf) hk
  rw [hb] at he
  have hap := va_apart (own := own) ht hin ty0 hty hnm hK hc
  obtain ⟨r, h1, cell, q1, q2, q3, q4⟩ := hP.1 k _ he
  have hr : r = (Cn, T, N) := Option.some.inj (h1.symm.trans hc)
  subst hr
  obtain ⟨hSl, hfc, kC, hkC, hkind⟩ := hK.1 ci _ hc
  obtain ⟨cf, kf, fi, fd, hi, hsl⟩ := hSl f hf
  have hlay := ht _ (hin _ (u_in_lay hf))
  unfold u_lay at hlay
  rw [if_pos hfin] at hlay
  have hst := (u_facts hfc hkC (u_lays ht hin hf) hi).1
  have hcf : g.2.2.2.2.2.1.cls = cf := by
    obtain ⟨_, _, c', _, _, _, -, -, hf', -, -, -, hown2, -⟩ := Cond.laysFinal_spec hlay
    have e1 : c' = cf := by have := hi.symm.trans hf'; simp at this; exact this.1.symm
    rw [hdecl] at hown2
    rw [← e1]; exact Option.some.inj (hown.symm.trans hown2)
  have h6 := u_fits hfc hkC hkind (Or.inr hlay) hi hpd hnn hfit
  refine W.putFinK C.1.1 C.1.2.1 hown (ht _ hl) hi hst hcf hin2 (by rw [q2]; exact h6) q1 q3 (by rw [hsl]; exact k2_hasslot (q4 f hf)) rfl rfl hd fun H' e1 e2 e3 => ?_
  rw [hsl] at e1 ⊢
  have hP' := hP.1.set (zW_D E bf n) he (e := .inr (ci, fs.set f v)) ⟨_, hc, t_OB.to (V := updV (vp_V fs) f v) ⟨_, e1, q2, q3, t_set q4 hap hf v⟩ (fun j _ => vp_updV_set hlen v j)⟩ e3
  rw [zW_set hk] at hP'
  exact kk _ rfl H' _ la ⟨hP', by rw [e2]; exact hP.2⟩ (hS.put e2 e3 ((zW_D E bf n).2 k _ he)) hla
theorem z_get (C : ZC g E cc nL own nf nl mc ms) {k ci f N index : Nat} {Cn ref : String} {T : u_T} {v : Value} {fs : List Value} (hin : ∀ c ∈ u_ws Cn T N, c ∈ TB) (hk : k < n) (hb : bf k = .inr (ci, fs)) (hc : vwCl[ci]? = some (Cn, T, N)) (hf : f < N) (hl : Cond.fieldLink own index ref (T f).2.1 (T f).2.2.1 ∈ TB) (hr : ref = (T f).1) (hv : fs[f]? = some v) (hd : decode cc pc = .ok (.getfield index, 3)) (hn : pc + 3 = m)
    (kk : ZO g E nL cs sl Q bf n m ls (v :: st)) : ZO g E nL cs sl Q bf n pc ls (.ref (E.2.2.2.2.1 + k) :: st) := by
  subst hn; subst hr
  have ht := C.1.2.2.2.2.1
  exact fun H locs la hP hS hla => va_get C.1.1 C.1.2.1 ht hin C.1.2.2.2.1 C.1.2.2.2.2.2.1.1.1 hP.1 k (by rw [zW_get hk, hb]) hc f hf (ht _ hl) (fun _ h => h) hv hd (kk H locs la hP hS hla)
theorem z_alenR (C : ZC g E cc nL own nf nl mc ms) {k q : Nat} {f : Nat → Option Nat} (hk : k < n) (hb : bf k = .inl (E.2.2.2.1, q, .inr (.inr (.inr (.inr f))))) {v : Int32} (hv : Int32.ofNat q = v) (hd : decode cc pc = .ok (.arraylength, 1)) (hn : pc + 1 = m) (kk : ZO g E nL cs sl Q bf n m ls (.int v :: st)) : ZO g E nL cs sl Q bf n pc ls (.ref (E.2.2.2.2.1 + k) :: st) := by
  subst hn
  exact fun H locs la hP hS hla => va_alen C.1.1 C.1.2.1 C.1.2.2.2.2.2.1.1.1 hP.1 k 2 (by rw [zW_get hk, hb]) rfl hv hd (kk H locs la hP hS hla)
theorem z_iast (C : ZC g E cc nL own nf nl mc ms) {k q : Nat} {f : Nat → Int32} {i x : Int32} (hk : k < n) (hb : bf k = .inl (E.2.1, q, .inl f)) (hi : vp_in i q) (hd : decode cc pc = .ok (.iastore, 1)) (hn : pc + 1 = m) (kk : ∀ b', b' = zu bf k (.inl (E.2.1, q, .inl (upd f i.toNatClampNeg x))) → ZO g E nL cs sl Q b' n m ls st) : ZO g E nL cs sl Q bf n pc ls (.int x :: .int i :: .ref (E.2.2.2.2.1 + k) :: st) := by
  subst hn
  intro H locs la hP hS hla
  have hK := C.1.2.2.2.2.2.1.1.1
  have ha := zW_get (E := E) (bf := bf) hk
  rw [hb] at ha
  refine W.iast C.1.1 C.1.2.1 (hP.1 k _ ha) ((hK.2 0 _ rfl).1 q (fun j => .int (f j))) (fun q => by cases q) (by show ¬ (i < 0 ∨ (arrV _ _ _).slots.size ≤ _); rw [arrV_size]; exact hi) rfl rfl hd fun H1 e z oq => ?_
  have hat : va_at E.1 vwCl (E.2.2.2.2.1 + k, .inl (E.2.1, q, .inl (upd f i.toNatClampNeg x))) H1 := by
    show H1[_]? = some (vp_cell _ _)
    rw [e]
    rw [vp_cell_i, vp_cell_i, arrV_store]
    congr 2
    funext j
    by_cases hj : j = i.toNatClampNeg
    · subst hj; simp [updV, upd]
    · simp [updV, upd, hj]
  have hP' := hP.1.set (zW_D E bf n) ha hat oq
  rw [zW_set hk] at hP'
  exact kk _ rfl H1 _ la ⟨hP', by rw [z]; exact hP.2⟩ (hS.put z oq ((zW_D E bf n).2 k _ ha)) hla
theorem z_aast (C : ZC g E cc nL own nf nl mc ms) {k q x : Nat} {f : Nat → Option Nat} {vs : List Value} {i : Int32} (hk : k < n) (hb : bf k = .inl (E.2.2.2.1, q, .inr (.inr (.inr (.inr f))))) (hx : x < n) (hbx : bf x = .inr (3, vs)) (hi : vp_in i q) (hd : decode cc pc = .ok (.aastore, 1)) (hn : pc + 1 = m) (kk : ∀ b', b' = zu bf k (.inl (E.2.2.2.1, q, .inr (.inr (.inr (.inr (va_up f i.toNatClampNeg (some (E.2.2.2.2.1 + x)))))))) → ZO g E nL cs sl Q b' n m ls st) : ZO g E nL cs sl Q bf n pc ls (.ref (E.2.2.2.2.1 + x) :: .int i :: .ref (E.2.2.2.2.1 + k) :: st) := by
  subst hn
  intro H locs la hP hS hla
  have hK := C.1.2.2.2.2.2.1.1.1
  have ha := zW_get (E := E) (bf := bf) hk
  rw [hb] at ha
  have hv := zW_get (E := E) (bf := bf) hx
  rw [hbx] at hv
  have hlt : i.toNatClampNeg < q := Nat.not_le.mp fun z => hi (Or.inr z)
  have h0 : ¬ i < 0 := fun z => hi (Or.inl z)
  obtain ⟨r', hr', cellV, g1, g2, g3, -⟩ := hP.1 x _ hv
  have hcls := (hK.1 3 _ rfl).2
  obtain ⟨kA, comp, k1, k2, k3, -⟩ := (hK.2 2 _ rfl).2
  have hcomp : comp = E.1.1 3 := Option.some.inj (k3.symm.trans hcls.1)
  subst hcomp
  obtain ⟨kC, hkC, -⟩ := hcls.2
  refine W.aast C.1.1 C.1.2.1 (hP.1 k _ ha) (fun q h => by cases h) (fun h => by cases h) k1 k2 rfl hkC ⟨h0, by show _ < (arrV _ _ _).slots.size; rw [arrV_size]; exact hlt⟩ g1 (fun q h => by rw [g3] at h; cases h) (by rw [g2]; exact hkC) (by rw [g2]; exact va_assign hcls) rfl rfl hd fun H1 e z oq => ?_
  have hat : va_at E.1 vwCl (E.2.2.2.2.1 + k, .inl (E.2.2.2.1, q, .inr (.inr (.inr (.inr (va_up f i.toNatClampNeg (some (E.2.2.2.2.1 + x)))))))) H1 := by
    show H1[_]? = some (vp_cell _ _)
    rw [e]
    rw [vp_cell_q, vp_cell_q, arrV_store]
    congr 2
    funext j
    by_cases hj : j = i.toNatClampNeg
    · subst hj; simp [updV, va_up, va_rf]
    · simp [updV, va_up, hj]
  have hP' := hP.1.set (zW_D E bf n) ha hat oq
  rw [zW_set hk] at hP'
  exact kk _ rfl H1 _ la ⟨hP', by rw [z]; exact hP.2⟩ (hS.put z oq ((zW_D E bf n).2 k _ ha)) hla
def zQ (E : Ex) (bf : Nat → va_E) (n : Nat) : Array Value → State → Outcome → State → Prop := va_Qv (fun (_ : Unit) => True) (fun _ t => zH E bf n t.heap) (yA E)
theorem z_ret (C : ZC g E cc nL own nf nl mc ms) {b' : Nat → va_E} {n' : Nat} (hr : RT g none) (hb : bf = b') (hn' : n = n') (hd : decode cc pc = .ok (.return_, 1)) : ZO g E nL cs sl (MQ g.2.2.2.2.2.2.2.1 (zQ E b' n') g.2.2.2.2.2.2.1 g.2.2.2.2.1 cs sl (yA E)) bf n pc ls [] := by
  subst hb; subst hn'
  intro H locs la hP hS hl
  exact W.vret C.1.1 C.1.2.1 hr (fun t ht _ => ⟨⟨(), rfl, trivial, by subst ht; exact hP⟩, hS.F ht⟩) hS.2.2 hd C.1.2.2.2.2.2.2
theorem z_met {y : MethodName} {maxL : Nat} {nf nl mc ms k n' : Nat} {b' : Nat → va_E} (hy : plainName y.cls = true) (hn1 : y.name = "<init>") (hav : 1 ≤ maxL)
    (body : ∀ g : Gx, ZC g E cc maxL y.cls nf nl mc ms → RT g none → g.2.2.2.2.2.2.2.2.1.name = "<init>" → ZO g E maxL 0 0 (MQ g.2.2.2.2.2.2.2.1 (zQ E b' n') g.2.2.2.2.2.2.1 g.2.2.2.2.1 mc ms (yA E)) bf n 0 [(0, .ref (E.2.2.2.2.1 + k))] []) :
    ∀ (l : Launch), Met l y (yws y cc maxL none) { frames := nf, cells := mc, slots := ms, locals := nl } (va_Pc [.ref (E.2.2.2.2.1 + k)] (zP E bf n)) (zQ E b' n') mc ms (yA E) := by
  intro l
  refine Met.ofW (cc := cc) (maxL := maxL) (ret := none) hy rfl ?_
  intro p e s m args below meth c s₁ B hml hv
  obtain ⟨rfl, hP, hK⟩ := hv
  have hts := atoms_spec (ws := yws y cc maxL none) B.pre
  have hown : s.vm.findClass y.cls = some m.cls := findClass_of_methodNamed B.named
  have hl := lv_entry [.ref (E.2.2.2.2.1 + k)] (n := maxL) (by exact hav)
  rw [lg_entry_eq]
  exact body (p, l, e, (headSpec (yws y cc maxL none) { frames := nf, cells := mc, slots := ms, locals := nl }).room, s, m, ([.ref (E.2.2.2.2.1 + k)] : List Value).toArray, below, meth, c, 0, 0) ⟨⟨B.exec, B.bytes, hml, hown, fun w hw => hts w (List.mem_cons_of_mem _ hw), hK, B.notSynchronized⟩, ⟨Nat.le_refl _, Nat.le_refl _⟩, ⟨Nat.le_refl _, Nat.le_refl _⟩, by show _ ≤ s.heap.size; rw [hP.2]; exact Nat.le_add_right _ _⟩ B.returns ((name_of_methodNamed B.named B.method).1.trans hn1) s.heap [] _ hP va_S.rf hl
/-- a constructor's call -/
theorem z_call (C : ZC g E cc nL own nf nl mc ms) {y : MethodName} {bytes : ByteArray} {maxL idx k n0 n1 mc' ms' n' : Nat} {b' : Nat → va_E} (hc : Cond.code y bytes maxL none ∈ TB) (hini : Cond.initialized y.cls ∈ TB) (hin : Cond.instanceMethod y ∈ TB) (hy1 : y.name = "<init>") (hy2 : y.cls ≠ "java/lang/invoke/MethodHandle" ∧ y.cls ≠ "java/lang/invoke/VarHandle" ∧ (parseMethodDescriptor y.desc).map (fun d => d.parameters.length) = some 0) (hl : Cond.methodLink own idx y ∈ TB) (hR : n0 + 1 ≤ nf ∧ 8 + (maxL + 11) + n1 ≤ nl) (hR2 : cs + mc' ≤ mc ∧ sl + ms' ≤ ms) (hcat : (st.map fun v => v.category).sum ≤ 8)
    (hM : Met g.2.1 y (yws y bytes maxL none) { frames := n0, cells := mc', slots := ms', locals := n1 } (va_Pc [.ref (E.2.2.2.2.1 + k)] (zP E bf n)) (zQ E b' n') mc' ms' (yA E)) (hd : decode cc pc = .ok (.invokespecial idx, 3)) (hn : pc + 3 = m)
    (kk : ∀ b2, b2 = b' → ZO g E nL (cs + mc') (sl + ms') Q b2 n' m ls st) : ZO g E nL cs sl Q bf n pc ls (.ref (E.2.2.2.2.1 + k) :: st) := by
  subst hn
  have ht := C.1.2.2.2.2.1
  intro H locs la hP hS hla
  refine va_callv (va_runI (Ts := TB) (As := []) (rest := st) ⟨C.1.1, C.1.2.1, C.1.2.2.1, C.1.2.2.2.1, ht⟩ hM (cwI 0 ht (yws_good hc) rfl rfl rfl (ht _ hini) (ht _ hl) (ht _ hin) hy1 hy2 ⟨Nat.le_trans hR.1 C.2.1.1, Nat.le_trans hR.2 C.2.1.2⟩) ⟨fun a U f mk q => ⟨q.1, q.2.1, zK.same q.2.2 rfl⟩, fun U hU hW => ⟨rfl, by rw [hU]; exact hP, zK.warm C.1.2.2.2.2.2.1 hW⟩⟩ rfl rfl hla.1 rfl (lv_room hcat) hd ⟨Nat.le_trans hR2.1 C.2.2.1.1, Nat.le_trans hR2.2 C.2.2.1.2⟩) hS (fun _ _ h => h) (fun _ h => h) (fun u t H1 locs1 ht' hvm hw hB _ _ hS1 => ?_)
  subst ht'
  exact kk _ rfl _ locs1 la hB hS1 hla
theorem z_callN (C : ZC g E cc nL own nf nl mc ms) {host : String} {y : MethodName} {bytes : ByteArray} {maxL idx k n0 n1 mc' ms' n' : Nat} {b' : Nat → va_E} (hc : Cond.code y bytes maxL none ∈ TB) (hini : Cond.initialized y.cls ∈ TB) (hin : Cond.instanceMethod y ∈ TB) (hy1 : y.name = "<init>") (hy2 : y.cls ≠ "java/lang/invoke/MethodHandle" ∧ y.cls ≠ "java/lang/invoke/VarHandle" ∧ (parseMethodDescriptor y.desc).map (fun d => d.parameters.length) = some 0) (hl : Cond.methodLinkNest own idx y host ∈ NWs) (hR : n0 + 1 ≤ nf ∧ 8 + (maxL + 11) + n1 ≤ nl) (hR2 : cs + mc' ≤ mc ∧ sl + ms' ≤ ms) (hcat : (st.map fun v => v.category).sum ≤ 8)
    (hM : Met g.2.1 y (yws y bytes maxL none) { frames := n0, cells := mc', slots := ms', locals := n1 } (va_Pc [.ref (E.2.2.2.2.1 + k)] (zP E bf n)) (zQ E b' n') mc' ms' (yA E)) (hd : decode cc pc = .ok (.invokespecial idx, 3)) (hn : pc + 3 = m)
    (kk : ∀ b2, b2 = b' → ZO g E nL (cs + mc') (sl + ms') Q b2 n' m ls st) : ZO g E nL cs sl Q bf n pc ls (.ref (E.2.2.2.2.1 + k) :: st) := by
  subst hn
  have ht := C.1.2.2.2.2.1
  intro H locs la hP hS hla
  refine va_callv (va_runIN (Ts := TB) (As := []) (rest := st) ⟨C.1.1, C.1.2.1, C.1.2.2.1, C.1.2.2.2.1, ht⟩ hM ⟨va_cnB 0 ht (yws_good hc) rfl rfl rfl (C.1.2.2.2.2.2.1.1.2 _ hl) (ht _ hini) hy2 ⟨Nat.le_trans hR.1 C.2.1.1, Nat.le_trans hR.2 C.2.1.2⟩, hy1, ht _ hin⟩ ⟨fun a U f mk q => ⟨q.1, q.2.1, zK.same q.2.2 rfl⟩, fun U hU hW => ⟨rfl, by rw [hU]; exact hP, zK.warm C.1.2.2.2.2.2.1 hW⟩⟩ rfl rfl hla.1 rfl (lv_room hcat) hd ⟨Nat.le_trans hR2.1 C.2.2.1.1, Nat.le_trans hR2.2 C.2.2.1.2⟩) hS (fun _ _ h => h) (fun _ h => h) (fun u t H1 locs1 ht' hvm hw hB _ _ hS1 => ?_)
  subst ht'
  exact kk _ rfl _ locs1 la hB hS1 hla
end ZR
