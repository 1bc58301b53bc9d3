section YC
variable {ρ : Type} {g : Gx} {E : Ex} {cc : ByteArray} {nL nf nl : Nat} {own : String} {QQ : ρ → State → Prop} {o : Option ρ} {w w' : Wd} {pc n : Nat} {ls ls' : List (Nat × Value)} {st : List Value}
/-! returns -/
abbrev QI (g : Gx) (E : Ex) : Int32 × Wd → State → Prop := fun r => MQ g.2.2.2.2.2.2.2.1 (yQi E r) g.2.2.2.2.2.2.1 g.2.2.2.2.1 g.2.2.2.2.2.2.2.2.2.2.1 g.2.2.2.2.2.2.2.2.2.2.2 (yA E)
abbrev QP (g : Gx) (E : Ex) (w : Wd) : Int32 → State → Prop := fun r => MQ g.2.2.2.2.2.2.2.1 (yQi E (r, w)) g.2.2.2.2.2.2.1 g.2.2.2.2.1 g.2.2.2.2.2.2.2.2.2.2.1 g.2.2.2.2.2.2.2.2.2.2.2 (yA E)
abbrev QV (g : Gx) (E : Ex) : Wd → State → Prop := fun r => MQ g.2.2.2.2.2.2.2.1 (yQv E r) g.2.2.2.2.2.2.1 g.2.2.2.2.1 g.2.2.2.2.2.2.2.2.2.2.1 g.2.2.2.2.2.2.2.2.2.2.2 (yA E)
abbrev QQ0 (g : Gx) (E : Ex) (w : Wd) : Option Nat → State → Prop := fun r => MQ g.2.2.2.2.2.2.2.1 (yQq E r w) g.2.2.2.2.2.2.1 g.2.2.2.2.1 g.2.2.2.2.2.2.2.2.2.2.1 g.2.2.2.2.2.2.2.2.2.2.2 (yA E)
abbrev RT (g : Gx) (rt : Option FieldType) : Prop := g.2.2.2.2.2.2.2.2.1.sig.returnType = rt
theorem y_ri (C : CC g E cc nL own nf nl) {x : Int32} (hr : RT g (some .int)) (hd : decode cc pc = .ok (.ireturn, 1)) : YO g E nL (QI g E) (some (x, w)) w pc ls [.int x] := by
  intro r hr' H locs la hP hS hl
  cases hr'
  exact W.iret C.1 C.2.1 hr (fun t ht _ => ⟨⟨x, (), rfl, rfl, by subst ht; exact hP⟩, hS.F ht⟩) hS.2.2 hd C.2.2.2.2.2.2.1
theorem y_rp (C : CC g E cc nL own nf nl) {x : Int32} (hr : RT g (some .int)) (hd : decode cc pc = .ok (.ireturn, 1)) : YO g E nL (QP g E w) (some x) w pc ls [.int x] := by
  intro r hr' H locs la hP hS hl
  cases hr'
  exact W.iret C.1 C.2.1 hr (fun t ht _ => ⟨⟨x, (), rfl, rfl, by subst ht; exact hP⟩, hS.F ht⟩) hS.2.2 hd C.2.2.2.2.2.2.1
theorem y_rz (C : CC g E cc nL own nf nl) {x : Int32} (hr : RT g (some .boolean)) (hd : decode cc pc = .ok (.ireturn, 1)) : YO g E nL (QP g E w) (rtZ x) w pc ls [.int x] := by
  intro r hr' H locs la hP hS hl
  by_cases h : x = 0 ∨ x = 1
  · rw [rtZ, if_pos h] at hr'
    cases hr'
    have hn : narrow .boolean (.int x) = .int x := by rcases h with rfl | rfl <;> decide +kernel
    exact W.zret C.1 C.2.1 hr hn (fun t ht _ => ⟨⟨x, (), rfl, rfl, by subst ht; exact hP⟩, hS.F ht⟩) hS.2.2 hd C.2.2.2.2.2.2.1
  · rw [rtZ, if_neg h] at hr'
    cases hr'
theorem y_rzi (C : CC g E cc nL own nf nl) {x : Int32} (hr : RT g (some .boolean)) (hd : decode cc pc = .ok (.ireturn, 1)) : YO g E nL (QI g E) ((rtZ x).bind fun x => some (x, w)) w pc ls [.int x] := by
  intro r hr' H locs la hP hS hl
  by_cases h : x = 0 ∨ x = 1
  · rw [rtZ, if_pos h] at hr'
    cases hr'
    have hn : narrow .boolean (.int x) = .int x := by rcases h with rfl | rfl <;> decide +kernel
    exact W.zret C.1 C.2.1 hr hn (fun t ht _ => ⟨⟨x, (), rfl, rfl, by subst ht; exact hP⟩, hS.F ht⟩) hS.2.2 hd C.2.2.2.2.2.2.1
  · rw [rtZ, if_neg h] at hr'
    cases hr'
theorem y_rc (C : CC g E cc nL own nf nl) {x : Int32} (hr : RT g (some .char)) (hd : decode cc pc = .ok (.ireturn, 1)) : YO g E nL (QP g E w) (rtC x) w pc ls [.int x] := by
  intro r hr' H locs la hP hS hl
  by_cases h : narrow .char (.int x) = .int x
  · rw [rtC, if_pos h] at hr'
    cases hr'
    exact W.zret C.1 C.2.1 hr h (fun t ht _ => ⟨⟨x, (), rfl, rfl, by subst ht; exact hP⟩, hS.F ht⟩) hS.2.2 hd C.2.2.2.2.2.2.1
  · rw [rtC, if_neg h] at hr'
    cases hr'
theorem y_rv (C : CC g E cc nL own nf nl) (hr : RT g none) (hd : decode cc pc = .ok (.return_, 1)) : YO g E nL (QV g E) (some w) w pc ls [] := by
  intro r hr' H locs la hP hS hl
  cases hr'
  exact W.vret C.1 C.2.1 hr (fun t ht _ => ⟨⟨(), rfl, trivial, by subst ht; exact hP⟩, hS.F ht⟩) hS.2.2 hd C.2.2.2.2.2.2.1
theorem y_rqS (C : CC g E cc nL own nf nl) {k : Nat} {c : String} (hr : RT g (some (.object c))) (hd : decode cc pc = .ok (.areturn, 1)) : YO g E nL (QQ0 g E w) (some (some k)) w pc ls [.ref (E.2.2.2.2.1 + k)] := by
  intro r hr' H locs la hP hS hl
  cases hr'
  exact W.aret C.1 C.2.1 hr (Or.inl ⟨_, rfl⟩) (Or.inr ⟨_, rfl⟩) (fun t ht _ => ⟨⟨some (E.2.2.2.2.1 + k), (), rfl, rfl, by subst ht; exact hP⟩, hS.F ht⟩) hS.2.2 hd C.2.2.2.2.2.2.1
theorem y_rqN (C : CC g E cc nL own nf nl) {c : String} (hr : RT g (some (.object c))) (hd : decode cc pc = .ok (.areturn, 1)) : YO g E nL (QQ0 g E w) (some none) w pc ls [.null] := by
  intro r hr' H locs la hP hS hl
  cases hr'
  exact W.aret C.1 C.2.1 hr (Or.inl ⟨_, rfl⟩) (Or.inl rfl) (fun t ht _ => ⟨⟨none, (), rfl, rfl, by subst ht; exact hP⟩, hS.F ht⟩) hS.2.2 hd C.2.2.2.2.2.2.1
/-- a method, from its walk -/
theorem y_met {y : MethodName} {maxL : Nat} {rt : Option FieldType} {nf nl : Nat} {av : List Value} {f : Option ρ} {Qc : ρ → Array Value → State → Outcome → State → Prop} (hy : plainName y.cls = true) (hav : (lg_sl av).length ≤ maxL)
    (body : ∀ g : Gx, CC g E cc maxL y.cls nf nl → RT g rt → YO g E maxL (fun r => MQ g.2.2.2.2.2.2.2.1 (Qc r) g.2.2.2.2.2.2.1 g.2.2.2.2.1 g.2.2.2.2.2.2.2.2.2.2.1 g.2.2.2.2.2.2.2.2.2.2.2 (yA E)) f w 0 (lv_args 0 av) []) :
    ∀ (l : Launch) r, f = some r → MZ l y cc maxL rt { frames := nf, cells := 0, slots := 0, locals := nl } E av w (Qc r) := by
  intro l r hr
  refine Met.ofW (cc := cc) (maxL := maxL) (ret := rt) hy rfl ?_
  intro p e s m args below meth c s₁ B hml hv
  obtain ⟨rfl, hP, hK, hST⟩ := hv
  have hts := atoms_spec (ws := yws y cc maxL rt) B.pre
  have hown : s.vm.findClass y.cls = some m.cls := findClass_of_methodNamed B.named
  have hl := lv_entry av hav
  rw [lg_entry_eq]
  exact body (p, l, e, (headSpec (yws y cc maxL rt) { frames := nf, cells := 0, slots := 0, locals := nl }).room, s, m, av.toArray, below, meth, c, 0, 0) ⟨B.exec, B.bytes, hml, hown, fun w hw => hts w (List.mem_cons_of_mem _ hw), hK, B.notSynchronized, Nat.le_refl _, Nat.le_refl _, hST, Nat.zero_le _, Nat.zero_le _⟩ B.returns r hr s.heap [] _ hP va_S.rf hl
theorem yRoom (C : CC g E cc nL own nf nl) : g.2.2.2.2.2.2.2.2.2.2.1 + 0 ≤ g.2.2.2.1.cells ∧ g.2.2.2.2.2.2.2.2.2.2.2 + 0 ≤ g.2.2.2.1.slots := C.2.2.2.2.2.2.2.2.2.2
/-! calls: what the words give -/
def KY (y : MethodName) (cc : ByteArray) (maxL : Nat) (rt : Option FieldType) (n : Nat) : Prop := Cond.code y cc maxL rt ∈ TB ∧ Cond.initialized y.cls ∈ TB ∧ (y.cls ≠ "java/lang/invoke/MethodHandle" ∧ y.cls ≠ "java/lang/invoke/VarHandle" ∧ (parseMethodDescriptor y.desc).map (fun d => d.parameters.length) = some n)
def KYV (y : MethodName) (cc : ByteArray) (maxL : Nat) (rt : Option FieldType) (n : Nat) : Prop := KY y cc maxL rt n ∧ Cond.instanceMethod y ∈ TB ∧ Cond.selects y.cls y y ∈ TB
def KYS (y : MethodName) (cc : ByteArray) (maxL : Nat) (rt : Option FieldType) (n : Nat) : Prop := KY y cc maxL rt n ∧ Cond.static y ∈ TB
abbrev yRun (g : Gx) (H : Heap) (locs : List Loc) (f : JFrame) (rest : List Value) (Qa : State → Outcome → State → Prop) (free : Addr → Prop) : Prop := va_Run g.1 g.2.1 g.2.2.1 g.2.2.2.1 g.2.2.2.2.1 g.2.2.2.2.2.1 g.2.2.2.2.2.2.1 g.2.2.2.2.2.2.2.1 g.2.2.2.2.2.2.2.2.1 g.2.2.2.2.2.2.2.2.2.1 H locs g.2.2.2.2.2.2.2.2.2.2.1 g.2.2.2.2.2.2.2.2.2.2.2 0 0 f rest Qa free
variable {y : MethodName} {bytes : ByteArray} {maxL idx n0 n1 ci N : Nat} {rt : Option FieldType} {Qc : Array Value → State → Outcome → State → Prop} {T : u_T} {b : Nat} {As st0 : List Value}
theorem y_blind {av : List Value} : FrameBlind (va_Pc av (yP E w)) := fun a U f mk q => ⟨q.1, q.2.1, yKK.same q.2.2.1 rfl, yST.same q.2.2.2 rfl⟩
theorem y_pre (C : CC g E cc nL own nf nl) {av : List Value} {H : Heap} {locs : List Loc} (hP : va_P E.1 vwCl (yW E w) H) (hS : va_S (yA E) g.2.2.2.2.1.heap H locs) : ∀ U : State, U.heap = H → g.2.2.2.2.1.WarmedH U.vm → va_Pc av (yP E w) av.toArray U := fun U hU hW => ⟨rfl, by rw [hU]; exact hP, yKK.warm C.2.2.2.2.2.1 hW, by rw [hU]; exact yST.warm (yST.kept C.2.2.2.2.2.2.2.2.2.1 hS.2.1) hW⟩
theorem y_runV (C : CC g E cc nL own nf nl) (ky : KYV y bytes maxL rt n) (hl : Cond.methodLink own idx y ∈ TB) (hR : n0 + 1 ≤ nf ∧ 8 + (maxL + 11) + n1 ≤ nl) (hb : E.2.2.2.2.2.1[b]? = some (ci + 3, 0)) (hc : vwCl[ci]? = some (y.cls, T, N)) (hM : MZ g.2.1 y bytes maxL rt { frames := n0, cells := 0, slots := 0, locals := n1 } E (.ref (E.2.2.2.2.1 + b) :: As) w Qc) (hn : As.length = n) (hcat : (st.map fun v => v.category).sum ≤ 8) (hst : st0 = As.reverse ++ .ref (E.2.2.2.2.1 + b) :: st) (hd : decode cc pc = .ok (.invokevirtual idx, 3))
    {H : Heap} {locs : List Loc} {la : Array Slot} (hP : va_P E.1 vwCl (yW E w) H) (hS : va_S (yA E) g.2.2.2.2.1.heap H locs) (hla : lv_has la nL ls) : yRun g H locs (F0 g.2.2.2.2.2.1 pc la st0) st (Qc (Value.ref (E.2.2.2.2.1 + b) :: As).toArray) (yA E) := by
  obtain ⟨⟨k1, k2, k3⟩, k4, k5⟩ := ky
  have ht := C.2.2.2.2.1
  exact va_runV (Ts := TB) ⟨C.1, C.2.1, C.2.2.1, C.2.2.2.1, ht⟩ hM ⟨callB_of n ht (yws_good k1) rfl rfl rfl (ht _ k2) (ht _ hl) k3 ⟨Nat.le_trans hR.1 C.2.2.2.2.2.2.2.1, Nat.le_trans hR.2 C.2.2.2.2.2.2.2.2.1⟩, ht _ k4, ht _ k5⟩ ⟨y_blind, va_recv C.2.2.2.2.2.1.1 hP hc (yW_get hb), y_pre C hP hS⟩ rfl hn hla.1 hst (lv_room hcat) hd (yRoom C)
theorem y_runVN (C : CC g E cc nL own nf nl) {host : String} (ky : KYV y bytes maxL rt n) (hl : Cond.methodLinkNest own idx y host ∈ NWs) (hR : n0 + 1 ≤ nf ∧ 8 + (maxL + 11) + n1 ≤ nl) (hb : E.2.2.2.2.2.1[b]? = some (ci + 3, 0)) (hc : vwCl[ci]? = some (y.cls, T, N)) (hM : MZ g.2.1 y bytes maxL rt { frames := n0, cells := 0, slots := 0, locals := n1 } E (.ref (E.2.2.2.2.1 + b) :: As) w Qc) (hn : As.length = n) (hcat : (st.map fun v => v.category).sum ≤ 8) (hst : st0 = As.reverse ++ .ref (E.2.2.2.2.1 + b) :: st) (hd : decode cc pc = .ok (.invokevirtual idx, 3))
    {H : Heap} {locs : List Loc} {la : Array Slot} (hP : va_P E.1 vwCl (yW E w) H) (hS : va_S (yA E) g.2.2.2.2.1.heap H locs) (hla : lv_has la nL ls) : yRun g H locs (F0 g.2.2.2.2.2.1 pc la st0) st (Qc (Value.ref (E.2.2.2.2.1 + b) :: As).toArray) (yA E) := by
  obtain ⟨⟨k1, k2, k3⟩, k4, k5⟩ := ky
  have ht := C.2.2.2.2.1
  exact va_runVN (Ts := TB) ⟨C.1, C.2.1, C.2.2.1, C.2.2.2.1, ht⟩ hM ⟨va_cnB n ht (yws_good k1) rfl rfl rfl (C.2.2.2.2.2.1.2 _ hl) (ht _ k2) k3 ⟨Nat.le_trans hR.1 C.2.2.2.2.2.2.2.1, Nat.le_trans hR.2 C.2.2.2.2.2.2.2.2.1⟩, ht _ k4, ht _ k5⟩ ⟨y_blind, va_recv C.2.2.2.2.2.1.1 hP hc (yW_get hb), y_pre C hP hS⟩ rfl hn hla.1 hst (lv_room hcat) hd (yRoom C)
theorem y_runS (C : CC g E cc nL own nf nl) (ky : KYS y bytes maxL rt n) (hl : Cond.methodLink own idx y ∈ TB) (hR : n0 + 1 ≤ nf ∧ 8 + (maxL + 11) + n1 ≤ nl) (hM : MZ g.2.1 y bytes maxL rt { frames := n0, cells := 0, slots := 0, locals := n1 } E As w Qc) (hn : As.length = n) (hcat : (st.map fun v => v.category).sum ≤ 8) (hst : st0 = As.reverse ++ st) (hd : decode cc pc = .ok (.invokestatic idx, 3))
    {H : Heap} {locs : List Loc} {la : Array Slot} (hP : va_P E.1 vwCl (yW E w) H) (hS : va_S (yA E) g.2.2.2.2.1.heap H locs) (hla : lv_has la nL ls) : yRun g H locs (F0 g.2.2.2.2.2.1 pc la st0) st (Qc As.toArray) (yA E) := by
  obtain ⟨⟨k1, k2, k3⟩, k4⟩ := ky
  have ht := C.2.2.2.2.1
  exact va_runS (Ts := TB) ⟨C.1, C.2.1, C.2.2.1, C.2.2.2.1, ht⟩ hM ⟨callB_of n ht (yws_good k1) rfl rfl rfl (ht _ k2) (ht _ hl) k3 ⟨Nat.le_trans hR.1 C.2.2.2.2.2.2.2.1, Nat.le_trans hR.2 C.2.2.2.2.2.2.2.2.1⟩, ht _ k4⟩ ⟨y_blind, y_pre C hP hS⟩ rfl hn hla.1 hst (lv_room hcat) hd (yRoom C)
theorem y_runSN (C : CC g E cc nL own nf nl) {host : String} (ky : KYS y bytes maxL rt n) (hl : Cond.methodLinkNest own idx y host ∈ NWs) (hR : n0 + 1 ≤ nf ∧ 8 + (maxL + 11) + n1 ≤ nl) (hM : MZ g.2.1 y bytes maxL rt { frames := n0, cells := 0, slots := 0, locals := n1 } E As w Qc) (hn : As.length = n) (hcat : (st.map fun v => v.category).sum ≤ 8) (hst : st0 = As.reverse ++ st) (hd : decode cc pc = .ok (.invokestatic idx, 3))
    {H : Heap} {locs : List Loc} {la : Array Slot} (hP : va_P E.1 vwCl (yW E w) H) (hS : va_S (yA E) g.2.2.2.2.1.heap H locs) (hla : lv_has la nL ls) : yRun g H locs (F0 g.2.2.2.2.2.1 pc la st0) st (Qc As.toArray) (yA E) := by
  obtain ⟨⟨k1, k2, k3⟩, k4⟩ := ky
  have ht := C.2.2.2.2.1
  exact va_runSN (Ts := TB) ⟨C.1, C.2.1, C.2.2.1, C.2.2.2.1, ht⟩ hM ⟨va_cnB n ht (yws_good k1) rfl rfl rfl (C.2.2.2.2.2.1.2 _ hl) (ht _ k2) k3 ⟨Nat.le_trans hR.1 C.2.2.2.2.2.2.2.1, Nat.le_trans hR.2 C.2.2.2.2.2.2.2.2.1⟩, ht _ k4, trivial⟩ ⟨y_blind, y_pre C hP hS⟩ rfl hn hla.1 hst (lv_room hcat) hd (yRoom C)
/-! calls: what the answer is -/
theorem y_ci (C : CC g E cc nL own nf nl) {f : Option (Int32 × Wd)} {K : Int32 × Wd → Option ρ} {a : Array Value} (hrun : ∀ r, f = some r → ∀ (H : Heap) (locs : List Loc) (la : Array Slot), va_P E.1 vwCl (yW E w) H → va_S (yA E) g.2.2.2.2.1.heap H locs → lv_has la nL ls → yRun g H locs (F0 g.2.2.2.2.2.1 pc la st0) st (yQi E r a) (yA E)) (hn : pc + 3 = n)
    (kk : ∀ x w1, f = some (x, w1) → YO g E nL QQ (K (x, w1)) w1 n ls (.int x :: st)) : YO g E nL QQ (f.bind K) w pc ls st0 := by
  subst hn
  intro r hr H locs la hP hS hl
  cases hf : f with
  | none => rw [hf] at hr; cases hr
  | some q =>
    rw [hf] at hr
    refine va_calli (hrun q hf H locs la hP hS hl) hS (fun _ _ h => h) (fun _ h => h) (fun x u t H1 locs1 ht hvm hw hB _ _ hS1 => ?_)
    subst ht
    subst hw
    exact kk q.1 q.2 hf r hr _ locs1 la hB hS1 hl
theorem y_cp (C : CC g E cc nL own nf nl) {f : Option Int32} {K : Int32 → Option ρ} {a : Array Value} (hrun : ∀ r, f = some r → ∀ (H : Heap) (locs : List Loc) (la : Array Slot), va_P E.1 vwCl (yW E w) H → va_S (yA E) g.2.2.2.2.1.heap H locs → lv_has la nL ls → yRun g H locs (F0 g.2.2.2.2.2.1 pc la st0) st (yQi E (r, w) a) (yA E)) (hn : pc + 3 = n)
    (kk : ∀ x, f = some x → YO g E nL QQ (K x) w n ls (.int x :: st)) : YO g E nL QQ (f.bind K) w pc ls st0 := by
  subst hn
  intro r hr H locs la hP hS hl
  cases hf : f with
  | none => rw [hf] at hr; cases hr
  | some q =>
    rw [hf] at hr
    refine va_calli (hrun q hf H locs la hP hS hl) hS (fun _ _ h => h) (fun _ h => h) (fun x u t H1 locs1 ht hvm hw hB _ _ hS1 => ?_)
    subst ht
    subst hw
    exact kk _ hf r hr _ locs1 la hB hS1 hl
theorem y_cv (C : CC g E cc nL own nf nl) {f : Option Wd} {K : Wd → Option ρ} {a : Array Value} (hrun : ∀ r, f = some r → ∀ (H : Heap) (locs : List Loc) (la : Array Slot), va_P E.1 vwCl (yW E w) H → va_S (yA E) g.2.2.2.2.1.heap H locs → lv_has la nL ls → yRun g H locs (F0 g.2.2.2.2.2.1 pc la st0) st (yQv E r a) (yA E)) (hn : pc + 3 = n)
    (kk : ∀ w1, f = some w1 → YO g E nL QQ (K w1) w1 n ls st) : YO g E nL QQ (f.bind K) w pc ls st0 := by
  subst hn
  intro r hr H locs la hP hS hl
  cases hf : f with
  | none => rw [hf] at hr; cases hr
  | some q =>
    rw [hf] at hr
    refine va_callv (hrun q hf H locs la hP hS hl) hS (fun _ _ h => h) (fun _ h => h) (fun u t H1 locs1 ht hvm hw hB _ _ hS1 => ?_)
    subst ht
    exact kk _ hf r hr _ locs1 la hB hS1 hl
theorem y_cq (C : CC g E cc nL own nf nl) {f : Option (Option Nat)} {o1 : Option ρ} {o2 : Nat → Option ρ} {a : Array Value} (hrun : ∀ r, f = some r → ∀ (H : Heap) (locs : List Loc) (la : Array Slot), va_P E.1 vwCl (yW E w) H → va_S (yA E) g.2.2.2.2.1.heap H locs → lv_has la nL ls → yRun g H locs (F0 g.2.2.2.2.2.1 pc la st0) st (yQq E r w a) (yA E)) (hn : pc + 3 = n)
    (k1 : f = some none → YO g E nL QQ o1 w n ls (.null :: st)) (k2 : ∀ x, f = some (some x) → YO g E nL QQ (o2 x) w n ls (.ref (E.2.2.2.2.1 + x) :: st)) : YO g E nL QQ (f.bind fun q => q.elim o1 o2) w pc ls st0 := by
  subst hn
  intro r hr H locs la hP hS hl
  cases hf : f with
  | none => rw [hf] at hr; cases hr
  | some q =>
    rw [hf] at hr
    refine va_callq (hrun q hf H locs la hP hS hl) hS (fun _ _ h => h) (fun _ h => h) (fun x u t H1 locs1 ht hvm hw hB _ _ hS1 => ?_)
    subst ht
    subst hw
    cases q with
    | none => exact k1 hf r hr _ locs1 la hB hS1 hl
    | some q => exact k2 q hf r hr _ locs1 la hB hS1 hl
def ob2 {ρ : Type} (f : Option (Int32 × Wd)) (K : Int32 → Wd → Option ρ) : Option ρ := f.bind fun p => K p.1 p.2
theorem y_ci2 (C : CC g E cc nL own nf nl) {f : Option (Int32 × Wd)} {K : Int32 → Wd → Option ρ} {a : Array Value} (hrun : ∀ r, f = some r → ∀ (H : Heap) (locs : List Loc) (la : Array Slot), va_P E.1 vwCl (yW E w) H → va_S (yA E) g.2.2.2.2.1.heap H locs → lv_has la nL ls → yRun g H locs (F0 g.2.2.2.2.2.1 pc la st0) st (yQi E r a) (yA E)) (hn : pc + 3 = n)
    (kk : ∀ x w1, f = some (x, w1) → YO g E nL QQ (K x w1) w1 n ls (.int x :: st)) : YO g E nL QQ (ob2 f K) w pc ls st0 := y_ci (K := fun p => K p.1 p.2) C hrun hn kk
/-- a name for what is on top -/
theorem y_nm {x : Int32} {K : Int32 → Option ρ} (kk : ∀ z, z = x → YO g E nL QQ (K z) w pc ls (.int z :: st)) : YO g E nL QQ ((some x).bind K) w pc ls (.int x :: st) := kk x rfl
theorem y_nmL {x : Int64} {K : Int64 → Option ρ} (kk : ∀ z, z = x → YO g E nL QQ (K z) w pc ls (.long z :: st)) : YO g E nL QQ ((some x).bind K) w pc ls (.long x :: st) := kk x rfl
/-- a guard -/
theorem y_gd {c : Prop} {_ : Decidable c} (h : c → YO g E nL QQ o w pc ls st) : YO g E nL QQ (if c then o else none) w pc ls st := by
  by_cases hc : c
  · rw [if_pos hc]; exact h hc
  · rw [if_neg hc]; exact y_no
theorem y_mmin (C : CC g E cc nL own nf nl) {index : Nat} {x y : Int32} (hl : Cond.methodLink own index Lib.Math.min.name ∈ TB) (hs : Cond.static Lib.Math.min.name ∈ TB) (hi : Cond.initialized "java/lang/Math" ∈ TB) (hc : Cond.code Lib.Math.min.name Lib.Math.min.code 2 (some .int) ∈ TB) (hf : 1 ≤ nf) (hlo : (st.map fun v => v.category).sum + 13 ≤ nl) (hd : decode cc pc = .ok (.invokestatic index, 3)) (hn : pc + 3 = n) (kk : YO g E nL QQ o w n ls (.int (imin x y) :: st)) : YO g E nL QQ o w pc ls (.int y :: .int x :: st) := by
  subst hn
  have ht := C.2.2.2.2.1
  exact fun r hr H locs la hP hS hla => va_mmin C.1 C.2.1 (C.2.2.1.trans hla.1.symm) C.2.2.2.1 (ht _ hl) (ht _ hs) (ht _ hi) (ht _ hc) (Nat.le_trans hf C.2.2.2.2.2.2.2.1) (Nat.le_trans hlo C.2.2.2.2.2.2.2.2.1) (yRoom C).1 (yRoom C).2 hd (kk r hr H locs la hP hS hla)
theorem y_mmax (C : CC g E cc nL own nf nl) {index : Nat} {x y : Int32} (hl : Cond.methodLink own index Lib.Math.max.name ∈ TB) (hs : Cond.static Lib.Math.max.name ∈ TB) (hi : Cond.initialized "java/lang/Math" ∈ TB) (hc : Cond.code Lib.Math.max.name Lib.Math.max.code 2 (some .int) ∈ TB) (hf : 1 ≤ nf) (hlo : (st.map fun v => v.category).sum + 13 ≤ nl) (hd : decode cc pc = .ok (.invokestatic index, 3)) (hn : pc + 3 = n) (kk : YO g E nL QQ o w n ls (.int (imax x y) :: st)) : YO g E nL QQ o w pc ls (.int y :: .int x :: st) := by
  subst hn
  have ht := C.2.2.2.2.1
  exact fun r hr H locs la hP hS hla => va_mmax C.1 C.2.1 (C.2.2.1.trans hla.1.symm) C.2.2.2.1 (ht _ hl) (ht _ hs) (ht _ hi) (ht _ hc) (Nat.le_trans hf C.2.2.2.2.2.2.2.1) (Nat.le_trans hlo C.2.2.2.2.2.2.2.2.1) (yRoom C).1 (yRoom C).2 hd (kk r hr H locs la hP hS hla)
theorem y_copy (C : CC g E cc nL own nf nl) {index k0 q0 k1 q1 : Nat} {sp dp m : Int32} {K : Wd → Option ρ} (hl : Cond.methodLink own index arraycopyName ∈ TB) (hna : Cond.native arraycopyName ∈ TB) (hs : Cond.static arraycopyName ∈ TB) (hi : Cond.initialized "java/lang/System" ∈ TB) (h0 : E.2.2.2.2.2.1[k0]? = some (0, q0)) (h1 : E.2.2.2.2.2.1[k1]? = some (0, q1)) (hf : 1 ≤ nf) (hlo : (st.map fun v => v.category).sum + (nativeFrameWords "java/lang/System" "arraycopy" 5 + 11) ≤ nl) (hd : decode cc pc = .ok (.invokestatic index, 3)) (hn : pc + 3 = n)
    (kk : ∀ w', cpy w k0 q0 k1 q1 sp dp m = some w' → YO g E nL QQ (K w') w' n ls st) : YO g E nL QQ ((cpy w k0 q0 k1 q1 sp dp m).bind K) w pc ls (.int m :: .int dp :: .ref (E.2.2.2.2.1 + k1) :: .int sp :: .ref (E.2.2.2.2.1 + k0) :: st) := by
  subst hn
  have ht := C.2.2.2.2.1
  by_cases h : sp < 0 ∨ dp < 0 ∨ m < 0 ∨ q0 < sp.toNatClampNeg + m.toNatClampNeg ∨ q1 < dp.toNatClampNeg + m.toNatClampNeg
  · rw [cpy, if_pos h]; exact y_no
  · have e : cpy w k0 q0 k1 q1 sp dp m = some (sA w k1 (va_cpy (w.1 k0) (w.1 k1) sp.toNatClampNeg dp.toNatClampNeg m.toNatClampNeg)) := by rw [cpy, if_neg h]
    rw [e]
    simp only [not_or] at h
    refine fun r hr H locs la hP hS hla => va_copyi C.1 C.2.1 (C.2.2.1.trans hla.1.symm) C.2.2.2.1 (ht _ hl) (ht _ hna) (ht _ hs) (ht _ hi) C.2.2.2.2.2.1.1 hP (yW_D E w) hS k0 k1 0 0 (yW_get h0) (yW_get h1) rfl rfl rfl h.1 h.2.1 h.2.2.1 (Nat.not_lt.mp h.2.2.2.1) (Nat.not_lt.mp h.2.2.2.2) (fun _ _ => rfl) (Nat.le_trans hf C.2.2.2.2.2.2.2.1) (Nat.le_trans hlo C.2.2.2.2.2.2.2.2.1) hd (fun H1 locs1 hP1 hD1 hS1 => ?_)
    rw [yW_set (w' := sA w k1 (va_cpy (w.1 k0) (w.1 k1) sp.toNatClampNeg dp.toNatClampNeg m.toNatClampNeg)) h1 (by simp [yC, sA]) yC_sA] at hP1
    exact kk _ e r hr H1 locs1 la hP1 hS1 hla
theorem y_null (C : CC g E cc nL own nf nl) (hd : decode cc pc = .ok (.aconst_null, 1)) (hn : pc + 1 = n) (kk : YO g E nL QQ o w n ls (.null :: st)) : YO g E nL QQ o w pc ls st := by
  subst hn
  exact fun r hr H locs la hP hS hl => lv_null C.1 C.2.1 hd (kk r hr H locs la hP hS hl)
theorem y_ifnull (C : CC g E cc nL own nf nl) {x : Nat} {off : Int} (hd : decode cc pc = .ok (.ifnull off, 3)) (hn : pc + 3 = n) (kk : YO g E nL QQ o w n ls st) : YO g E nL QQ o w pc ls (.ref x :: st) := by
  subst hn
  exact fun r hr H locs la hP hS hl => lv_ifnull C.1 C.2.1 hd (kk r hr H locs la hP hS hl)
theorem y_ifnullN (C : CC g E cc nL own nf nl) {off : Int} {tgt : Nat} (hd : decode cc pc = .ok (.ifnull off, 3)) (ht : (pc : Int) + off = (tgt : Int)) (kk : YO g E nL QQ o w tgt ls st) : YO g E nL QQ o w pc ls (.null :: st) :=
  fun r hr H locs la hP hS hl => lv_ifnullN C.1 C.2.1 hd ht (kk r hr H locs la hP hS hl)
theorem y_astore_nN (C : CC g E cc nL own nf nl) {k : Fin 4} (hd : decode cc pc = .ok (.astore_n k, 1)) (hi : (k : Nat) < nL) (hq : ((k : Nat), Value.null) :: ls.filter (fun q => !(q.1 == (k : Nat)) && !(q.1 + 1 == (k : Nat) && q.2.category == 2)) = ls') (hn : pc + 1 = n) (kk : YO g E nL QQ o w n ls' st) : YO g E nL QQ o w pc ls (.null :: st) := by
  subst hn
  exact fun r hr H locs la hP hS hl => lv_astore_nN C.1 C.2.1 hd rfl hl hi hq (fun la' hl' => kk r hr H locs la' hP hS hl')
theorem y_aload_nN (C : CC g E cc nL own nf nl) {k : Fin 4} (hd : decode cc pc = .ok (.aload_n k, 1)) (q : Nat) (hq : ls[q]? = some ((k : Nat), .null)) (hn : pc + 1 = n) (kk : YO g E nL QQ o w n ls (.null :: st)) : YO g E nL QQ o w pc ls st := by
  subst hn
  exact fun r hr H locs la hP hS hl => lv_aload_nN C.1 C.2.1 hd rfl (lv_at hl q hq) (kk r hr H locs la hP hS hl)
/-! switches -/
theorem y_swIn (C : CC g E cc nL own nf nl) {dflt lo hi : Int} {offs : Array Int} {len : Nat} {x : Int32} (off : Int) {tgt : Nat} (hd : decode cc pc = .ok (.tableswitch dflt lo hi offs, len)) (h1 : ¬ x.toInt < lo) (h2 : ¬ hi < x.toInt) (ho : offs[(x.toInt - lo).toNat]? = some off) (ht : (pc : Int) + off = (tgt : Int)) (kk : YO g E nL QQ o w tgt ls st) : YO g E nL QQ o w pc ls (.int x :: st) :=
  fun r hr H locs la hP hS hl => lv_tableIn C.1 C.2.1 hd h1 h2 ho ht (kk r hr H locs la hP hS hl)
theorem y_swOut (C : CC g E cc nL own nf nl) {dflt lo hi : Int} {offs : Array Int} {len : Nat} {x : Int32} {tgt : Nat} (hd : decode cc pc = .ok (.tableswitch dflt lo hi offs, len)) (h : x.toInt < lo ∨ hi < x.toInt) (ht : (pc : Int) + dflt = (tgt : Int)) (kk : YO g E nL QQ o w tgt ls st) : YO g E nL QQ o w pc ls (.int x :: st) :=
  fun r hr H locs la hP hS hl => lv_tableOut C.1 C.2.1 hd h ht (kk r hr H locs la hP hS hl)
theorem y_if {c : Prop} {_ : Decidable c} {o1 o2 : Option ρ} (h1 : c → YO g E nL QQ o1 w pc ls st) (h2 : ¬ c → YO g E nL QQ o2 w pc ls st) : YO g E nL QQ (if c then o1 else o2) w pc ls st := by
  by_cases h : c
  · rw [if_pos h]; exact h1 h
  · rw [if_neg h]; exact h2 h
/-! longs -/
theorem y_lcmp (C : CC g E cc nL own nf nl) {x y : Int64} (hd : decode cc pc = .ok (.lcmp, 1)) (hn : pc + 1 = n) (kk : YO g E nL QQ o w n ls (.int (lg_cmp x y) :: st)) : YO g E nL QQ o w pc ls (.long y :: .long x :: st) := by
  subst hn
  exact fun r hr H locs la hP hS hl => W.lcmp C.1 C.2.1 hd (kk r hr H locs la hP hS hl)
theorem y_ladd (C : CC g E cc nL own nf nl) {x y : Int64} (hd : decode cc pc = .ok (.ladd, 1)) (hn : pc + 1 = n) (kk : YO g E nL QQ o w n ls (.long (x + y) :: st)) : YO g E nL QQ o w pc ls (.long y :: .long x :: st) := by
  subst hn
  exact fun r hr H locs la hP hS hl => lv_ladd C.1 C.2.1 hd (kk r hr H locs la hP hS hl)
theorem y_lsub (C : CC g E cc nL own nf nl) {x y : Int64} (hd : decode cc pc = .ok (.lsub, 1)) (hn : pc + 1 = n) (kk : YO g E nL QQ o w n ls (.long (x - y) :: st)) : YO g E nL QQ o w pc ls (.long y :: .long x :: st) := by
  subst hn
  exact fun r hr H locs la hP hS hl => lv_lsub C.1 C.2.1 hd (kk r hr H locs la hP hS hl)
theorem y_lushr (C : CC g E cc nL own nf nl) {x : Int64} {y : Int32} (hd : decode cc pc = .ok (.lushr, 1)) (hn : pc + 1 = n) (kk : YO g E nL QQ o w n ls (.long (x.toUInt64 >>> (y.toInt64.toUInt64 &&& Int64.toUInt64 63)).toInt64 :: st)) : YO g E nL QQ o w pc ls (.int y :: .long x :: st) := by
  subst hn
  exact fun r hr H locs la hP hS hl => lv_lushr C.1 C.2.1 hd rfl (kk r hr H locs la hP hS hl)
theorem y_iushr (C : CC g E cc nL own nf nl) {x y : Int32} (hd : decode cc pc = .ok (.iushr, 1)) (hn : pc + 1 = n) (kk : YO g E nL QQ o w n ls (.int (x.toUInt32 >>> (y.toUInt32 &&& Int32.toUInt32 31)).toInt32 :: st)) : YO g E nL QQ o w pc ls (.int y :: .int x :: st) := by
  subst hn
  exact fun r hr H locs la hP hS hl => lv_iushr C.1 C.2.1 hd rfl (kk r hr H locs la hP hS hl)
theorem y_l2i (C : CC g E cc nL own nf nl) {x : Int64} (hd : decode cc pc = .ok (.l2i, 1)) (hn : pc + 1 = n) (kk : YO g E nL QQ o w n ls (.int x.toInt32 :: st)) : YO g E nL QQ o w pc ls (.long x :: st) := by
  subst hn
  exact fun r hr H locs la hP hS hl => lv_l2i C.1 C.2.1 hd rfl (kk r hr H locs la hP hS hl)
theorem y_lload_n (C : CC g E cc nL own nf nl) {k : Fin 4} {x : Int64} (hd : decode cc pc = .ok (.lload_n k, 1)) (q : Nat) (hq : ls[q]? = some ((k : Nat), .long x)) (hn : pc + 1 = n) (kk : YO g E nL QQ o w n ls (.long x :: st)) : YO g E nL QQ o w pc ls st := by
  subst hn
  exact fun r hr H locs la hP hS hl => lv_lload_n C.1 C.2.1 hd rfl (lv_at hl q hq) (kk r hr H locs la hP hS hl)
theorem y_lstore_n (C : CC g E cc nL own nf nl) {k : Fin 4} {x : Int64} (hd : decode cc pc = .ok (.lstore_n k, 1)) (hi : (k : Nat) + 1 < nL) (hq : ((k : Nat), Value.long x) :: ls.filter (fun q => !(q.1 == (k : Nat)) && (!(q.1 == (k : Nat) + 1) && !(q.1 + 1 == (k : Nat) && q.2.category == 2))) = ls') (hn : pc + 1 = n) (kk : YO g E nL QQ o w n ls' st) : YO g E nL QQ o w pc ls (.long x :: st) := by
  subst hn
  exact fun r hr H locs la hP hS hl => lv_lstore_n C.1 C.2.1 hd rfl hl hi hq (fun la' hl' => kk r hr H locs la' hP hS hl')
theorem y_ldcw (C : CC g E cc nL own nf nl) {index : Nat} (v : Int32) (hw : Cond.constant own index v ∈ TB) (hd : decode cc pc = .ok (.ldc_w index, 3)) (hn : pc + 3 = n) (kk : YO g E nL QQ o w n ls (.int v :: st)) : YO g E nL QQ o w pc ls st := by
  subst hn
  exact fun r hr H locs la hP hS hl => lv_ldcw C.1 C.2.1 C.2.2.2.1 (C.2.2.2.2.1 _ hw) hd (kk r hr H locs la hP hS hl)
theorem y_ldc2 (C : CC g E cc nL own nf nl) {index : Nat} (v : Int64) (hw : Cond.constantLong own index v ∈ TB) (hd : decode cc pc = .ok (.ldc2_w index, 3)) (hn : pc + 3 = n) (kk : YO g E nL QQ o w n ls (.long v :: st)) : YO g E nL QQ o w pc ls st := by
  subst hn
  exact fun r hr H locs la hP hS hl => lv_ldc2 C.1 C.2.1 C.2.2.2.1 (C.2.2.2.2.1 _ hw) hd (kk r hr H locs la hP hS hl)
theorem y_lookup (C : CC g E cc nL own nf nl) {dflt : Int} {ps : Array (Int × Int)} {len : Nat} {x : Int32} (off : Int) {tgt : Nat} (hd : decode cc pc = .ok (.lookupswitch dflt ps, len)) (hp : (ps.toList.zip (ps.toList.drop 1)).all (fun (a, next) => a.1 < next.1) = true) (ho : Op.lookupswitch.offset ps.toList dflt x.toInt = off) (ht : (pc : Int) + off = (tgt : Int)) (kk : YO g E nL QQ o w tgt ls st) : YO g E nL QQ o w pc ls (.int x :: st) :=
  fun r hr H locs la hP hS hl => lv_lookup C.1 C.2.1 hd hp ho ht (kk r hr H locs la hP hS hl)
end YC
/-- out of a switch -/
theorem sw_ne {x : Int32} {k : Nat} (hk : k < 2 ^ 31) (h : ¬ x = nI k) : ¬ x.toInt = (k : Int) := fun q => h (Int32.toInt_inj.mp (q.trans (nI_toInt hk).symm))
