
def strAt (i : Nat) (j : Int32) : Option Int32 := if j < 0 then none else if j < nI (lenS.getD i 0) then rtC (((((bytS.getD i []).getD j.toNatClampNeg 0) &&& 255).toUInt32 % 65536).toInt32) else none
def yQs (E : Ex) (r : Nat) (w : Wd) : Array Value → State → Outcome → State → Prop := va_Qr (fun (_ : Unit) => True) (fun _ a t => a = E.2.2.2.2.2.2.1 r ∧ va_P E.1 vwCl (yW E w) t.heap) (yA E)
def MSs (l : Launch) (y : MethodName) (cc : ByteArray) (maxL : Nat) (rt : Option FieldType) (rm : Room) (E : Ex) (av : List Value) (w : Wd) (f : Option Nat) : Prop := ∀ r, f = some r → MZ l y cc maxL rt rm E av w (yQs E r w)
section YS
variable {ρ : Type} {g : Gx} {E : Ex} {cc : ByteArray} {nL nf nl : Nat} {own : String} {QQ : ρ → State → Prop} {o : Option ρ} {w w' : Wd} {pc n : Nat} {ls ls' : List (Nat × Value)} {st : List Value}
abbrev QS (g : Gx) (E : Ex) (w : Wd) : Nat → State → Prop := fun r => MQ g.2.2.2.2.2.2.2.1 (yQs E r w) g.2.2.2.2.2.2.1 g.2.2.2.2.1 g.2.2.2.2.2.2.2.2.2.2.1 g.2.2.2.2.2.2.2.2.2.2.2 (yA E)
theorem y_rs (C : CC g E cc nL own nf nl) {k : Nat} {c : String} (hr : RT g (some (.object c))) (hd : decode cc pc = .ok (.areturn, 1)) : YO g E nL (QS g E w) (some k) w pc ls [.ref (E.2.2.2.2.2.2.1 k)] := by
  intro r hr' H locs la hP hS hl
  cases hr'
  exact W.aret C.1 C.2.1 hr (Or.inl ⟨_, rfl⟩) (Or.inr ⟨_, rfl⟩) (fun t ht _ => ⟨⟨(), E.2.2.2.2.2.2.1 k, rfl, trivial, rfl, by subst ht; exact hP⟩, hS.F ht⟩) hS.2.2 hd C.2.2.2.2.2.2.1
theorem y_cs (C : CC g E cc nL own nf nl) {f : Option Nat} {K : Nat → Option ρ} {a : Array Value} {st0 : List Value} (hrun : ∀ r, f = some r → ∀ (H : Heap) (locs : List Loc) (la : Array Slot), va_P E.1 vwCl (yW E w) H → va_S (yA E) g.2.2.2.2.1.heap H locs → lv_has la nL ls → yRun g H locs (F0 g.2.2.2.2.2.1 pc la st0) st (yQs E r w a) (yA E)) (hn : pc + 3 = n)
    (kk : ∀ x, f = some x → x < 7 → YO g E nL QQ (K x) w n ls (.ref (E.2.2.2.2.2.2.1 x) :: st)) : YO g E nL QQ (f.bind fun x => if x < 7 then K x else none) w pc ls st0 := by
  subst hn
  intro r hr H locs la hP hS hl
  cases hf : f with
  | none => rw [hf] at hr; cases hr
  | some q =>
    rw [hf] at hr
    by_cases hq : q < 7
    · have hr : (if q < 7 then K q else none) = some r := hr
      rw [if_pos hq] at hr
      refine va_callr (hrun q hf H locs la hP hS hl) hS (fun _ _ h => h) (fun _ h => h) (fun u ra t H1 locs1 ht hvm hw hB _ _ hS1 => ?_)
      obtain ⟨rfl, hB⟩ := hB
      subst ht
      exact kk _ hf hq r hr _ locs1 la hB hS1 hl
    · have hr : (if q < 7 then K q else none) = some r := hr
      rw [if_neg hq] at hr
      cases hr
theorem y_ldcS (C : CC g E cc nL RX4 nf nl) {index : Nat} (i : Nat) (hi : i < 7) (hx : idxS.getD i 0 = index) (hd : decode cc pc = .ok (.ldc index, 2)) (hn : pc + 2 = n) (kk : YO g E nL QQ o w n ls (.ref (E.2.2.2.2.2.2.1 i) :: st)) : YO g E nL QQ o w pc ls st := by
  subst hn; subst hx
  exact fun r hr H locs la hP hS hl => va_ldcS C.1 C.2.1 C.2.2.2.1 (C.2.2.2.2.2.2.2.2.2.1.2.1 i hi) hd (kk r hr H locs la hP hS hl)
theorem y_runVK (C : CC g E cc nL own nf nl) {y : MethodName} {bytes : ByteArray} {maxL idx n0 n1 i : Nat} {rt : Option FieldType} {Qc : Array Value → State → Outcome → State → Prop} {As st0 : List Value} (ky : KYV y bytes maxL rt n) (hy : y.cls = "java/lang/String") (hl : Cond.methodLink own idx y ∈ TB) (hR : n0 + 1 ≤ nf ∧ 8 + (maxL + 11) + n1 ≤ nl) (hi : i < 7) (hM : MZ g.2.1 y bytes maxL rt { frames := n0, cells := 0, slots := 0, locals := n1 } E (.ref (E.2.2.2.2.2.2.1 i) :: As) w Qc) (hn : As.length = n) (hcat : (st.map fun v => v.category).sum ≤ 8) (hst : st0 = As.reverse ++ .ref (E.2.2.2.2.2.2.1 i) :: st) (hd : decode cc pc = .ok (.invokevirtual idx, 3))
    {H : Heap} {locs : List Loc} {la : Array Slot} (hP : va_P E.1 vwCl (yW E w) H) (hS : va_S (yA E) g.2.2.2.2.1.heap H locs) (hla : lv_has la nL ls) : yRun g H locs (F0 g.2.2.2.2.2.1 pc la st0) st (Qc (Value.ref (E.2.2.2.2.2.2.1 i) :: As).toArray) (yA E) := by
  obtain ⟨⟨k1, k2, k3⟩, k4, k5⟩ := ky
  have ht := C.2.2.2.2.1
  exact va_runV (Ts := TB) (C := "java/lang/String") ⟨C.1, C.2.1, C.2.2.1, C.2.2.2.1, ht⟩ hM ⟨callB_of n ht (yws_good k1) rfl rfl rfl (ht _ k2) (ht _ hl) k3 ⟨Nat.le_trans hR.1 C.2.2.2.2.2.2.2.1, Nat.le_trans hR.2 C.2.2.2.2.2.2.2.2.1⟩, ht _ k4, hy ▸ ht _ k5⟩ ⟨y_blind, vk_recv C.2.2.2.2.2.2.2.2.2.1.1 hi hS, y_pre C hP hS⟩ rfl hn hla.1 hst (lv_room hcat) hd (yRoom C)
/-! what the String's bytes are -/
theorem y_getCS (C : CC g E cc nL own nf nl) {index : Nat} (hl : Cond.fieldLink own index "java/lang/String" "COMPACT_STRINGS" "Z" ∈ TB) (hd : decode cc pc = .ok (.getstatic index, 3)) (hn : pc + 3 = n) (kk : YO g E nL QQ o w n ls (.int 1 :: st)) : YO g E nL QQ o w pc ls st := by
  subst hn
  exact fun r hr H locs la hP hS hla => va_gets C.1 C.2.1 C.2.2.2.2.2.2.2.2.2.1.2.2.1 hS C.2.2.2.1 (C.2.2.2.2.1 _ hl) (fun _ h => h) hd (kk r hr H locs la hP hS hla)
theorem y_getco (C : CC g E cc nL own nf nl) {index i : Nat} (hi : i < 7) (hl : Cond.fieldLink own index "java/lang/String" "coder" "B" ∈ TB) (hd : decode cc pc = .ok (.getfield index, 3)) (hn : pc + 3 = n) (kk : YO g E nL QQ o w n ls (.int 0 :: st)) : YO g E nL QQ o w pc ls (.ref (E.2.2.2.2.2.2.1 i) :: st) := by
  subst hn
  exact fun r hr H locs la hP hS hla => vk_getf C.1 C.2.1 (C.2.2.2.2.2.2.2.2.2.1.1.1 i hi).2.1 hS C.2.2.2.1 (C.2.2.2.2.1 _ hl) (fun _ h => h) hd (kk r hr H locs la hP hS hla)
theorem y_getva (C : CC g E cc nL own nf nl) {index i : Nat} (hi : i < 7) (hl : Cond.fieldLink own index "java/lang/String" "value" "[B" ∈ TB) (hd : decode cc pc = .ok (.getfield index, 3)) (hn : pc + 3 = n) (kk : YO g E nL QQ o w n ls (.ref (E.2.2.2.2.2.2.2 i) :: st)) : YO g E nL QQ o w pc ls (.ref (E.2.2.2.2.2.2.1 i) :: st) := by
  subst hn
  exact fun r hr H locs la hP hS hla => vk_getf C.1 C.2.1 (C.2.2.2.2.2.2.2.2.2.1.1.1 i hi).2.2.1 hS C.2.2.2.1 (C.2.2.2.2.1 _ hl) (fun _ h => h) hd (kk r hr H locs la hP hS hla)
theorem y_blen (C : CC g E cc nL own nf nl) {i : Nat} (hi : i < 7) (hd : decode cc pc = .ok (.arraylength, 1)) (hn : pc + 1 = n) (kk : YO g E nL QQ o w n ls (.int (nI (lenS.getD i 0)) :: st)) : YO g E nL QQ o w pc ls (.ref (E.2.2.2.2.2.2.2 i) :: st) := by
  subst hn
  exact fun r hr H locs la hP hS hla => va_tlen C.1 C.2.1 (C.2.2.2.2.2.2.2.2.2.1.1.1 i hi).2.2.2 hS rfl hd (kk r hr H locs la hP hS hla)
theorem y_bald (C : CC g E cc nL own nf nl) {i : Nat} {j : Int32} (hi : i < 7) (hj : vp_in j (lenS.getD i 0)) (hd : decode cc pc = .ok (.baload, 1)) (hn : pc + 1 = n) (kk : YO g E nL QQ o w n ls (.int ((bytS.getD i []).getD j.toNatClampNeg 0) :: st)) : YO g E nL QQ o w pc ls (.int j :: .ref (E.2.2.2.2.2.2.2 i) :: st) := by
  subst hn
  exact fun r hr H locs la hP hS hla => va_tb C.1 C.2.1 (C.2.2.2.2.2.2.2.2.2.1.1.1 i hi).2.2.2 hS hj rfl hd (kk r hr H locs la hP hS hla)
theorem y_rb (C : CC g E cc nL own nf nl) {x : Int32} {ty : FieldType} (hr : RT g (some ty)) (hnar : narrow ty (.int x) = .int x) (hd : decode cc pc = .ok (.ireturn, 1)) : YO g E nL (QP g E w) (some x) w pc ls [.int x] := by
  intro r hr' H locs la hP hS hl
  cases hr'
  exact W.zret C.1 C.2.1 hr hnar (fun t ht _ => ⟨⟨x, (), rfl, rfl, by subst ht; exact hP⟩, hS.F ht⟩) hS.2.2 hd C.2.2.2.2.2.2.1
theorem y_getSI (C : CC g E cc nL own nf nl) {index : Nat} (hl : Cond.fieldLink own index "jdk/internal/util/Preconditions" "SIOOBE_FORMATTER" "Ljava/util/function/BiFunction;" ∈ TB) (hd : decode cc pc = .ok (.getstatic index, 3)) (hn : pc + 3 = n) (kk : ∀ v : Value, (v = .null ∨ ∃ t, v = .ref t) → YO g E nL QQ o w n ls (v :: st)) : YO g E nL QQ o w pc ls st := by
  subst hn
  refine fun r hr H locs la hP hS hla => ?_
  rcases C.2.2.2.2.2.2.2.2.2.1.2.2.2 with hZ | ⟨t, hZ⟩
  · exact va_gets C.1 C.2.1 hZ hS C.2.2.2.1 (C.2.2.2.2.1 _ hl) (fun _ h => h) hd (kk .null (Or.inl rfl) r hr H locs la hP hS hla)
  · exact va_gets C.1 C.2.1 hZ hS C.2.2.2.1 (C.2.2.2.2.1 _ hl) (fun _ h => h) hd (kk (.ref t) (Or.inr ⟨t, rfl⟩) r hr H locs la hP hS hla)
end YS
theorem mJ0_coder_7d493 {E : Ex} {i : Nat} (hi : i < 7) (w : Wd) (l : Launch) : MP l yJ0_coder_7d493 cJ0_coder_7d493 1 (some .byte) { frames := 0, cells := 0, slots := 0, locals := 0 } E [.ref (E.2.2.2.2.2.2.1 i)] w (some 0) :=
  y_met (Qc := fun r => yQi E (r, w)) (by decide +kernel) (Nat.le_of_ble_eq_true rfl) (fun g C hR => by
    show YO g E 1 _ _ w 0 [(0, .ref (E.2.2.2.2.2.2.1 i))] []
    refine y_getCS (n := 3) C wd_525 dJ0_coder_7d493_0 rfl ?_
    refine y_if_eq_F (tgt := 13) (n := 6) C dJ0_coder_7d493_3 (by decide) rfl (by decide) ?_
    refine y_aload_n (n := 7) C dJ0_coder_7d493_6 0 rfl rfl ?_
    refine y_getco (n := 10) C hi wd_1083 dJ0_coder_7d493_7 rfl ?_
    refine y_goto (tgt := 14) C dJ0_coder_7d493_10 (by decide) ?_
    exact y_rb C hR (by decide) dJ0_coder_7d493_14) l
theorem mJ0_isLatin1_aae02 {E : Ex} {i : Nat} (hi : i < 7) (w : Wd) (l : Launch) : MP l yJ0_isLatin1_aae02 cJ0_isLatin1_aae02 1 (some .boolean) { frames := 0, cells := 0, slots := 0, locals := 0 } E [.ref (E.2.2.2.2.2.2.1 i)] w (some 1) :=
  y_met (Qc := fun r => yQi E (r, w)) (by decide +kernel) (Nat.le_of_ble_eq_true rfl) (fun g C hR => by
    show YO g E 1 _ _ w 0 [(0, .ref (E.2.2.2.2.2.2.1 i))] []
    refine y_getCS (n := 3) C wd_525 dJ0_isLatin1_aae02_0 rfl ?_
    refine y_if_eq_F (tgt := 17) (n := 6) C dJ0_isLatin1_aae02_3 (by decide) rfl (by decide) ?_
    refine y_aload_n (n := 7) C dJ0_isLatin1_aae02_6 0 rfl rfl ?_
    refine y_getco (n := 10) C hi wd_1083 dJ0_isLatin1_aae02_7 rfl ?_
    refine y_if_ne_F (tgt := 17) (n := 13) C dJ0_isLatin1_aae02_10 (by decide) rfl rfl ?_
    refine y_iconst (n := 14) C (1 : Int32) dJ0_isLatin1_aae02_13 (by decide) rfl ?_
    refine y_goto (tgt := 18) C dJ0_isLatin1_aae02_14 (by decide) ?_
    exact y_rb C hR (by decide) dJ0_isLatin1_aae02_18) l
theorem sh0_S : ∀ i, i < 7 → nI (lenS.getD i 0) >>> ((0 : Int32) &&& 31) = nI (lenS.getD i 0) := by decide +kernel
theorem mJ0_length_8abf5 {E : Ex} {i : Nat} (hi : i < 7) (w : Wd) (l : Launch) : MP l yJ0_length_8abf5 cJ0_length_8abf5 1 (some .int) { frames := 1, cells := 0, slots := 0, locals := 20 } E [.ref (E.2.2.2.2.2.2.1 i)] w (some (nI (lenS.getD i 0))) :=
  y_met (Qc := fun r => yQi E (r, w)) (by decide +kernel) (Nat.le_of_ble_eq_true rfl) (fun g C hR => by
    show YO g E 1 _ _ w 0 [(0, .ref (E.2.2.2.2.2.2.1 i))] []
    refine y_aload_n (n := 1) C dJ0_length_8abf5_0 0 rfl rfl ?_
    refine y_getva (n := 4) C hi wd_1082 dJ0_length_8abf5_1 rfl ?_
    refine y_blen (n := 5) C hi dJ0_length_8abf5_4 rfl ?_
    refine y_aload_n (n := 6) C dJ0_length_8abf5_5 0 rfl rfl ?_
    refine y_cp (n := 9) (f := some 0) (K := fun _ => some (nI (lenS.getD i 0))) C (fun r hr H locs la hP hS hl => y_runVK (st := [.int (nI (lenS.getD i 0))]) C ky_J0_coder_7d493 rfl wd_521 ⟨Nat.le_of_ble_eq_true rfl, Nat.le_of_ble_eq_true rfl⟩ hi (mJ0_coder_7d493 hi w g.2.1 r hr) rfl (Nat.le_of_ble_eq_true rfl) rfl dJ0_length_8abf5_6 hP hS hl) rfl (fun x hx => ?_)
    cases hx
    refine y_ishr (n := 10) C dJ0_length_8abf5_9 rfl ?_
    rw [sh0_S i hi]
    exact y_rp C hR dJ0_length_8abf5_10) l
theorem mJ3_checkIndex_8e157 {E : Ex} {v : Value} (hv : v = .null ∨ ∃ t, v = .ref t) (w : Wd) (a b : Int32) (l : Launch) : MP l yJ3_checkIndex_8e157 cJ3_checkIndex_8e157 3 (some .int) { frames := 0, cells := 0, slots := 0, locals := 0 } E [.int a, .int b, v] w (if a < 0 then none else if a < b then some a else none) := by
  have key : ∀ g : Gx, CC g E cJ3_checkIndex_8e157 3 RJ3 0 0 → RT g (some .int) → YO g E 3 (QP g E w) (if a < 0 then none else if a < b then some a else none) w 0 [(0, .int a), (1, .int b), (2, v)] [] := by
    intro g C hR
    refine y_iload_n (n := 1) C dJ3_checkIndex_8e157_0 0 rfl rfl ?_
    refine y_if_lt (tgt := 9) (n := 4) C dJ3_checkIndex_8e157_1 (by decide) rfl (fun h1 => ?_) (fun h1 => ?_)
    · exact y_no
    · refine y_iload_n (n := 5) C dJ3_checkIndex_8e157_4 0 rfl rfl ?_
      refine y_iload_n (n := 6) C dJ3_checkIndex_8e157_5 1 rfl rfl ?_
      refine y_icmp_lt (tgt := 16) (n := 9) C dJ3_checkIndex_8e157_6 (by decide) rfl (fun h2 => ?_) (fun h2 => ?_)
      · refine y_iload_n (n := 17) C dJ3_checkIndex_8e157_16 0 rfl rfl ?_
        exact y_rp C hR dJ3_checkIndex_8e157_17
      · exact y_no
  rcases hv with rfl | ⟨t, rfl⟩
  · exact y_met (Qc := fun r => yQi E (r, w)) (by decide +kernel) (Nat.le_of_ble_eq_true rfl) key l
  · exact y_met (Qc := fun r => yQi E (r, w)) (by decide +kernel) (Nat.le_of_ble_eq_true rfl) key l
theorem mJ0_checkIndex_df160 {E : Ex} (w : Wd) (a b : Int32) (l : Launch) : MV l yJ0_checkIndex_df160 cJ0_checkIndex_df160 2 none { frames := 1, cells := 0, slots := 0, locals := 22 } E [.int a, .int b] w (if a < 0 then none else if a < b then some w else none) :=
  y_met (Qc := yQv E) (by decide +kernel) (Nat.le_of_ble_eq_true rfl) (fun g C hR => by
    show YO g E 2 _ _ w 0 [(0, .int a), (1, .int b)] []
    refine y_iload_n (n := 1) C dJ0_checkIndex_df160_0 0 rfl rfl ?_
    refine y_iload_n (n := 2) C dJ0_checkIndex_df160_1 1 rfl rfl ?_
    refine y_getSI (n := 5) C wd_541 dJ0_checkIndex_df160_2 rfl (fun v hv => ?_)
    have e : (if a < 0 then none else if a < b then some w else none) = (if a < 0 then none else if a < b then some a else none : Option Int32).bind fun _ => some w := by
      by_cases h1 : a < 0
      · rw [if_pos h1, if_pos h1]; rfl
      · rw [if_neg h1, if_neg h1]
        by_cases h2 : a < b
        · rw [if_pos h2, if_pos h2]; rfl
        · rw [if_neg h2, if_neg h2]; rfl
    rw [e]
    refine y_cp (n := 8) C (fun r hr H locs la hP hS hl => y_runS (st := []) C ky_J3_checkIndex_8e157 wd_543 ⟨Nat.le_of_ble_eq_true rfl, Nat.le_of_ble_eq_true rfl⟩ (mJ3_checkIndex_8e157 hv w a b g.2.1 r hr) rfl (Nat.le_of_ble_eq_true rfl) rfl dJ0_checkIndex_df160_5 hP hS hl) rfl (fun x hx => ?_)
    refine y_pop (n := 9) C dJ0_checkIndex_df160_8 rfl rfl ?_
    exact y_rv C hR dJ0_checkIndex_df160_9) l
theorem len_S : ∀ i, i < 7 → lenS.getD i 0 < 2 ^ 31 := by decide +kernel
theorem mJ1_charAt_3b067 {E : Ex} {i : Nat} (hi : i < 7) (w : Wd) (j : Int32) (l : Launch) : MP l yJ1_charAt_3b067 cJ1_charAt_3b067 2 (some .char) { frames := 2, cells := 0, slots := 0, locals := 43 } E [.ref (E.2.2.2.2.2.2.2 i), .int j] w (strAt i j) :=
  y_met (Qc := fun r => yQi E (r, w)) (by decide +kernel) (Nat.le_of_ble_eq_true rfl) (fun g C hR => by
    show YO g E 2 _ _ w 0 [(0, .ref (E.2.2.2.2.2.2.2 i)), (1, .int j)] []
    refine y_iload_n (n := 1) C dJ1_charAt_3b067_0 1 rfl rfl ?_
    refine y_aload_n (n := 2) C dJ1_charAt_3b067_1 0 rfl rfl ?_
    refine y_blen (n := 3) C hi dJ1_charAt_3b067_2 rfl ?_
    have e : strAt i j = (if j < 0 then none else if j < nI (lenS.getD i 0) then some w else none : Option Wd).bind fun _ => strAt i j := by
      unfold strAt
      by_cases h1 : j < 0
      · rw [if_pos h1, if_pos h1]; rfl
      · rw [if_neg h1, if_neg h1]
        by_cases h2 : j < nI (lenS.getD i 0)
        · rw [if_pos h2, if_pos h2]; rfl
        · rw [if_neg h2, if_neg h2]; rfl
    rw [e]
    refine y_cv (n := 6) C (fun r hr H locs la hP hS hl => y_runS (st := []) C ky_J0_checkIndex_df160 wd_538 ⟨Nat.le_of_ble_eq_true rfl, Nat.le_of_ble_eq_true rfl⟩ (mJ0_checkIndex_df160 w j (nI (lenS.getD i 0)) g.2.1 r hr) rfl (Nat.le_of_ble_eq_true rfl) rfl dJ1_charAt_3b067_3 hP hS hl) rfl (fun w1 hw => ?_)
    have hin : ¬ j < 0 ∧ j < nI (lenS.getD i 0) ∧ w1 = w := by
      by_cases h1 : j < 0
      · rw [if_pos h1] at hw; cases hw
      · rw [if_neg h1] at hw
        by_cases h2 : j < nI (lenS.getD i 0)
        · rw [if_pos h2] at hw; cases hw; exact ⟨h1, h2, rfl⟩
        · rw [if_neg h2] at hw; cases hw
    obtain ⟨h1, h2, rfl⟩ := hin
    have hj : vp_in j (lenS.getD i 0) := by
      rw [vp_in_iff]
      have a1 := Int32.not_lt.mp h1
      rw [Int32.le_iff_toInt_le, Int32.toInt_zero] at a1
      rw [Int32.lt_iff_toInt_lt, nI_toInt (len_S i hi)] at h2
      exact ⟨a1, h2⟩
    refine y_aload_n (n := 7) C dJ1_charAt_3b067_6 0 rfl rfl ?_
    refine y_iload_n (n := 8) C dJ1_charAt_3b067_7 1 rfl rfl ?_
    refine y_bald (n := 9) C hi hj dJ1_charAt_3b067_8 rfl ?_
    refine y_sipush (n := 12) C (255 : Int32) dJ1_charAt_3b067_9 (by decide) rfl ?_
    refine y_iand (n := 13) C dJ1_charAt_3b067_12 rfl ?_
    refine y_i2c (n := 14) C dJ1_charAt_3b067_13 rfl ?_
    unfold strAt
    rw [if_neg h1, if_pos h2]
    exact y_rc C hR dJ1_charAt_3b067_14) l
theorem mJ0_charAt_5068e {E : Ex} {i : Nat} (hi : i < 7) (w : Wd) (j : Int32) (l : Launch) : MP l yJ0_charAt_5068e cJ0_charAt_5068e 2 (some .char) { frames := 3, cells := 0, slots := 0, locals := 64 } E [.ref (E.2.2.2.2.2.2.1 i), .int j] w ((strAt i j).bind rtC) :=
  y_met (Qc := fun r => yQi E (r, w)) (by decide +kernel) (Nat.le_of_ble_eq_true rfl) (fun g C hR => by
    show YO g E 2 _ _ w 0 [(0, .ref (E.2.2.2.2.2.2.1 i)), (1, .int j)] []
    refine y_aload_n (n := 1) C dJ0_charAt_5068e_0 0 rfl rfl ?_
    refine y_cp (n := 4) (f := some 1) (K := fun _ => (strAt i j).bind rtC) C (fun r hr H locs la hP hS hl => y_runVK (st := []) C ky_J0_isLatin1_aae02 rfl wd_531 ⟨Nat.le_of_ble_eq_true rfl, Nat.le_of_ble_eq_true rfl⟩ hi (mJ0_isLatin1_aae02 hi w g.2.1 r hr) rfl (Nat.le_of_ble_eq_true rfl) rfl dJ0_charAt_5068e_1 hP hS hl) rfl (fun x hx => ?_)
    cases hx
    refine y_if_eq_F (tgt := 16) (n := 7) C dJ0_charAt_5068e_4 (by decide) rfl (by decide) ?_
    refine y_aload_n (n := 8) C dJ0_charAt_5068e_7 0 rfl rfl ?_
    refine y_getva (n := 11) C hi wd_1082 dJ0_charAt_5068e_8 rfl ?_
    refine y_iload_n (n := 12) C dJ0_charAt_5068e_11 1 rfl rfl ?_
    refine y_cp (n := 15) C (fun r hr H locs la hP hS hl => y_runS (st := []) C ky_J1_charAt_3b067 wd_535 ⟨Nat.le_of_ble_eq_true rfl, Nat.le_of_ble_eq_true rfl⟩ (mJ1_charAt_3b067 hi w j g.2.1 r hr) rfl (Nat.le_of_ble_eq_true rfl) rfl dJ0_charAt_5068e_12 hP hS hl) rfl (fun x hx => ?_)
    exact y_rc C hR dJ0_charAt_5068e_15) l
