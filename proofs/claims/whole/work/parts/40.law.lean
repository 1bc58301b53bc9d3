/-! THE CLAIM OUT OF ONE WALK OF THE LAW'S BODY. Your part is whole_start (and what it stands on); all else here is the same for every law, but numbers. -/
def R_law : String := "BribedClerksLaw"
def lw_P (b : Addr) (xs : List Int32) (args : Array Value) (s : State) : Prop := args = #[.ref b] ∧ s.IntsAt b xs ∧ xs.length ≤ 2048 ∧ (Jvm.Cond.and given_1 narrow_1).before args s = true
def lw_Q (_ : Array Value) (s : State) (o : Outcome) (t : State) : Prop := o = .returned (some (.int 1)) ∧ Framed s o t [] 600000 7302250
def lw_Z (below : List Frame) (a : Array Value) (s : State) : State → Prop := fun t => ∃ o, t.status = .running ∧ Ended t below o ∧ lw_Q a s o t
/-- the law's own end, with 1 on the stack, nothing written that was there before, its room as the claim has it -/
theorem lw_ret {p : Program} {l : Launch} {e : Env} {s : State} {m : MethodId} {below : List Frame} {meth : Method} {c : Code} {b : Nat} (hx : p.tables.exec = Jvm.exec) (hb : c.code = code) (hr : meth.sig.returnType = ret) (hlocks : meth.locks = false) {pc : Nat} {H : Heap} {ls : Array Slot} (hdg : decode code pc = .ok (.ireturn, 1)) : W p l e room_1 s m #[Value.ref b] below meth c H [] 600000 7302250 (lw_Z below #[Value.ref b] s) (F0 m pc ls [.int 1]) := by
  intro T hT X
  obtain ⟨fs, hret, hrun, hended, hW, hframe⟩ := X.leave (v := some (.int 1)) (hlocks := hlocks) (fun h => by rw [hr] at h; cases h)
  have hmeth' : T.vm.method? m = some meth := X.method'
  refine ⟨T.setFrames fs, ?_, .returned (some (.int 1)), hrun, hended, rfl, ⟨_, rfl⟩, hW, hframe⟩
  jvm_step X.here [X.here.top, hx, hb, hdg, hmeth', hr, ret, narrow_b1]
  (try refine ⟨rfl, ?_⟩); (try refine ⟨rfl, ?_⟩)
  first | (intro acts; rw [hret _ acts rfl rfl rfl]) | rw [hret _ _ rfl rfl rfl]
  exact Steps.refl _
/-- what holds at the law's entry: the machine, the code, the tables' words (any of lw_tbl by 'hts w (by decide +kernel)'), the script of L ints xs at the cell b, what the Statement gives of the start (any of its parts by flat_of_before) -/
def lw_At (p : Program) (s : State) (m : MethodId) (meth : Method) (c : Code) (b L : Nat) (xs : Nat → Int32) : Prop :=
  p.tables.exec = Jvm.exec ∧ c.code = code ∧ meth.sig.returnType = ret ∧ c.maxLocals = 4 ∧ s.vm.findClass R_law = some m.cls ∧ (∀ w ∈ lw_tbl, w.before #[Value.ref b] s = true) ∧ va_X b L xs s s.heap ∧ b < s.heap.size ∧ meth.locks = false ∧ (Jvm.Cond.and given_1 narrow_1).before #[Value.ref b] s = true
theorem W_imp {p : Program} {l : Launch} {e : Env} {R : Room} {s : State} {m : MethodId} {args : Array Value} {below : List Frame} {meth : Method} {c : Code} {H : Heap} {locs : List Loc} {cells slots : Nat} {Q Q' : State → Prop} {g : JFrame} (h : ∀ t, Q t → Q' t) (k : W p l e R s m args below meth c H locs cells slots Q g) : W p l e R s m args below meth c H locs cells slots Q' g := fun T hT X => by
  obtain ⟨t, a, b⟩ := k T hT X
  exact ⟨t, a, h t b⟩

/-! THE LAW: rows for the script, and the end -/
def ldX (L : Nat) (xs : Nat → Int32) (i : Int32) : Option Int32 := if i < 0 ∨ L ≤ i.toNatClampNeg then none else some (xs i.toNatClampNeg)
def SX (g : Gx) (E : Ex) (b L : Nat) (xs : Nat → Int32) : Prop := va_X b L xs g.2.2.2.2.1 g.2.2.2.2.1.heap ∧ b < g.2.2.2.2.1.heap.size ∧ E.2.2.2.2.1 = g.2.2.2.2.1.heap.size
def SL (g : Gx) (E : Ex) (b : Nat) : Prop := g.2.2.2.1 = room_1 ∧ g.2.2.2.2.2.2.1 = #[Value.ref b] ∧ E.2.2.2.2.1 = g.2.2.2.2.1.heap.size
def QL (g : Gx) (b : Nat) : Int32 → State → Prop := fun r t => r = 1 → lw_Z g.2.2.2.2.2.2.2.1 #[Value.ref b] g.2.2.2.2.1 t
section YL
variable {ρ : Type} {g : Gx} {E : Ex} {cc : ByteArray} {nL nf nl b L : Nat} {xs : Nat → Int32} {own : String} {QQ : ρ → State → Prop} {o : Option ρ} {w w' : Wd} {pc n : Nat} {ls ls' : List (Nat × Value)} {st : List Value}
theorem y_sld (C : CC g E cc nL own nf nl) (HX : SX g E b L xs) {i : Int32} {K : Int32 → Option ρ} (hd : decode cc pc = .ok (.iaload, 1)) (hn : pc + 1 = n) (kk : ∀ x, ldX L xs i = some x → YO g E nL QQ (K x) w n ls (.int x :: st)) : YO g E nL QQ ((ldX L xs i).bind K) w pc ls (.int i :: .ref b :: st) := by
  subst hn
  by_cases h : i < 0 ∨ L ≤ i.toNatClampNeg
  · rw [ldX, if_pos h]; exact y_no
  · have e : ldX L xs i = some (xs i.toNatClampNeg) := by rw [ldX, if_neg h]
    rw [e]
    have hbA : ¬ yA E b := by
      intro z
      have z : E.2.2.2.2.1 ≤ b := z
      have := HX.2.1
      have := HX.2.2
      omega
    exact fun r hr H locs la hP hS hl => va_sld C.1 C.2.1 HX.1 HX.2.1 hbA hS h hd (kk _ e r hr H locs la hP hS hl)
theorem y_slen (C : CC g E cc nL own nf nl) (HX : SX g E b L xs) (hd : decode cc pc = .ok (.arraylength, 1)) (hn : pc + 1 = n) (kk : YO g E nL QQ o w n ls (.int (nI L) :: st)) : YO g E nL QQ o w pc ls (.ref b :: st) := by
  subst hn
  have hbA : ¬ yA E b := by
    intro z
    have z : E.2.2.2.2.1 ≤ b := z
    have := HX.2.1
    have := HX.2.2
    omega
  exact fun r hr H locs la hP hS hl => va_slen C.1 C.2.1 HX.1 HX.2.1 hbA hS hd (kk r hr H locs la hP hS hl)
theorem y_rl (C : CC g E code nL own nf nl) (HL : SL g E b) (hR : RT g ret) {x : Int32} (hd : decode code pc = .ok (.ireturn, 1)) : YO g E nL (QL g b) (some x) w pc ls [.int x] := by
  intro r hr H locs la hP hS hl
  cases hr
  by_cases hx : x = 1
  · subst hx
    obtain ⟨p, l, e, R, s, m, args, below, meth, c, cs, sl⟩ := g
    obtain ⟨h1, h2, h3⟩ := HL
    dsimp only at h1 h2 h3
    subst h1; subst h2
    have hc := C.2.2.2.2.2.2.2.2.2.2
    refine W_imp (fun t ht _ => ht) ?_
    refine va_forget (fun q hq => by rw [← h3]; exact hS.2.2 q hq) ?_
    refine W.widen (k := 600000) (n := 7302250) hc.1 hc.2 ?_
    exact lw_ret C.1 C.2.1 hR C.2.2.2.2.2.2.1 hd
  · exact fun T hT X => ⟨_, Steps.refl _, fun z => absurd z hx⟩
end YL
theorem wd_210 : Cond.methodLink RL 13 yX5_add ∈ TB := TB_m 210 (by decide +kernel) (by decide +kernel)
theorem wd_788 : Cond.methodLink RL 17 yX6_add ∈ TB := TB_m 788 (by decide +kernel) (by decide +kernel)
theorem wd_290 : Cond.methodLink RL 18 yX5_drop ∈ TB := TB_m 290 (by decide +kernel) (by decide +kernel)
theorem wd_810 : Cond.methodLink RL 22 yX6_drop ∈ TB := TB_m 810 (by decide +kernel) (by decide +kernel)
theorem wd_295 : Cond.methodLink RL 23 yX5_delete ∈ TB := TB_m 295 (by decide +kernel) (by decide +kernel)
theorem wd_814 : Cond.methodLink RL 27 yX6_delete ∈ TB := TB_m 814 (by decide +kernel) (by decide +kernel)
theorem wd_320 : Cond.methodLink RL 28 yX5_bring ∈ TB := TB_m 320 (by decide +kernel) (by decide +kernel)
theorem wd_829 : Cond.methodLink RL 31 yX6_bring ∈ TB := TB_m 829 (by decide +kernel) (by decide +kernel)
theorem wd_324 : Cond.methodLink RL 32 yX5_weight ∈ TB := TB_m 324 (by decide +kernel) (by decide +kernel)
theorem wd_833 : Cond.methodLink RL 35 yX6_weight ∈ TB := TB_m 833 (by decide +kernel) (by decide +kernel)
theorem wd_334 : Cond.methodLink RL 36 yX5_want ∈ TB := TB_m 334 (by decide +kernel) (by decide +kernel)
theorem wd_845 : Cond.methodLink RL 39 yX6_want ∈ TB := TB_m 845 (by decide +kernel) (by decide +kernel)
theorem wd_338 : Cond.methodLink RL 40 yX5_bribe ∈ TB := TB_m 338 (by decide +kernel) (by decide +kernel)
theorem wd_841 : Cond.methodLink RL 43 yX6_bribe ∈ TB := TB_m 841 (by decide +kernel) (by decide +kernel)
theorem wd_345 : Cond.code yX5_begin cX5_begin 3 (some .int) ∈ TB := TB_m 345 (by decide +kernel) (by decide +kernel)
theorem wd_343 : Cond.instanceMethod yX5_begin ∈ TB := TB_m 343 (by decide +kernel) (by decide +kernel)
theorem wd_344 : Cond.selects yX5_begin.cls yX5_begin yX5_begin ∈ TB := TB_m 344 (by decide +kernel) (by decide +kernel)
theorem ky_X5_begin : KYV yX5_begin cX5_begin 3 (some .int) 2 := ⟨⟨wd_345, wd_1, by decide +kernel⟩, wd_343, wd_344⟩
theorem wd_342 : Cond.methodLink RL 44 yX5_begin ∈ TB := TB_m 342 (by decide +kernel) (by decide +kernel)
theorem wd_884 : Cond.code yX6_begin cX6_begin 3 (some .int) ∈ TB := TB_m 884 (by decide +kernel) (by decide +kernel)
theorem wd_882 : Cond.instanceMethod yX6_begin ∈ TB := TB_m 882 (by decide +kernel) (by decide +kernel)
theorem wd_883 : Cond.selects yX6_begin.cls yX6_begin yX6_begin ∈ TB := TB_m 883 (by decide +kernel) (by decide +kernel)
theorem ky_X6_begin : KYV yX6_begin cX6_begin 3 (some .int) 2 := ⟨⟨wd_884, wd_7, by decide +kernel⟩, wd_882, wd_883⟩
theorem wd_881 : Cond.methodLink RL 48 yX6_begin ∈ TB := TB_m 881 (by decide +kernel) (by decide +kernel)
theorem wd_408 : Cond.code yX5_step cX5_step 4 (some .int) ∈ TB := TB_m 408 (by decide +kernel) (by decide +kernel)
theorem wd_406 : Cond.instanceMethod yX5_step ∈ TB := TB_m 406 (by decide +kernel) (by decide +kernel)
theorem wd_407 : Cond.selects yX5_step.cls yX5_step yX5_step ∈ TB := TB_m 407 (by decide +kernel) (by decide +kernel)
theorem ky_X5_step : KYV yX5_step cX5_step 4 (some .int) 1 := ⟨⟨wd_408, wd_1, by decide +kernel⟩, wd_406, wd_407⟩
theorem wd_405 : Cond.methodLink RL 49 yX5_step ∈ TB := TB_m 405 (by decide +kernel) (by decide +kernel)
theorem wd_956 : Cond.code yX6_step cX6_step 3 (some .int) ∈ TB := TB_m 956 (by decide +kernel) (by decide +kernel)
theorem wd_954 : Cond.instanceMethod yX6_step ∈ TB := TB_m 954 (by decide +kernel) (by decide +kernel)
theorem wd_955 : Cond.selects yX6_step.cls yX6_step yX6_step ∈ TB := TB_m 955 (by decide +kernel) (by decide +kernel)
theorem ky_X6_step : KYV yX6_step cX6_step 3 (some .int) 1 := ⟨⟨wd_956, wd_7, by decide +kernel⟩, wd_954, wd_955⟩
theorem wd_953 : Cond.methodLink RL 52 yX6_step ∈ TB := TB_m 953 (by decide +kernel) (by decide +kernel)
theorem wd_465 : Cond.code yX5_end cX5_end 1 (some .int) ∈ TB := TB_m 465 (by decide +kernel) (by decide +kernel)
theorem wd_463 : Cond.instanceMethod yX5_end ∈ TB := TB_m 463 (by decide +kernel) (by decide +kernel)
theorem wd_464 : Cond.selects yX5_end.cls yX5_end yX5_end ∈ TB := TB_m 464 (by decide +kernel) (by decide +kernel)
theorem ky_X5_end : KYV yX5_end cX5_end 1 (some .int) 0 := ⟨⟨wd_465, wd_1, by decide +kernel⟩, wd_463, wd_464⟩
theorem wd_462 : Cond.methodLink RL 53 yX5_end ∈ TB := TB_m 462 (by decide +kernel) (by decide +kernel)
theorem wd_976 : Cond.code yX6_end cX6_end 2 (some .int) ∈ TB := TB_m 976 (by decide +kernel) (by decide +kernel)
theorem wd_974 : Cond.instanceMethod yX6_end ∈ TB := TB_m 974 (by decide +kernel) (by decide +kernel)
theorem wd_975 : Cond.selects yX6_end.cls yX6_end yX6_end ∈ TB := TB_m 975 (by decide +kernel) (by decide +kernel)
theorem ky_X6_end : KYV yX6_end cX6_end 2 (some .int) 0 := ⟨⟨wd_976, wd_7, by decide +kernel⟩, wd_974, wd_975⟩
theorem wd_973 : Cond.methodLink RL 57 yX6_end ∈ TB := TB_m 973 (by decide +kernel) (by decide +kernel)
theorem wd_474 : Cond.code yX5_type cX5_type 2 (some .int) ∈ TB := TB_m 474 (by decide +kernel) (by decide +kernel)
theorem wd_472 : Cond.instanceMethod yX5_type ∈ TB := TB_m 472 (by decide +kernel) (by decide +kernel)
theorem wd_473 : Cond.selects yX5_type.cls yX5_type yX5_type ∈ TB := TB_m 473 (by decide +kernel) (by decide +kernel)
theorem ky_X5_type : KYV yX5_type cX5_type 2 (some .int) 1 := ⟨⟨wd_474, wd_1, by decide +kernel⟩, wd_472, wd_473⟩
theorem wd_471 : Cond.methodLink RL 58 yX5_type ∈ TB := TB_m 471 (by decide +kernel) (by decide +kernel)
theorem wd_1040 : Cond.code yX6_type cX6_type 2 (some .int) ∈ TB := TB_m 1040 (by decide +kernel) (by decide +kernel)
theorem wd_1038 : Cond.instanceMethod yX6_type ∈ TB := TB_m 1038 (by decide +kernel) (by decide +kernel)
theorem wd_1039 : Cond.selects yX6_type.cls yX6_type yX6_type ∈ TB := TB_m 1039 (by decide +kernel) (by decide +kernel)
theorem ky_X6_type : KYV yX6_type cX6_type 2 (some .int) 1 := ⟨⟨wd_1040, wd_7, by decide +kernel⟩, wd_1038, wd_1039⟩
theorem wd_1037 : Cond.methodLink RL 62 yX6_type ∈ TB := TB_m 1037 (by decide +kernel) (by decide +kernel)
theorem wd_482 : Cond.code yX5_clearText cX5_clearText 2 (some .int) ∈ TB := TB_m 482 (by decide +kernel) (by decide +kernel)
theorem wd_480 : Cond.instanceMethod yX5_clearText ∈ TB := TB_m 480 (by decide +kernel) (by decide +kernel)
theorem wd_481 : Cond.selects yX5_clearText.cls yX5_clearText yX5_clearText ∈ TB := TB_m 481 (by decide +kernel) (by decide +kernel)
theorem ky_X5_clearText : KYV yX5_clearText cX5_clearText 2 (some .int) 0 := ⟨⟨wd_482, wd_1, by decide +kernel⟩, wd_480, wd_481⟩
theorem wd_479 : Cond.methodLink RL 63 yX5_clearText ∈ TB := TB_m 479 (by decide +kernel) (by decide +kernel)
theorem wd_1044 : Cond.code yX6_clearText cX6_clearText 2 (some .int) ∈ TB := TB_m 1044 (by decide +kernel) (by decide +kernel)
theorem wd_1042 : Cond.instanceMethod yX6_clearText ∈ TB := TB_m 1042 (by decide +kernel) (by decide +kernel)
theorem wd_1043 : Cond.selects yX6_clearText.cls yX6_clearText yX6_clearText ∈ TB := TB_m 1043 (by decide +kernel) (by decide +kernel)
theorem ky_X6_clearText : KYV yX6_clearText cX6_clearText 2 (some .int) 0 := ⟨⟨wd_1044, wd_7, by decide +kernel⟩, wd_1042, wd_1043⟩
theorem wd_1041 : Cond.methodLink RL 66 yX6_clearText ∈ TB := TB_m 1041 (by decide +kernel) (by decide +kernel)
theorem wd_486 : Cond.code yX5_perform cX5_perform 5 (some .int) ∈ TB := TB_m 486 (by decide +kernel) (by decide +kernel)
theorem wd_484 : Cond.instanceMethod yX5_perform ∈ TB := TB_m 484 (by decide +kernel) (by decide +kernel)
theorem wd_485 : Cond.selects yX5_perform.cls yX5_perform yX5_perform ∈ TB := TB_m 485 (by decide +kernel) (by decide +kernel)
theorem ky_X5_perform : KYV yX5_perform cX5_perform 5 (some .int) 0 := ⟨⟨wd_486, wd_1, by decide +kernel⟩, wd_484, wd_485⟩
theorem wd_483 : Cond.methodLink RL 67 yX5_perform ∈ TB := TB_m 483 (by decide +kernel) (by decide +kernel)
theorem wd_1048 : Cond.code yX6_perform cX6_perform 5 (some .int) ∈ TB := TB_m 1048 (by decide +kernel) (by decide +kernel)
theorem wd_1046 : Cond.instanceMethod yX6_perform ∈ TB := TB_m 1046 (by decide +kernel) (by decide +kernel)
theorem wd_1047 : Cond.selects yX6_perform.cls yX6_perform yX6_perform ∈ TB := TB_m 1047 (by decide +kernel) (by decide +kernel)
theorem ky_X6_perform : KYV yX6_perform cX6_perform 5 (some .int) 0 := ⟨⟨wd_1048, wd_7, by decide +kernel⟩, wd_1046, wd_1047⟩
theorem wd_1045 : Cond.methodLink RL 70 yX6_perform ∈ TB := TB_m 1045 (by decide +kernel) (by decide +kernel)
theorem wd_591 : Cond.code yX5_undo cX5_undo 1 (some .int) ∈ TB := TB_m 591 (by decide +kernel) (by decide +kernel)
theorem wd_589 : Cond.instanceMethod yX5_undo ∈ TB := TB_m 589 (by decide +kernel) (by decide +kernel)
theorem wd_590 : Cond.selects yX5_undo.cls yX5_undo yX5_undo ∈ TB := TB_m 590 (by decide +kernel) (by decide +kernel)
theorem ky_X5_undo : KYV yX5_undo cX5_undo 1 (some .int) 0 := ⟨⟨wd_591, wd_1, by decide +kernel⟩, wd_589, wd_590⟩
theorem wd_588 : Cond.methodLink RL 71 yX5_undo ∈ TB := TB_m 588 (by decide +kernel) (by decide +kernel)
theorem wd_771 : Cond.code yX6_undo cX6_undo 2 (some .int) ∈ TB := TB_m 771 (by decide +kernel) (by decide +kernel)
theorem wd_769 : Cond.instanceMethod yX6_undo ∈ TB := TB_m 769 (by decide +kernel) (by decide +kernel)
theorem wd_770 : Cond.selects yX6_undo.cls yX6_undo yX6_undo ∈ TB := TB_m 770 (by decide +kernel) (by decide +kernel)
theorem ky_X6_undo : KYV yX6_undo cX6_undo 2 (some .int) 0 := ⟨⟨wd_771, wd_7, by decide +kernel⟩, wd_769, wd_770⟩
theorem wd_768 : Cond.methodLink RL 74 yX6_undo ∈ TB := TB_m 768 (by decide +kernel) (by decide +kernel)
theorem wd_599 : Cond.code yX5_keep cX5_keep 1 (some .int) ∈ TB := TB_m 599 (by decide +kernel) (by decide +kernel)
theorem wd_597 : Cond.instanceMethod yX5_keep ∈ TB := TB_m 597 (by decide +kernel) (by decide +kernel)
theorem wd_598 : Cond.selects yX5_keep.cls yX5_keep yX5_keep ∈ TB := TB_m 598 (by decide +kernel) (by decide +kernel)
theorem ky_X5_keep : KYV yX5_keep cX5_keep 1 (some .int) 0 := ⟨⟨wd_599, wd_1, by decide +kernel⟩, wd_597, wd_598⟩
theorem wd_596 : Cond.methodLink RL 75 yX5_keep ∈ TB := TB_m 596 (by decide +kernel) (by decide +kernel)
theorem wd_775 : Cond.code yX6_keep cX6_keep 2 (some .int) ∈ TB := TB_m 775 (by decide +kernel) (by decide +kernel)
theorem wd_773 : Cond.instanceMethod yX6_keep ∈ TB := TB_m 773 (by decide +kernel) (by decide +kernel)
theorem wd_774 : Cond.selects yX6_keep.cls yX6_keep yX6_keep ∈ TB := TB_m 774 (by decide +kernel) (by decide +kernel)
theorem ky_X6_keep : KYV yX6_keep cX6_keep 2 (some .int) 0 := ⟨⟨wd_775, wd_7, by decide +kernel⟩, wd_773, wd_774⟩
theorem wd_772 : Cond.methodLink RL 78 yX6_keep ∈ TB := TB_m 772 (by decide +kernel) (by decide +kernel)
theorem wd_608 : Cond.code yX5_restore cX5_restore 1 (some .int) ∈ TB := TB_m 608 (by decide +kernel) (by decide +kernel)
theorem wd_606 : Cond.instanceMethod yX5_restore ∈ TB := TB_m 606 (by decide +kernel) (by decide +kernel)
theorem wd_607 : Cond.selects yX5_restore.cls yX5_restore yX5_restore ∈ TB := TB_m 607 (by decide +kernel) (by decide +kernel)
theorem ky_X5_restore : KYV yX5_restore cX5_restore 1 (some .int) 0 := ⟨⟨wd_608, wd_1, by decide +kernel⟩, wd_606, wd_607⟩
theorem wd_605 : Cond.methodLink RL 79 yX5_restore ∈ TB := TB_m 605 (by decide +kernel) (by decide +kernel)
theorem wd_783 : Cond.code yX6_restore cX6_restore 2 (some .int) ∈ TB := TB_m 783 (by decide +kernel) (by decide +kernel)
theorem wd_781 : Cond.instanceMethod yX6_restore ∈ TB := TB_m 781 (by decide +kernel) (by decide +kernel)
theorem wd_782 : Cond.selects yX6_restore.cls yX6_restore yX6_restore ∈ TB := TB_m 782 (by decide +kernel) (by decide +kernel)
theorem ky_X6_restore : KYV yX6_restore cX6_restore 2 (some .int) 0 := ⟨⟨wd_783, wd_7, by decide +kernel⟩, wd_781, wd_782⟩
theorem wd_780 : Cond.methodLink RL 82 yX6_restore ∈ TB := TB_m 780 (by decide +kernel) (by decide +kernel)
theorem wd_612 : Cond.code yX5_list cX5_list 3 (some .int) ∈ TB := TB_m 612 (by decide +kernel) (by decide +kernel)
theorem wd_610 : Cond.instanceMethod yX5_list ∈ TB := TB_m 610 (by decide +kernel) (by decide +kernel)
theorem wd_611 : Cond.selects yX5_list.cls yX5_list yX5_list ∈ TB := TB_m 611 (by decide +kernel) (by decide +kernel)
theorem ky_X5_list : KYV yX5_list cX5_list 3 (some .int) 2 := ⟨⟨wd_612, wd_1, by decide +kernel⟩, wd_610, wd_611⟩
theorem wd_609 : Cond.methodLink RL 83 yX5_list ∈ TB := TB_m 609 (by decide +kernel) (by decide +kernel)
theorem wd_876 : Cond.code yX6_list cX6_list 5 (some .int) ∈ TB := TB_m 876 (by decide +kernel) (by decide +kernel)
theorem wd_874 : Cond.instanceMethod yX6_list ∈ TB := TB_m 874 (by decide +kernel) (by decide +kernel)
theorem wd_875 : Cond.selects yX6_list.cls yX6_list yX6_list ∈ TB := TB_m 875 (by decide +kernel) (by decide +kernel)
theorem ky_X6_list : KYV yX6_list cX6_list 5 (some .int) 2 := ⟨⟨wd_876, wd_7, by decide +kernel⟩, wd_874, wd_875⟩
theorem wd_873 : Cond.methodLink RL 86 yX6_list ∈ TB := TB_m 873 (by decide +kernel) (by decide +kernel)
theorem wd_623 : Cond.code yX5_entry cX5_entry 4 (some .int) ∈ TB := TB_m 623 (by decide +kernel) (by decide +kernel)
theorem wd_621 : Cond.instanceMethod yX5_entry ∈ TB := TB_m 621 (by decide +kernel) (by decide +kernel)
theorem wd_622 : Cond.selects yX5_entry.cls yX5_entry yX5_entry ∈ TB := TB_m 622 (by decide +kernel) (by decide +kernel)
theorem ky_X5_entry : KYV yX5_entry cX5_entry 4 (some .int) 3 := ⟨⟨wd_623, wd_1, by decide +kernel⟩, wd_621, wd_622⟩
theorem wd_620 : Cond.methodLink RL 87 yX5_entry ∈ TB := TB_m 620 (by decide +kernel) (by decide +kernel)
theorem wd_880 : Cond.code yX6_entry cX6_entry 4 (some .int) ∈ TB := TB_m 880 (by decide +kernel) (by decide +kernel)
theorem wd_878 : Cond.instanceMethod yX6_entry ∈ TB := TB_m 878 (by decide +kernel) (by decide +kernel)
theorem wd_879 : Cond.selects yX6_entry.cls yX6_entry yX6_entry ∈ TB := TB_m 879 (by decide +kernel) (by decide +kernel)
theorem ky_X6_entry : KYV yX6_entry cX6_entry 4 (some .int) 3 := ⟨⟨wd_880, wd_7, by decide +kernel⟩, wd_878, wd_879⟩
theorem wd_877 : Cond.methodLink RL 90 yX6_entry ∈ TB := TB_m 877 (by decide +kernel) (by decide +kernel)
theorem wd_628 : Cond.code yX5_document cX5_document 3 (some .int) ∈ TB := TB_m 628 (by decide +kernel) (by decide +kernel)
theorem wd_626 : Cond.instanceMethod yX5_document ∈ TB := TB_m 626 (by decide +kernel) (by decide +kernel)
theorem wd_627 : Cond.selects yX5_document.cls yX5_document yX5_document ∈ TB := TB_m 627 (by decide +kernel) (by decide +kernel)
theorem ky_X5_document : KYV yX5_document cX5_document 3 (some .int) 2 := ⟨⟨wd_628, wd_1, by decide +kernel⟩, wd_626, wd_627⟩
theorem wd_625 : Cond.methodLink RL 91 yX5_document ∈ TB := TB_m 625 (by decide +kernel) (by decide +kernel)
theorem wd_872 : Cond.code yX6_document cX6_document 4 (some .int) ∈ TB := TB_m 872 (by decide +kernel) (by decide +kernel)
theorem wd_870 : Cond.instanceMethod yX6_document ∈ TB := TB_m 870 (by decide +kernel) (by decide +kernel)
theorem wd_871 : Cond.selects yX6_document.cls yX6_document yX6_document ∈ TB := TB_m 871 (by decide +kernel) (by decide +kernel)
theorem ky_X6_document : KYV yX6_document cX6_document 4 (some .int) 2 := ⟨⟨wd_872, wd_7, by decide +kernel⟩, wd_870, wd_871⟩
theorem wd_869 : Cond.methodLink RL 94 yX6_document ∈ TB := TB_m 869 (by decide +kernel) (by decide +kernel)
theorem wd_645 : Cond.code yX5_wanted cX5_wanted 2 (some .int) ∈ TB := TB_m 645 (by decide +kernel) (by decide +kernel)
theorem wd_643 : Cond.instanceMethod yX5_wanted ∈ TB := TB_m 643 (by decide +kernel) (by decide +kernel)
theorem wd_644 : Cond.selects yX5_wanted.cls yX5_wanted yX5_wanted ∈ TB := TB_m 644 (by decide +kernel) (by decide +kernel)
theorem ky_X5_wanted : KYV yX5_wanted cX5_wanted 2 (some .int) 1 := ⟨⟨wd_645, wd_1, by decide +kernel⟩, wd_643, wd_644⟩
theorem wd_642 : Cond.methodLink RL 95 yX5_wanted ∈ TB := TB_m 642 (by decide +kernel) (by decide +kernel)
theorem wd_852 : Cond.code yX6_wanted cX6_wanted 4 (some .int) ∈ TB := TB_m 852 (by decide +kernel) (by decide +kernel)
theorem wd_850 : Cond.instanceMethod yX6_wanted ∈ TB := TB_m 850 (by decide +kernel) (by decide +kernel)
theorem wd_851 : Cond.selects yX6_wanted.cls yX6_wanted yX6_wanted ∈ TB := TB_m 851 (by decide +kernel) (by decide +kernel)
theorem ky_X6_wanted : KYV yX6_wanted cX6_wanted 4 (some .int) 1 := ⟨⟨wd_852, wd_7, by decide +kernel⟩, wd_850, wd_851⟩
theorem wd_849 : Cond.methodLink RL 98 yX6_wanted ∈ TB := TB_m 849 (by decide +kernel) (by decide +kernel)
theorem wd_654 : Cond.code yX5_clerk cX5_clerk 3 (some .int) ∈ TB := TB_m 654 (by decide +kernel) (by decide +kernel)
theorem wd_652 : Cond.instanceMethod yX5_clerk ∈ TB := TB_m 652 (by decide +kernel) (by decide +kernel)
theorem wd_653 : Cond.selects yX5_clerk.cls yX5_clerk yX5_clerk ∈ TB := TB_m 653 (by decide +kernel) (by decide +kernel)
theorem ky_X5_clerk : KYV yX5_clerk cX5_clerk 3 (some .int) 2 := ⟨⟨wd_654, wd_1, by decide +kernel⟩, wd_652, wd_653⟩
theorem wd_651 : Cond.methodLink RL 99 yX5_clerk ∈ TB := TB_m 651 (by decide +kernel) (by decide +kernel)
theorem wd_984 : Cond.code yX6_clerk cX6_clerk 3 (some .int) ∈ TB := TB_m 984 (by decide +kernel) (by decide +kernel)
theorem wd_982 : Cond.instanceMethod yX6_clerk ∈ TB := TB_m 982 (by decide +kernel) (by decide +kernel)
theorem wd_983 : Cond.selects yX6_clerk.cls yX6_clerk yX6_clerk ∈ TB := TB_m 983 (by decide +kernel) (by decide +kernel)
theorem ky_X6_clerk : KYV yX6_clerk cX6_clerk 3 (some .int) 2 := ⟨⟨wd_984, wd_7, by decide +kernel⟩, wd_982, wd_983⟩
theorem wd_981 : Cond.methodLink RL 102 yX6_clerk ∈ TB := TB_m 981 (by decide +kernel) (by decide +kernel)
theorem wd_660 : Cond.code yX5_seen cX5_seen 3 (some .int) ∈ TB := TB_m 660 (by decide +kernel) (by decide +kernel)
theorem wd_658 : Cond.instanceMethod yX5_seen ∈ TB := TB_m 658 (by decide +kernel) (by decide +kernel)
theorem wd_659 : Cond.selects yX5_seen.cls yX5_seen yX5_seen ∈ TB := TB_m 659 (by decide +kernel) (by decide +kernel)
theorem ky_X5_seen : KYV yX5_seen cX5_seen 3 (some .int) 2 := ⟨⟨wd_660, wd_1, by decide +kernel⟩, wd_658, wd_659⟩
theorem wd_657 : Cond.methodLink RL 103 yX5_seen ∈ TB := TB_m 657 (by decide +kernel) (by decide +kernel)
theorem wd_988 : Cond.code yX6_seen cX6_seen 3 (some .int) ∈ TB := TB_m 988 (by decide +kernel) (by decide +kernel)
theorem wd_986 : Cond.instanceMethod yX6_seen ∈ TB := TB_m 986 (by decide +kernel) (by decide +kernel)
theorem wd_987 : Cond.selects yX6_seen.cls yX6_seen yX6_seen ∈ TB := TB_m 987 (by decide +kernel) (by decide +kernel)
theorem ky_X6_seen : KYV yX6_seen cX6_seen 3 (some .int) 2 := ⟨⟨wd_988, wd_7, by decide +kernel⟩, wd_986, wd_987⟩
theorem wd_985 : Cond.methodLink RL 106 yX6_seen ∈ TB := TB_m 985 (by decide +kernel) (by decide +kernel)
theorem wd_672 : Cond.code yX5_told cX5_told 2 (some .int) ∈ TB := TB_m 672 (by decide +kernel) (by decide +kernel)
theorem wd_670 : Cond.instanceMethod yX5_told ∈ TB := TB_m 670 (by decide +kernel) (by decide +kernel)
theorem wd_671 : Cond.selects yX5_told.cls yX5_told yX5_told ∈ TB := TB_m 671 (by decide +kernel) (by decide +kernel)
theorem ky_X5_told : KYV yX5_told cX5_told 2 (some .int) 1 := ⟨⟨wd_672, wd_1, by decide +kernel⟩, wd_670, wd_671⟩
theorem wd_669 : Cond.methodLink RL 107 yX5_told ∈ TB := TB_m 669 (by decide +kernel) (by decide +kernel)
theorem wd_996 : Cond.code yX6_told cX6_told 2 (some .int) ∈ TB := TB_m 996 (by decide +kernel) (by decide +kernel)
theorem wd_994 : Cond.instanceMethod yX6_told ∈ TB := TB_m 994 (by decide +kernel) (by decide +kernel)
theorem wd_995 : Cond.selects yX6_told.cls yX6_told yX6_told ∈ TB := TB_m 995 (by decide +kernel) (by decide +kernel)
theorem ky_X6_told : KYV yX6_told cX6_told 2 (some .int) 1 := ⟨⟨wd_996, wd_7, by decide +kernel⟩, wd_994, wd_995⟩
theorem wd_993 : Cond.methodLink RL 110 yX6_told ∈ TB := TB_m 993 (by decide +kernel) (by decide +kernel)
theorem wd_676 : Cond.code yX5_reading cX5_reading 2 (some .int) ∈ TB := TB_m 676 (by decide +kernel) (by decide +kernel)
theorem wd_674 : Cond.instanceMethod yX5_reading ∈ TB := TB_m 674 (by decide +kernel) (by decide +kernel)
theorem wd_675 : Cond.selects yX5_reading.cls yX5_reading yX5_reading ∈ TB := TB_m 675 (by decide +kernel) (by decide +kernel)
theorem ky_X5_reading : KYV yX5_reading cX5_reading 2 (some .int) 1 := ⟨⟨wd_676, wd_1, by decide +kernel⟩, wd_674, wd_675⟩
theorem wd_673 : Cond.methodLink RL 111 yX5_reading ∈ TB := TB_m 673 (by decide +kernel) (by decide +kernel)
theorem wd_1000 : Cond.code yX6_reading cX6_reading 2 (some .int) ∈ TB := TB_m 1000 (by decide +kernel) (by decide +kernel)
theorem wd_998 : Cond.instanceMethod yX6_reading ∈ TB := TB_m 998 (by decide +kernel) (by decide +kernel)
theorem wd_999 : Cond.selects yX6_reading.cls yX6_reading yX6_reading ∈ TB := TB_m 999 (by decide +kernel) (by decide +kernel)
theorem ky_X6_reading : KYV yX6_reading cX6_reading 2 (some .int) 1 := ⟨⟨wd_1000, wd_7, by decide +kernel⟩, wd_998, wd_999⟩
theorem wd_997 : Cond.methodLink RL 114 yX6_reading ∈ TB := TB_m 997 (by decide +kernel) (by decide +kernel)
theorem wd_705 : Cond.code yX5_trial cX5_trial 4 (some .int) ∈ TB := TB_m 705 (by decide +kernel) (by decide +kernel)
theorem wd_703 : Cond.instanceMethod yX5_trial ∈ TB := TB_m 703 (by decide +kernel) (by decide +kernel)
theorem wd_704 : Cond.selects yX5_trial.cls yX5_trial yX5_trial ∈ TB := TB_m 704 (by decide +kernel) (by decide +kernel)
theorem ky_X5_trial : KYV yX5_trial cX5_trial 4 (some .int) 3 := ⟨⟨wd_705, wd_1, by decide +kernel⟩, wd_703, wd_704⟩
theorem wd_702 : Cond.methodLink RL 115 yX5_trial ∈ TB := TB_m 702 (by decide +kernel) (by decide +kernel)
theorem wd_1020 : Cond.code yX6_trial cX6_trial 4 (some .int) ∈ TB := TB_m 1020 (by decide +kernel) (by decide +kernel)
theorem wd_1018 : Cond.instanceMethod yX6_trial ∈ TB := TB_m 1018 (by decide +kernel) (by decide +kernel)
theorem wd_1019 : Cond.selects yX6_trial.cls yX6_trial yX6_trial ∈ TB := TB_m 1019 (by decide +kernel) (by decide +kernel)
theorem ky_X6_trial : KYV yX6_trial cX6_trial 4 (some .int) 3 := ⟨⟨wd_1020, wd_7, by decide +kernel⟩, wd_1018, wd_1019⟩
theorem wd_1017 : Cond.methodLink RL 119 yX6_trial ∈ TB := TB_m 1017 (by decide +kernel) (by decide +kernel)
theorem wd_709 : Cond.code yX5_cheapest cX5_cheapest 5 (some .int) ∈ TB := TB_m 709 (by decide +kernel) (by decide +kernel)
theorem wd_707 : Cond.instanceMethod yX5_cheapest ∈ TB := TB_m 707 (by decide +kernel) (by decide +kernel)
theorem wd_708 : Cond.selects yX5_cheapest.cls yX5_cheapest yX5_cheapest ∈ TB := TB_m 708 (by decide +kernel) (by decide +kernel)
theorem ky_X5_cheapest : KYV yX5_cheapest cX5_cheapest 5 (some .int) 0 := ⟨⟨wd_709, wd_1, by decide +kernel⟩, wd_707, wd_708⟩
theorem wd_706 : Cond.methodLink RL 120 yX5_cheapest ∈ TB := TB_m 706 (by decide +kernel) (by decide +kernel)
theorem wd_1028 : Cond.code yX6_cheapest cX6_cheapest 5 (some .int) ∈ TB := TB_m 1028 (by decide +kernel) (by decide +kernel)
theorem wd_1026 : Cond.instanceMethod yX6_cheapest ∈ TB := TB_m 1026 (by decide +kernel) (by decide +kernel)
theorem wd_1027 : Cond.selects yX6_cheapest.cls yX6_cheapest yX6_cheapest ∈ TB := TB_m 1027 (by decide +kernel) (by decide +kernel)
theorem ky_X6_cheapest : KYV yX6_cheapest cX6_cheapest 5 (some .int) 0 := ⟨⟨wd_1028, wd_7, by decide +kernel⟩, wd_1026, wd_1027⟩
theorem wd_1025 : Cond.methodLink RL 123 yX6_cheapest ∈ TB := TB_m 1025 (by decide +kernel) (by decide +kernel)
theorem wd_713 : Cond.code yX5_count cX5_count 2 (some .int) ∈ TB := TB_m 713 (by decide +kernel) (by decide +kernel)
theorem wd_711 : Cond.instanceMethod yX5_count ∈ TB := TB_m 711 (by decide +kernel) (by decide +kernel)
theorem wd_712 : Cond.selects yX5_count.cls yX5_count yX5_count ∈ TB := TB_m 712 (by decide +kernel) (by decide +kernel)
theorem ky_X5_count : KYV yX5_count cX5_count 2 (some .int) 1 := ⟨⟨wd_713, wd_1, by decide +kernel⟩, wd_711, wd_712⟩
theorem wd_710 : Cond.methodLink RL 124 yX5_count ∈ TB := TB_m 710 (by decide +kernel) (by decide +kernel)
theorem wd_1032 : Cond.code yX6_count cX6_count 4 (some .int) ∈ TB := TB_m 1032 (by decide +kernel) (by decide +kernel)
theorem wd_1030 : Cond.instanceMethod yX6_count ∈ TB := TB_m 1030 (by decide +kernel) (by decide +kernel)
theorem wd_1031 : Cond.selects yX6_count.cls yX6_count yX6_count ∈ TB := TB_m 1031 (by decide +kernel) (by decide +kernel)
theorem ky_X6_count : KYV yX6_count cX6_count 4 (some .int) 1 := ⟨⟨wd_1032, wd_7, by decide +kernel⟩, wd_1030, wd_1031⟩
theorem wd_1029 : Cond.methodLink RL 127 yX6_count ∈ TB := TB_m 1029 (by decide +kernel) (by decide +kernel)
def lL_law_18 (y : Ly) (o o2 L b : Nat) (xs : Nat → Int32) : Nat → Wd → Int32 → Option (Int32)
  | 0, _, _ => none
  | n + 1, w, x3 =>
    if ((nI L) - 4) < x3 then
      some 1
    else
      (ldX L xs x3).bind fun v2 =>
      if (v2 &&& 31) = 0 then
        (ldX L xs (x3 + 1)).bind fun v4 =>
        (ldX L xs (x3 + 2)).bind fun v5 =>
        (ldX L xs (x3 + 3)).bind fun v6 =>
        ob2 (fX5_add y w o v4 v5 v6) fun v7 w8 =>
        (ldX L xs (x3 + 1)).bind fun v9 =>
        (ldX L xs (x3 + 2)).bind fun v10 =>
        (ldX L xs (x3 + 3)).bind fun v11 =>
        ob2 (fX6_add w8 o2 v9 v10 v11) fun v12 w13 =>
        if v7 = v12 then
          lL_law_18 y o o2 L b xs n w13 (x3 + 4)
        else
          some 0
      else
      if (v2 &&& 31) = 1 then
        (ldX L xs (x3 + 1)).bind fun v16 =>
        (ldX L xs (x3 + 2)).bind fun v17 =>
        ob2 (fX5_drop y w o v16 v17) fun v18 w19 =>
        (ldX L xs (x3 + 1)).bind fun v20 =>
        (ldX L xs (x3 + 2)).bind fun v21 =>
        ob2 (fX6_drop w19 o2 v20 v21) fun v22 w23 =>
        if v18 = v22 then
          lL_law_18 y o o2 L b xs n w23 (x3 + 4)
        else
          some 0
      else
      if (v2 &&& 31) = 2 then
        (ldX L xs (x3 + 1)).bind fun v26 =>
        ob2 (fX5_delete y w o v26) fun v27 w28 =>
        (ldX L xs (x3 + 1)).bind fun v29 =>
        ob2 (fX6_delete w28 o2 v29) fun v30 w31 =>
        if v27 = v30 then
          lL_law_18 y o o2 L b xs n w31 (x3 + 4)
        else
          some 0
      else
      if (v2 &&& 31) = 3 then
        (ldX L xs (x3 + 1)).bind fun v34 =>
        ob2 (fX5_bring y w o v34) fun v35 w36 =>
        (ldX L xs (x3 + 1)).bind fun v37 =>
        ob2 (fX6_bring w36 o2 v37) fun v38 w39 =>
        if v35 = v38 then
          lL_law_18 y o o2 L b xs n w39 (x3 + 4)
        else
          some 0
      else
      if (v2 &&& 31) = 4 then
        (ldX L xs (x3 + 1)).bind fun v42 =>
        (ldX L xs (x3 + 2)).bind fun v43 =>
        ob2 (fX5_weight y w o v42 v43) fun v44 w45 =>
        (ldX L xs (x3 + 1)).bind fun v46 =>
        (ldX L xs (x3 + 2)).bind fun v47 =>
        ob2 (fX6_weight w45 o2 v46 v47) fun v48 w49 =>
        if v44 = v48 then
          lL_law_18 y o o2 L b xs n w49 (x3 + 4)
        else
          some 0
      else
      if (v2 &&& 31) = 5 then
        (ldX L xs (x3 + 1)).bind fun v52 =>
        ob2 (fX5_want y w o v52) fun v53 w54 =>
        (ldX L xs (x3 + 1)).bind fun v55 =>
        ob2 (fX6_want w54 o2 v55) fun v56 w57 =>
        if v53 = v56 then
          lL_law_18 y o o2 L b xs n w57 (x3 + 4)
        else
          some 0
      else
      if (v2 &&& 31) = 6 then
        (ldX L xs (x3 + 1)).bind fun v60 =>
        (ldX L xs (x3 + 2)).bind fun v61 =>
        ob2 (fX5_bribe y w o v60 v61) fun v62 w63 =>
        (ldX L xs (x3 + 1)).bind fun v64 =>
        (ldX L xs (x3 + 2)).bind fun v65 =>
        ob2 (fX6_bribe w63 o2 v64 v65) fun v66 w67 =>
        if v62 = v66 then
          lL_law_18 y o o2 L b xs n w67 (x3 + 4)
        else
          some 0
      else
      if (v2 &&& 31) = 7 then
        (ldX L xs (x3 + 1)).bind fun v70 =>
        (ldX L xs (x3 + 2)).bind fun v71 =>
        if v71 = 0 then
          ob2 (fX5_begin y w o v70 0) fun v73 w74 =>
          (ldX L xs (x3 + 1)).bind fun v75 =>
          (ldX L xs (x3 + 2)).bind fun v76 =>
          if v76 = 0 then
            ob2 (fX6_begin w74 o2 v75 0) fun v78 w79 =>
            if v73 = v78 then
              lL_law_18 y o o2 L b xs n w79 (x3 + 4)
            else
              some 0
          else
            ob2 (fX6_begin w74 o2 v75 1) fun v81 w82 =>
            if v73 = v81 then
              lL_law_18 y o o2 L b xs n w82 (x3 + 4)
            else
              some 0
        else
          ob2 (fX5_begin y w o v70 1) fun v84 w85 =>
          (ldX L xs (x3 + 1)).bind fun v86 =>
          (ldX L xs (x3 + 2)).bind fun v87 =>
          if v87 = 0 then
            ob2 (fX6_begin w85 o2 v86 0) fun v89 w90 =>
            if v84 = v89 then
              lL_law_18 y o o2 L b xs n w90 (x3 + 4)
            else
              some 0
          else
            ob2 (fX6_begin w85 o2 v86 1) fun v92 w93 =>
            if v84 = v92 then
              lL_law_18 y o o2 L b xs n w93 (x3 + 4)
            else
              some 0
      else
      if (v2 &&& 31) = 8 then
        (ldX L xs (x3 + 1)).bind fun v96 =>
        ob2 (fX5_step y w o v96) fun v97 w98 =>
        (ldX L xs (x3 + 1)).bind fun v99 =>
        ob2 (fX6_step w98 o2 v99) fun v100 w101 =>
        if v97 = v100 then
          lL_law_18 y o o2 L b xs n w101 (x3 + 4)
        else
          some 0
      else
      if (v2 &&& 31) = 9 then
        ob2 (fX5_end y w o) fun v104 w105 =>
        ob2 (fX6_end w105 o2) fun v106 w107 =>
        if v104 = v106 then
          lL_law_18 y o o2 L b xs n w107 (x3 + 4)
        else
          some 0
      else
      if (v2 &&& 31) = 10 then
        (ldX L xs (x3 + 1)).bind fun v110 =>
        ob2 (fX5_type w o ((Int32.toUInt32 v110 % 65536).toInt32)) fun v111 w112 =>
        (ldX L xs (x3 + 1)).bind fun v113 =>
        ob2 (fX6_type w112 o2 ((Int32.toUInt32 v113 % 65536).toInt32)) fun v114 w115 =>
        if v111 = v114 then
          lL_law_18 y o o2 L b xs n w115 (x3 + 4)
        else
          some 0
      else
      if (v2 &&& 31) = 11 then
        ob2 (fX5_clearText w o) fun v118 w119 =>
        ob2 (fX6_clearText w119 o2) fun v120 w121 =>
        if v118 = v120 then
          lL_law_18 y o o2 L b xs n w121 (x3 + 4)
        else
          some 0
      else
      if (v2 &&& 31) = 12 then
        ob2 (fX5_perform y w o) fun v124 w125 =>
        ob2 (fX6_perform w125 o2) fun v126 w127 =>
        if v124 = v126 then
          lL_law_18 y o o2 L b xs n w127 (x3 + 4)
        else
          some 0
      else
      if (v2 &&& 31) = 13 then
        ob2 (fX5_undo y w o) fun v130 w131 =>
        ob2 (fX6_undo w131 o2) fun v132 w133 =>
        if v130 = v132 then
          lL_law_18 y o o2 L b xs n w133 (x3 + 4)
        else
          some 0
      else
      if (v2 &&& 31) = 14 then
        ob2 (fX5_keep w o) fun v136 w137 =>
        ob2 (fX6_keep w137 o2) fun v138 w139 =>
        if v136 = v138 then
          lL_law_18 y o o2 L b xs n w139 (x3 + 4)
        else
          some 0
      else
      if (v2 &&& 31) = 15 then
        ob2 (fX5_restore y w o) fun v142 w143 =>
        ob2 (fX6_restore w143 o2) fun v144 w145 =>
        if v142 = v144 then
          lL_law_18 y o o2 L b xs n w145 (x3 + 4)
        else
          some 0
      else
      if (v2 &&& 31) = 16 then
        (ldX L xs (x3 + 1)).bind fun v148 =>
        (ldX L xs (x3 + 2)).bind fun v149 =>
        (fX5_list w o v148 v149).bind fun v150 =>
        (ldX L xs (x3 + 1)).bind fun v151 =>
        (ldX L xs (x3 + 2)).bind fun v152 =>
        (fX6_list w o2 v151 v152).bind fun v153 =>
        if v150 = v153 then
          lL_law_18 y o o2 L b xs n w (x3 + 4)
        else
          some 0
      else
      if (v2 &&& 31) = 17 then
        (ldX L xs (x3 + 1)).bind fun v156 =>
        (ldX L xs (x3 + 2)).bind fun v157 =>
        (ldX L xs (x3 + 3)).bind fun v158 =>
        (fX5_entry w o v156 v157 v158).bind fun v159 =>
        (ldX L xs (x3 + 1)).bind fun v160 =>
        (ldX L xs (x3 + 2)).bind fun v161 =>
        (ldX L xs (x3 + 3)).bind fun v162 =>
        (fX6_entry w o2 v160 v161 v162).bind fun v163 =>
        if v159 = v163 then
          lL_law_18 y o o2 L b xs n w (x3 + 4)
        else
          some 0
      else
      if (v2 &&& 31) = 18 then
        (ldX L xs (x3 + 1)).bind fun v166 =>
        (ldX L xs (x3 + 2)).bind fun v167 =>
        (fX5_document w o v166 v167).bind fun v168 =>
        (ldX L xs (x3 + 1)).bind fun v169 =>
        (ldX L xs (x3 + 2)).bind fun v170 =>
        (fX6_document w o2 v169 v170).bind fun v171 =>
        if v168 = v171 then
          lL_law_18 y o o2 L b xs n w (x3 + 4)
        else
          some 0
      else
      if (v2 &&& 31) = 19 then
        (ldX L xs (x3 + 1)).bind fun v174 =>
        (fX5_wanted w o v174).bind fun v175 =>
        (ldX L xs (x3 + 1)).bind fun v176 =>
        (fX6_wanted w o2 v176).bind fun v177 =>
        if v175 = v177 then
          lL_law_18 y o o2 L b xs n w (x3 + 4)
        else
          some 0
      else
      if (v2 &&& 31) = 20 then
        (ldX L xs (x3 + 1)).bind fun v180 =>
        (ldX L xs (x3 + 2)).bind fun v181 =>
        (fX5_clerk w o v180 v181).bind fun v182 =>
        (ldX L xs (x3 + 1)).bind fun v183 =>
        (ldX L xs (x3 + 2)).bind fun v184 =>
        (fX6_clerk w o2 v183 v184).bind fun v185 =>
        if v182 = v185 then
          lL_law_18 y o o2 L b xs n w (x3 + 4)
        else
          some 0
      else
      if (v2 &&& 31) = 21 then
        (ldX L xs (x3 + 1)).bind fun v188 =>
        (ldX L xs (x3 + 2)).bind fun v189 =>
        (fX5_seen w o v188 v189).bind fun v190 =>
        (ldX L xs (x3 + 1)).bind fun v191 =>
        (ldX L xs (x3 + 2)).bind fun v192 =>
        ob2 (fX6_seen w o2 v191 v192) fun v193 w194 =>
        if v190 = v193 then
          lL_law_18 y o o2 L b xs n w194 (x3 + 4)
        else
          some 0
      else
      if (v2 &&& 31) = 22 then
        (ldX L xs (x3 + 1)).bind fun v197 =>
        (fX5_told w o v197).bind fun v198 =>
        (ldX L xs (x3 + 1)).bind fun v199 =>
        ob2 (fX6_told w o2 v199) fun v200 w201 =>
        if v198 = v200 then
          lL_law_18 y o o2 L b xs n w201 (x3 + 4)
        else
          some 0
      else
      if (v2 &&& 31) = 23 then
        (ldX L xs (x3 + 1)).bind fun v204 =>
        (fX5_reading w o v204).bind fun v205 =>
        (ldX L xs (x3 + 1)).bind fun v206 =>
        ob2 (fX6_reading w o2 v206) fun v207 w208 =>
        if v205 = v207 then
          lL_law_18 y o o2 L b xs n w208 (x3 + 4)
        else
          some 0
      else
      if (v2 &&& 31) = 24 then
        (ldX L xs (x3 + 1)).bind fun v211 =>
        (ldX L xs (x3 + 2)).bind fun v212 =>
        if v212 = 0 then
          (ldX L xs (x3 + 3)).bind fun v214 =>
          ob2 (fX5_trial w o v211 0 v214) fun v215 w216 =>
          (ldX L xs (x3 + 1)).bind fun v217 =>
          (ldX L xs (x3 + 2)).bind fun v218 =>
          if v218 = 0 then
            (ldX L xs (x3 + 3)).bind fun v220 =>
            ob2 (fX6_trial w216 o2 v217 0 v220) fun v221 w222 =>
            if v215 = v221 then
              lL_law_18 y o o2 L b xs n w222 (x3 + 4)
            else
              some 0
          else
            (ldX L xs (x3 + 3)).bind fun v224 =>
            ob2 (fX6_trial w216 o2 v217 1 v224) fun v225 w226 =>
            if v215 = v225 then
              lL_law_18 y o o2 L b xs n w226 (x3 + 4)
            else
              some 0
        else
          (ldX L xs (x3 + 3)).bind fun v228 =>
          ob2 (fX5_trial w o v211 1 v228) fun v229 w230 =>
          (ldX L xs (x3 + 1)).bind fun v231 =>
          (ldX L xs (x3 + 2)).bind fun v232 =>
          if v232 = 0 then
            (ldX L xs (x3 + 3)).bind fun v234 =>
            ob2 (fX6_trial w230 o2 v231 0 v234) fun v235 w236 =>
            if v229 = v235 then
              lL_law_18 y o o2 L b xs n w236 (x3 + 4)
            else
              some 0
          else
            (ldX L xs (x3 + 3)).bind fun v238 =>
            ob2 (fX6_trial w230 o2 v231 1 v238) fun v239 w240 =>
            if v229 = v239 then
              lL_law_18 y o o2 L b xs n w240 (x3 + 4)
            else
              some 0
      else
      if (v2 &&& 31) = 25 then
        ob2 (fX5_cheapest w o) fun v243 w244 =>
        ob2 (fX6_cheapest w244 o2) fun v245 w246 =>
        if v243 = v245 then
          lL_law_18 y o o2 L b xs n w246 (x3 + 4)
        else
          some 0
      else
      if (v2 &&& 31) = 26 then
        (ldX L xs (x3 + 1)).bind fun v249 =>
        (fX5_count w o v249).bind fun v250 =>
        (ldX L xs (x3 + 1)).bind fun v251 =>
        (fX6_count w o2 v251).bind fun v252 =>
        if v250 = v252 then
          lL_law_18 y o o2 L b xs n w (x3 + 4)
        else
          some 0
      else
      lL_law_18 y o o2 L b xs n w (x3 + 4)
set_option maxRecDepth 4000 in
theorem clL_law_18 {g : Gx} {E : Ex} (C : CC g E cL_law 4 RL 8 204) (hR : RT g ret) {o o2 L b : Nat} {xs : Nat → Int32} (hO : shB E.2.2.2.2.2.1 o) (hO2 : shM E.2.2.2.2.2.1 o2) (HX : SX g E b L xs) (HL : SL g E b) : ∀ (n : Nat) (w : Wd) (x3 : Int32), YO g E 4 (QL g b) (lL_law_18 E.2.2.2.2.2.1 o o2 L b xs n w x3) w 18 [(0, .ref b), (1, .ref (E.2.2.2.2.1 + o)), (2, .ref (E.2.2.2.2.1 + o2)), (3, .int x3)] [] := by
  intro n
  induction n with
  | zero => intro w x3; exact y_no
  | succ n ih =>
    intro w x3
    rw [lL_law_18]
    refine y_iload_n (n := 19) C dL_law_18 3 rfl rfl ?_
    refine y_aload_n (n := 20) C dL_law_19 0 rfl rfl ?_
    refine y_slen (n := 21) C HX dL_law_20 rfl ?_
    refine y_iconst (n := 22) C (4 : Int32) dL_law_21 (by decide) rfl ?_
    refine y_isub (n := 23) C dL_law_22 rfl ?_
    refine y_icmp_gt (tgt := 887) (n := 26) C dL_law_23 (by decide) rfl (fun h1 => ?_) (fun h1 => ?_)
    · refine y_iconst (n := 888) C (1 : Int32) dL_law_887 (by decide) rfl ?_
      exact y_rl C HL hR dL_law_888
    · refine y_aload_n (n := 27) C dL_law_26 0 rfl rfl ?_
      refine y_iload_n (n := 28) C dL_law_27 3 rfl rfl ?_
      refine y_sld (n := 29) C HX dL_law_28 rfl (fun v2 hv2 => ?_)
      refine y_bipush (n := 31) C (31 : Int32) dL_law_29 (by decide) rfl ?_
      refine y_iand (n := 32) C dL_law_31 rfl ?_
      refine y_if (fun h3 => ?_) (fun h3 => ?_)
      · refine y_swIn (tgt := 156) C 124 dL_law_32 (by rw [h3]; decide) (by rw [h3]; decide) (by rw [h3]; rfl) (by decide) ?_
        refine y_aload_n (n := 157) C dL_law_156 1 rfl rfl ?_
        refine y_aload_n (n := 158) C dL_law_157 0 rfl rfl ?_
        refine y_iload_n (n := 159) C dL_law_158 3 rfl rfl ?_
        refine y_iconst (n := 160) C (1 : Int32) dL_law_159 (by decide) rfl ?_
        refine y_iadd (n := 161) C dL_law_160 rfl ?_
        refine y_sld (n := 162) C HX dL_law_161 rfl (fun v4 hv4 => ?_)
        refine y_aload_n (n := 163) C dL_law_162 0 rfl rfl ?_
        refine y_iload_n (n := 164) C dL_law_163 3 rfl rfl ?_
        refine y_iconst (n := 165) C (2 : Int32) dL_law_164 (by decide) rfl ?_
        refine y_iadd (n := 166) C dL_law_165 rfl ?_
        refine y_sld (n := 167) C HX dL_law_166 rfl (fun v5 hv5 => ?_)
        refine y_aload_n (n := 168) C dL_law_167 0 rfl rfl ?_
        refine y_iload_n (n := 169) C dL_law_168 3 rfl rfl ?_
        refine y_iconst (n := 170) C (3 : Int32) dL_law_169 (by decide) rfl ?_
        refine y_iadd (n := 171) C dL_law_170 rfl ?_
        refine y_sld (n := 172) C HX dL_law_171 rfl (fun v6 hv6 => ?_)
        refine y_ci2 (n := 175) C (fun r hr H locs la hP hS hl => y_runV (ci := 5) (st := []) C ky_X5_add wd_210 ⟨Nat.le_of_ble_eq_true rfl, Nat.le_of_ble_eq_true rfl⟩ hO.1 rfl (mX5_add hO w v4 v5 v6 g.2.1 r hr) rfl (Nat.le_of_ble_eq_true rfl) rfl dL_law_172 hP hS hl) rfl (fun v7 w8 hv7 => ?_)
        refine y_aload_n (n := 176) C dL_law_175 2 rfl rfl ?_
        refine y_aload_n (n := 177) C dL_law_176 0 rfl rfl ?_
        refine y_iload_n (n := 178) C dL_law_177 3 rfl rfl ?_
        refine y_iconst (n := 179) C (1 : Int32) dL_law_178 (by decide) rfl ?_
        refine y_iadd (n := 180) C dL_law_179 rfl ?_
        refine y_sld (n := 181) C HX dL_law_180 rfl (fun v9 hv9 => ?_)
        refine y_aload_n (n := 182) C dL_law_181 0 rfl rfl ?_
        refine y_iload_n (n := 183) C dL_law_182 3 rfl rfl ?_
        refine y_iconst (n := 184) C (2 : Int32) dL_law_183 (by decide) rfl ?_
        refine y_iadd (n := 185) C dL_law_184 rfl ?_
        refine y_sld (n := 186) C HX dL_law_185 rfl (fun v10 hv10 => ?_)
        refine y_aload_n (n := 187) C dL_law_186 0 rfl rfl ?_
        refine y_iload_n (n := 188) C dL_law_187 3 rfl rfl ?_
        refine y_iconst (n := 189) C (3 : Int32) dL_law_188 (by decide) rfl ?_
        refine y_iadd (n := 190) C dL_law_189 rfl ?_
        refine y_sld (n := 191) C HX dL_law_190 rfl (fun v11 hv11 => ?_)
        refine y_ci2 (n := 194) C (fun r hr H locs la hP hS hl => y_runV (ci := 6) (st := [.int v7]) C ky_X6_add wd_788 ⟨Nat.le_of_ble_eq_true rfl, Nat.le_of_ble_eq_true rfl⟩ hO2.1 rfl (mX6_add hO2 w8 v9 v10 v11 g.2.1 r hr) rfl (Nat.le_of_ble_eq_true rfl) rfl dL_law_191 hP hS hl) rfl (fun v12 w13 hv12 => ?_)
        refine y_icmp_eq (tgt := 881) (n := 197) C dL_law_194 (by decide) rfl (fun h14 => ?_) (fun h14 => ?_)
        · refine y_iinc (n := 884) (v := x3 + 4) (ls' := [(3, .int (x3 + 4)), (0, .ref b), (1, .ref (E.2.2.2.2.1 + o)), (2, .ref (E.2.2.2.2.1 + o2))]) C dL_law_881 3 rfl rfl (by decide) rfl rfl ?_
          refine y_goto (tgt := 18) C dL_law_884 (by decide) ?_
          refine y_ls [1, 2, 3, 0] rfl ?_
          exact ih w13 (x3 + 4)
        · refine y_iconst (n := 198) C (0 : Int32) dL_law_197 (by decide) rfl ?_
          exact y_rl C HL hR dL_law_198
      refine y_if (fun h15 => ?_) (fun h15 => ?_)
      · refine y_swIn (tgt := 199) C 167 dL_law_32 (by rw [h15]; decide) (by rw [h15]; decide) (by rw [h15]; rfl) (by decide) ?_
        refine y_aload_n (n := 200) C dL_law_199 1 rfl rfl ?_
        refine y_aload_n (n := 201) C dL_law_200 0 rfl rfl ?_
        refine y_iload_n (n := 202) C dL_law_201 3 rfl rfl ?_
        refine y_iconst (n := 203) C (1 : Int32) dL_law_202 (by decide) rfl ?_
        refine y_iadd (n := 204) C dL_law_203 rfl ?_
        refine y_sld (n := 205) C HX dL_law_204 rfl (fun v16 hv16 => ?_)
        refine y_aload_n (n := 206) C dL_law_205 0 rfl rfl ?_
        refine y_iload_n (n := 207) C dL_law_206 3 rfl rfl ?_
        refine y_iconst (n := 208) C (2 : Int32) dL_law_207 (by decide) rfl ?_
        refine y_iadd (n := 209) C dL_law_208 rfl ?_
        refine y_sld (n := 210) C HX dL_law_209 rfl (fun v17 hv17 => ?_)
        refine y_ci2 (n := 213) C (fun r hr H locs la hP hS hl => y_runV (ci := 5) (st := []) C ky_X5_drop wd_290 ⟨Nat.le_of_ble_eq_true rfl, Nat.le_of_ble_eq_true rfl⟩ hO.1 rfl (mX5_drop hO w v16 v17 g.2.1 r hr) rfl (Nat.le_of_ble_eq_true rfl) rfl dL_law_210 hP hS hl) rfl (fun v18 w19 hv18 => ?_)
        refine y_aload_n (n := 214) C dL_law_213 2 rfl rfl ?_
        refine y_aload_n (n := 215) C dL_law_214 0 rfl rfl ?_
        refine y_iload_n (n := 216) C dL_law_215 3 rfl rfl ?_
        refine y_iconst (n := 217) C (1 : Int32) dL_law_216 (by decide) rfl ?_
        refine y_iadd (n := 218) C dL_law_217 rfl ?_
        refine y_sld (n := 219) C HX dL_law_218 rfl (fun v20 hv20 => ?_)
        refine y_aload_n (n := 220) C dL_law_219 0 rfl rfl ?_
        refine y_iload_n (n := 221) C dL_law_220 3 rfl rfl ?_
        refine y_iconst (n := 222) C (2 : Int32) dL_law_221 (by decide) rfl ?_
        refine y_iadd (n := 223) C dL_law_222 rfl ?_
        refine y_sld (n := 224) C HX dL_law_223 rfl (fun v21 hv21 => ?_)
        refine y_ci2 (n := 227) C (fun r hr H locs la hP hS hl => y_runV (ci := 6) (st := [.int v18]) C ky_X6_drop wd_810 ⟨Nat.le_of_ble_eq_true rfl, Nat.le_of_ble_eq_true rfl⟩ hO2.1 rfl (mX6_drop hO2 w19 v20 v21 g.2.1 r hr) rfl (Nat.le_of_ble_eq_true rfl) rfl dL_law_224 hP hS hl) rfl (fun v22 w23 hv22 => ?_)
        refine y_icmp_eq (tgt := 881) (n := 230) C dL_law_227 (by decide) rfl (fun h24 => ?_) (fun h24 => ?_)
        · refine y_iinc (n := 884) (v := x3 + 4) (ls' := [(3, .int (x3 + 4)), (0, .ref b), (1, .ref (E.2.2.2.2.1 + o)), (2, .ref (E.2.2.2.2.1 + o2))]) C dL_law_881 3 rfl rfl (by decide) rfl rfl ?_
          refine y_goto (tgt := 18) C dL_law_884 (by decide) ?_
          refine y_ls [1, 2, 3, 0] rfl ?_
          exact ih w23 (x3 + 4)
        · refine y_iconst (n := 231) C (0 : Int32) dL_law_230 (by decide) rfl ?_
          exact y_rl C HL hR dL_law_231
      refine y_if (fun h25 => ?_) (fun h25 => ?_)
      · refine y_swIn (tgt := 232) C 200 dL_law_32 (by rw [h25]; decide) (by rw [h25]; decide) (by rw [h25]; rfl) (by decide) ?_
        refine y_aload_n (n := 233) C dL_law_232 1 rfl rfl ?_
        refine y_aload_n (n := 234) C dL_law_233 0 rfl rfl ?_
        refine y_iload_n (n := 235) C dL_law_234 3 rfl rfl ?_
        refine y_iconst (n := 236) C (1 : Int32) dL_law_235 (by decide) rfl ?_
        refine y_iadd (n := 237) C dL_law_236 rfl ?_
        refine y_sld (n := 238) C HX dL_law_237 rfl (fun v26 hv26 => ?_)
        refine y_ci2 (n := 241) C (fun r hr H locs la hP hS hl => y_runV (ci := 5) (st := []) C ky_X5_delete wd_295 ⟨Nat.le_of_ble_eq_true rfl, Nat.le_of_ble_eq_true rfl⟩ hO.1 rfl (mX5_delete hO w v26 g.2.1 r hr) rfl (Nat.le_of_ble_eq_true rfl) rfl dL_law_238 hP hS hl) rfl (fun v27 w28 hv27 => ?_)
        refine y_aload_n (n := 242) C dL_law_241 2 rfl rfl ?_
        refine y_aload_n (n := 243) C dL_law_242 0 rfl rfl ?_
        refine y_iload_n (n := 244) C dL_law_243 3 rfl rfl ?_
        refine y_iconst (n := 245) C (1 : Int32) dL_law_244 (by decide) rfl ?_
        refine y_iadd (n := 246) C dL_law_245 rfl ?_
        refine y_sld (n := 247) C HX dL_law_246 rfl (fun v29 hv29 => ?_)
        refine y_ci2 (n := 250) C (fun r hr H locs la hP hS hl => y_runV (ci := 6) (st := [.int v27]) C ky_X6_delete wd_814 ⟨Nat.le_of_ble_eq_true rfl, Nat.le_of_ble_eq_true rfl⟩ hO2.1 rfl (mX6_delete hO2 w28 v29 g.2.1 r hr) rfl (Nat.le_of_ble_eq_true rfl) rfl dL_law_247 hP hS hl) rfl (fun v30 w31 hv30 => ?_)
        refine y_icmp_eq (tgt := 881) (n := 253) C dL_law_250 (by decide) rfl (fun h32 => ?_) (fun h32 => ?_)
        · refine y_iinc (n := 884) (v := x3 + 4) (ls' := [(3, .int (x3 + 4)), (0, .ref b), (1, .ref (E.2.2.2.2.1 + o)), (2, .ref (E.2.2.2.2.1 + o2))]) C dL_law_881 3 rfl rfl (by decide) rfl rfl ?_
          refine y_goto (tgt := 18) C dL_law_884 (by decide) ?_
          refine y_ls [1, 2, 3, 0] rfl ?_
          exact ih w31 (x3 + 4)
        · refine y_iconst (n := 254) C (0 : Int32) dL_law_253 (by decide) rfl ?_
          exact y_rl C HL hR dL_law_254
      refine y_if (fun h33 => ?_) (fun h33 => ?_)
      · refine y_swIn (tgt := 255) C 223 dL_law_32 (by rw [h33]; decide) (by rw [h33]; decide) (by rw [h33]; rfl) (by decide) ?_
        refine y_aload_n (n := 256) C dL_law_255 1 rfl rfl ?_
        refine y_aload_n (n := 257) C dL_law_256 0 rfl rfl ?_
        refine y_iload_n (n := 258) C dL_law_257 3 rfl rfl ?_
        refine y_iconst (n := 259) C (1 : Int32) dL_law_258 (by decide) rfl ?_
        refine y_iadd (n := 260) C dL_law_259 rfl ?_
        refine y_sld (n := 261) C HX dL_law_260 rfl (fun v34 hv34 => ?_)
        refine y_ci2 (n := 264) C (fun r hr H locs la hP hS hl => y_runV (ci := 5) (st := []) C ky_X5_bring wd_320 ⟨Nat.le_of_ble_eq_true rfl, Nat.le_of_ble_eq_true rfl⟩ hO.1 rfl (mX5_bring hO w v34 g.2.1 r hr) rfl (Nat.le_of_ble_eq_true rfl) rfl dL_law_261 hP hS hl) rfl (fun v35 w36 hv35 => ?_)
        refine y_aload_n (n := 265) C dL_law_264 2 rfl rfl ?_
        refine y_aload_n (n := 266) C dL_law_265 0 rfl rfl ?_
        refine y_iload_n (n := 267) C dL_law_266 3 rfl rfl ?_
        refine y_iconst (n := 268) C (1 : Int32) dL_law_267 (by decide) rfl ?_
        refine y_iadd (n := 269) C dL_law_268 rfl ?_
        refine y_sld (n := 270) C HX dL_law_269 rfl (fun v37 hv37 => ?_)
        refine y_ci2 (n := 273) C (fun r hr H locs la hP hS hl => y_runV (ci := 6) (st := [.int v35]) C ky_X6_bring wd_829 ⟨Nat.le_of_ble_eq_true rfl, Nat.le_of_ble_eq_true rfl⟩ hO2.1 rfl (mX6_bring hO2 w36 v37 g.2.1 r hr) rfl (Nat.le_of_ble_eq_true rfl) rfl dL_law_270 hP hS hl) rfl (fun v38 w39 hv38 => ?_)
        refine y_icmp_eq (tgt := 881) (n := 276) C dL_law_273 (by decide) rfl (fun h40 => ?_) (fun h40 => ?_)
        · refine y_iinc (n := 884) (v := x3 + 4) (ls' := [(3, .int (x3 + 4)), (0, .ref b), (1, .ref (E.2.2.2.2.1 + o)), (2, .ref (E.2.2.2.2.1 + o2))]) C dL_law_881 3 rfl rfl (by decide) rfl rfl ?_
          refine y_goto (tgt := 18) C dL_law_884 (by decide) ?_
          refine y_ls [1, 2, 3, 0] rfl ?_
          exact ih w39 (x3 + 4)
        · refine y_iconst (n := 277) C (0 : Int32) dL_law_276 (by decide) rfl ?_
          exact y_rl C HL hR dL_law_277
      refine y_if (fun h41 => ?_) (fun h41 => ?_)
      · refine y_swIn (tgt := 278) C 246 dL_law_32 (by rw [h41]; decide) (by rw [h41]; decide) (by rw [h41]; rfl) (by decide) ?_
        refine y_aload_n (n := 279) C dL_law_278 1 rfl rfl ?_
        refine y_aload_n (n := 280) C dL_law_279 0 rfl rfl ?_
        refine y_iload_n (n := 281) C dL_law_280 3 rfl rfl ?_
        refine y_iconst (n := 282) C (1 : Int32) dL_law_281 (by decide) rfl ?_
        refine y_iadd (n := 283) C dL_law_282 rfl ?_
        refine y_sld (n := 284) C HX dL_law_283 rfl (fun v42 hv42 => ?_)
        refine y_aload_n (n := 285) C dL_law_284 0 rfl rfl ?_
        refine y_iload_n (n := 286) C dL_law_285 3 rfl rfl ?_
        refine y_iconst (n := 287) C (2 : Int32) dL_law_286 (by decide) rfl ?_
        refine y_iadd (n := 288) C dL_law_287 rfl ?_
        refine y_sld (n := 289) C HX dL_law_288 rfl (fun v43 hv43 => ?_)
        refine y_ci2 (n := 292) C (fun r hr H locs la hP hS hl => y_runV (ci := 5) (st := []) C ky_X5_weight wd_324 ⟨Nat.le_of_ble_eq_true rfl, Nat.le_of_ble_eq_true rfl⟩ hO.1 rfl (mX5_weight hO w v42 v43 g.2.1 r hr) rfl (Nat.le_of_ble_eq_true rfl) rfl dL_law_289 hP hS hl) rfl (fun v44 w45 hv44 => ?_)
        refine y_aload_n (n := 293) C dL_law_292 2 rfl rfl ?_
        refine y_aload_n (n := 294) C dL_law_293 0 rfl rfl ?_
        refine y_iload_n (n := 295) C dL_law_294 3 rfl rfl ?_
        refine y_iconst (n := 296) C (1 : Int32) dL_law_295 (by decide) rfl ?_
        refine y_iadd (n := 297) C dL_law_296 rfl ?_
        refine y_sld (n := 298) C HX dL_law_297 rfl (fun v46 hv46 => ?_)
        refine y_aload_n (n := 299) C dL_law_298 0 rfl rfl ?_
        refine y_iload_n (n := 300) C dL_law_299 3 rfl rfl ?_
        refine y_iconst (n := 301) C (2 : Int32) dL_law_300 (by decide) rfl ?_
        refine y_iadd (n := 302) C dL_law_301 rfl ?_
        refine y_sld (n := 303) C HX dL_law_302 rfl (fun v47 hv47 => ?_)
        refine y_ci2 (n := 306) C (fun r hr H locs la hP hS hl => y_runV (ci := 6) (st := [.int v44]) C ky_X6_weight wd_833 ⟨Nat.le_of_ble_eq_true rfl, Nat.le_of_ble_eq_true rfl⟩ hO2.1 rfl (mX6_weight hO2 w45 v46 v47 g.2.1 r hr) rfl (Nat.le_of_ble_eq_true rfl) rfl dL_law_303 hP hS hl) rfl (fun v48 w49 hv48 => ?_)
        refine y_icmp_eq (tgt := 881) (n := 309) C dL_law_306 (by decide) rfl (fun h50 => ?_) (fun h50 => ?_)
        · refine y_iinc (n := 884) (v := x3 + 4) (ls' := [(3, .int (x3 + 4)), (0, .ref b), (1, .ref (E.2.2.2.2.1 + o)), (2, .ref (E.2.2.2.2.1 + o2))]) C dL_law_881 3 rfl rfl (by decide) rfl rfl ?_
          refine y_goto (tgt := 18) C dL_law_884 (by decide) ?_
          refine y_ls [1, 2, 3, 0] rfl ?_
          exact ih w49 (x3 + 4)
        · refine y_iconst (n := 310) C (0 : Int32) dL_law_309 (by decide) rfl ?_
          exact y_rl C HL hR dL_law_310
      refine y_if (fun h51 => ?_) (fun h51 => ?_)
      · refine y_swIn (tgt := 311) C 279 dL_law_32 (by rw [h51]; decide) (by rw [h51]; decide) (by rw [h51]; rfl) (by decide) ?_
        refine y_aload_n (n := 312) C dL_law_311 1 rfl rfl ?_
        refine y_aload_n (n := 313) C dL_law_312 0 rfl rfl ?_
        refine y_iload_n (n := 314) C dL_law_313 3 rfl rfl ?_
        refine y_iconst (n := 315) C (1 : Int32) dL_law_314 (by decide) rfl ?_
        refine y_iadd (n := 316) C dL_law_315 rfl ?_
        refine y_sld (n := 317) C HX dL_law_316 rfl (fun v52 hv52 => ?_)
        refine y_ci2 (n := 320) C (fun r hr H locs la hP hS hl => y_runV (ci := 5) (st := []) C ky_X5_want wd_334 ⟨Nat.le_of_ble_eq_true rfl, Nat.le_of_ble_eq_true rfl⟩ hO.1 rfl (mX5_want hO w v52 g.2.1 r hr) rfl (Nat.le_of_ble_eq_true rfl) rfl dL_law_317 hP hS hl) rfl (fun v53 w54 hv53 => ?_)
        refine y_aload_n (n := 321) C dL_law_320 2 rfl rfl ?_
        refine y_aload_n (n := 322) C dL_law_321 0 rfl rfl ?_
        refine y_iload_n (n := 323) C dL_law_322 3 rfl rfl ?_
        refine y_iconst (n := 324) C (1 : Int32) dL_law_323 (by decide) rfl ?_
        refine y_iadd (n := 325) C dL_law_324 rfl ?_
        refine y_sld (n := 326) C HX dL_law_325 rfl (fun v55 hv55 => ?_)
        refine y_ci2 (n := 329) C (fun r hr H locs la hP hS hl => y_runV (ci := 6) (st := [.int v53]) C ky_X6_want wd_845 ⟨Nat.le_of_ble_eq_true rfl, Nat.le_of_ble_eq_true rfl⟩ hO2.1 rfl (mX6_want hO2 w54 v55 g.2.1 r hr) rfl (Nat.le_of_ble_eq_true rfl) rfl dL_law_326 hP hS hl) rfl (fun v56 w57 hv56 => ?_)
        refine y_icmp_eq (tgt := 881) (n := 332) C dL_law_329 (by decide) rfl (fun h58 => ?_) (fun h58 => ?_)
        · refine y_iinc (n := 884) (v := x3 + 4) (ls' := [(3, .int (x3 + 4)), (0, .ref b), (1, .ref (E.2.2.2.2.1 + o)), (2, .ref (E.2.2.2.2.1 + o2))]) C dL_law_881 3 rfl rfl (by decide) rfl rfl ?_
          refine y_goto (tgt := 18) C dL_law_884 (by decide) ?_
          refine y_ls [1, 2, 3, 0] rfl ?_
          exact ih w57 (x3 + 4)
        · refine y_iconst (n := 333) C (0 : Int32) dL_law_332 (by decide) rfl ?_
          exact y_rl C HL hR dL_law_333
      refine y_if (fun h59 => ?_) (fun h59 => ?_)
      · refine y_swIn (tgt := 334) C 302 dL_law_32 (by rw [h59]; decide) (by rw [h59]; decide) (by rw [h59]; rfl) (by decide) ?_
        refine y_aload_n (n := 335) C dL_law_334 1 rfl rfl ?_
        refine y_aload_n (n := 336) C dL_law_335 0 rfl rfl ?_
        refine y_iload_n (n := 337) C dL_law_336 3 rfl rfl ?_
        refine y_iconst (n := 338) C (1 : Int32) dL_law_337 (by decide) rfl ?_
        refine y_iadd (n := 339) C dL_law_338 rfl ?_
        refine y_sld (n := 340) C HX dL_law_339 rfl (fun v60 hv60 => ?_)
        refine y_aload_n (n := 341) C dL_law_340 0 rfl rfl ?_
        refine y_iload_n (n := 342) C dL_law_341 3 rfl rfl ?_
        refine y_iconst (n := 343) C (2 : Int32) dL_law_342 (by decide) rfl ?_
        refine y_iadd (n := 344) C dL_law_343 rfl ?_
        refine y_sld (n := 345) C HX dL_law_344 rfl (fun v61 hv61 => ?_)
        refine y_ci2 (n := 348) C (fun r hr H locs la hP hS hl => y_runV (ci := 5) (st := []) C ky_X5_bribe wd_338 ⟨Nat.le_of_ble_eq_true rfl, Nat.le_of_ble_eq_true rfl⟩ hO.1 rfl (mX5_bribe hO w v60 v61 g.2.1 r hr) rfl (Nat.le_of_ble_eq_true rfl) rfl dL_law_345 hP hS hl) rfl (fun v62 w63 hv62 => ?_)
        refine y_aload_n (n := 349) C dL_law_348 2 rfl rfl ?_
        refine y_aload_n (n := 350) C dL_law_349 0 rfl rfl ?_
        refine y_iload_n (n := 351) C dL_law_350 3 rfl rfl ?_
        refine y_iconst (n := 352) C (1 : Int32) dL_law_351 (by decide) rfl ?_
        refine y_iadd (n := 353) C dL_law_352 rfl ?_
        refine y_sld (n := 354) C HX dL_law_353 rfl (fun v64 hv64 => ?_)
        refine y_aload_n (n := 355) C dL_law_354 0 rfl rfl ?_
        refine y_iload_n (n := 356) C dL_law_355 3 rfl rfl ?_
        refine y_iconst (n := 357) C (2 : Int32) dL_law_356 (by decide) rfl ?_
        refine y_iadd (n := 358) C dL_law_357 rfl ?_
        refine y_sld (n := 359) C HX dL_law_358 rfl (fun v65 hv65 => ?_)
        refine y_ci2 (n := 362) C (fun r hr H locs la hP hS hl => y_runV (ci := 6) (st := [.int v62]) C ky_X6_bribe wd_841 ⟨Nat.le_of_ble_eq_true rfl, Nat.le_of_ble_eq_true rfl⟩ hO2.1 rfl (mX6_bribe hO2 w63 v64 v65 g.2.1 r hr) rfl (Nat.le_of_ble_eq_true rfl) rfl dL_law_359 hP hS hl) rfl (fun v66 w67 hv66 => ?_)
        refine y_icmp_eq (tgt := 881) (n := 365) C dL_law_362 (by decide) rfl (fun h68 => ?_) (fun h68 => ?_)
        · refine y_iinc (n := 884) (v := x3 + 4) (ls' := [(3, .int (x3 + 4)), (0, .ref b), (1, .ref (E.2.2.2.2.1 + o)), (2, .ref (E.2.2.2.2.1 + o2))]) C dL_law_881 3 rfl rfl (by decide) rfl rfl ?_
          refine y_goto (tgt := 18) C dL_law_884 (by decide) ?_
          refine y_ls [1, 2, 3, 0] rfl ?_
          exact ih w67 (x3 + 4)
        · refine y_iconst (n := 366) C (0 : Int32) dL_law_365 (by decide) rfl ?_
          exact y_rl C HL hR dL_law_366
      refine y_if (fun h69 => ?_) (fun h69 => ?_)
      · refine y_swIn (tgt := 367) C 335 dL_law_32 (by rw [h69]; decide) (by rw [h69]; decide) (by rw [h69]; rfl) (by decide) ?_
        refine y_aload_n (n := 368) C dL_law_367 1 rfl rfl ?_
        refine y_aload_n (n := 369) C dL_law_368 0 rfl rfl ?_
        refine y_iload_n (n := 370) C dL_law_369 3 rfl rfl ?_
        refine y_iconst (n := 371) C (1 : Int32) dL_law_370 (by decide) rfl ?_
        refine y_iadd (n := 372) C dL_law_371 rfl ?_
        refine y_sld (n := 373) C HX dL_law_372 rfl (fun v70 hv70 => ?_)
        refine y_aload_n (n := 374) C dL_law_373 0 rfl rfl ?_
        refine y_iload_n (n := 375) C dL_law_374 3 rfl rfl ?_
        refine y_iconst (n := 376) C (2 : Int32) dL_law_375 (by decide) rfl ?_
        refine y_iadd (n := 377) C dL_law_376 rfl ?_
        refine y_sld (n := 378) C HX dL_law_377 rfl (fun v71 hv71 => ?_)
        refine y_if_eq (tgt := 385) (n := 381) C dL_law_378 (by decide) rfl (fun h72 => ?_) (fun h72 => ?_)
        · refine y_iconst (n := 386) C (0 : Int32) dL_law_385 (by decide) rfl ?_
          refine y_ci2 (n := 389) C (fun r hr H locs la hP hS hl => y_runV (ci := 5) (st := []) C ky_X5_begin wd_342 ⟨Nat.le_of_ble_eq_true rfl, Nat.le_of_ble_eq_true rfl⟩ hO.1 rfl (mX5_begin hO w v70 0 g.2.1 r hr) rfl (Nat.le_of_ble_eq_true rfl) rfl dL_law_386 hP hS hl) rfl (fun v73 w74 hv73 => ?_)
          refine y_aload_n (n := 390) C dL_law_389 2 rfl rfl ?_
          refine y_aload_n (n := 391) C dL_law_390 0 rfl rfl ?_
          refine y_iload_n (n := 392) C dL_law_391 3 rfl rfl ?_
          refine y_iconst (n := 393) C (1 : Int32) dL_law_392 (by decide) rfl ?_
          refine y_iadd (n := 394) C dL_law_393 rfl ?_
          refine y_sld (n := 395) C HX dL_law_394 rfl (fun v75 hv75 => ?_)
          refine y_aload_n (n := 396) C dL_law_395 0 rfl rfl ?_
          refine y_iload_n (n := 397) C dL_law_396 3 rfl rfl ?_
          refine y_iconst (n := 398) C (2 : Int32) dL_law_397 (by decide) rfl ?_
          refine y_iadd (n := 399) C dL_law_398 rfl ?_
          refine y_sld (n := 400) C HX dL_law_399 rfl (fun v76 hv76 => ?_)
          refine y_if_eq (tgt := 407) (n := 403) C dL_law_400 (by decide) rfl (fun h77 => ?_) (fun h77 => ?_)
          · refine y_iconst (n := 408) C (0 : Int32) dL_law_407 (by decide) rfl ?_
            refine y_ci2 (n := 411) C (fun r hr H locs la hP hS hl => y_runV (ci := 6) (st := [.int v73]) C ky_X6_begin wd_881 ⟨Nat.le_of_ble_eq_true rfl, Nat.le_of_ble_eq_true rfl⟩ hO2.1 rfl (mX6_begin hO2 w74 v75 0 g.2.1 r hr) rfl (Nat.le_of_ble_eq_true rfl) rfl dL_law_408 hP hS hl) rfl (fun v78 w79 hv78 => ?_)
            refine y_icmp_eq (tgt := 881) (n := 414) C dL_law_411 (by decide) rfl (fun h80 => ?_) (fun h80 => ?_)
            · refine y_iinc (n := 884) (v := x3 + 4) (ls' := [(3, .int (x3 + 4)), (0, .ref b), (1, .ref (E.2.2.2.2.1 + o)), (2, .ref (E.2.2.2.2.1 + o2))]) C dL_law_881 3 rfl rfl (by decide) rfl rfl ?_
              refine y_goto (tgt := 18) C dL_law_884 (by decide) ?_
              refine y_ls [1, 2, 3, 0] rfl ?_
              exact ih w79 (x3 + 4)
            · refine y_iconst (n := 415) C (0 : Int32) dL_law_414 (by decide) rfl ?_
              exact y_rl C HL hR dL_law_415
          · refine y_iconst (n := 404) C (1 : Int32) dL_law_403 (by decide) rfl ?_
            refine y_goto (tgt := 408) C dL_law_404 (by decide) ?_
            refine y_ci2 (n := 411) C (fun r hr H locs la hP hS hl => y_runV (ci := 6) (st := [.int v73]) C ky_X6_begin wd_881 ⟨Nat.le_of_ble_eq_true rfl, Nat.le_of_ble_eq_true rfl⟩ hO2.1 rfl (mX6_begin hO2 w74 v75 1 g.2.1 r hr) rfl (Nat.le_of_ble_eq_true rfl) rfl dL_law_408 hP hS hl) rfl (fun v81 w82 hv81 => ?_)
            refine y_icmp_eq (tgt := 881) (n := 414) C dL_law_411 (by decide) rfl (fun h83 => ?_) (fun h83 => ?_)
            · refine y_iinc (n := 884) (v := x3 + 4) (ls' := [(3, .int (x3 + 4)), (0, .ref b), (1, .ref (E.2.2.2.2.1 + o)), (2, .ref (E.2.2.2.2.1 + o2))]) C dL_law_881 3 rfl rfl (by decide) rfl rfl ?_
              refine y_goto (tgt := 18) C dL_law_884 (by decide) ?_
              refine y_ls [1, 2, 3, 0] rfl ?_
              exact ih w82 (x3 + 4)
            · refine y_iconst (n := 415) C (0 : Int32) dL_law_414 (by decide) rfl ?_
              exact y_rl C HL hR dL_law_415
        · refine y_iconst (n := 382) C (1 : Int32) dL_law_381 (by decide) rfl ?_
          refine y_goto (tgt := 386) C dL_law_382 (by decide) ?_
          refine y_ci2 (n := 389) C (fun r hr H locs la hP hS hl => y_runV (ci := 5) (st := []) C ky_X5_begin wd_342 ⟨Nat.le_of_ble_eq_true rfl, Nat.le_of_ble_eq_true rfl⟩ hO.1 rfl (mX5_begin hO w v70 1 g.2.1 r hr) rfl (Nat.le_of_ble_eq_true rfl) rfl dL_law_386 hP hS hl) rfl (fun v84 w85 hv84 => ?_)
          refine y_aload_n (n := 390) C dL_law_389 2 rfl rfl ?_
          refine y_aload_n (n := 391) C dL_law_390 0 rfl rfl ?_
          refine y_iload_n (n := 392) C dL_law_391 3 rfl rfl ?_
          refine y_iconst (n := 393) C (1 : Int32) dL_law_392 (by decide) rfl ?_
          refine y_iadd (n := 394) C dL_law_393 rfl ?_
          refine y_sld (n := 395) C HX dL_law_394 rfl (fun v86 hv86 => ?_)
          refine y_aload_n (n := 396) C dL_law_395 0 rfl rfl ?_
          refine y_iload_n (n := 397) C dL_law_396 3 rfl rfl ?_
          refine y_iconst (n := 398) C (2 : Int32) dL_law_397 (by decide) rfl ?_
          refine y_iadd (n := 399) C dL_law_398 rfl ?_
          refine y_sld (n := 400) C HX dL_law_399 rfl (fun v87 hv87 => ?_)
          refine y_if_eq (tgt := 407) (n := 403) C dL_law_400 (by decide) rfl (fun h88 => ?_) (fun h88 => ?_)
          · refine y_iconst (n := 408) C (0 : Int32) dL_law_407 (by decide) rfl ?_
            refine y_ci2 (n := 411) C (fun r hr H locs la hP hS hl => y_runV (ci := 6) (st := [.int v84]) C ky_X6_begin wd_881 ⟨Nat.le_of_ble_eq_true rfl, Nat.le_of_ble_eq_true rfl⟩ hO2.1 rfl (mX6_begin hO2 w85 v86 0 g.2.1 r hr) rfl (Nat.le_of_ble_eq_true rfl) rfl dL_law_408 hP hS hl) rfl (fun v89 w90 hv89 => ?_)
            refine y_icmp_eq (tgt := 881) (n := 414) C dL_law_411 (by decide) rfl (fun h91 => ?_) (fun h91 => ?_)
            · refine y_iinc (n := 884) (v := x3 + 4) (ls' := [(3, .int (x3 + 4)), (0, .ref b), (1, .ref (E.2.2.2.2.1 + o)), (2, .ref (E.2.2.2.2.1 + o2))]) C dL_law_881 3 rfl rfl (by decide) rfl rfl ?_
              refine y_goto (tgt := 18) C dL_law_884 (by decide) ?_
              refine y_ls [1, 2, 3, 0] rfl ?_
              exact ih w90 (x3 + 4)
            · refine y_iconst (n := 415) C (0 : Int32) dL_law_414 (by decide) rfl ?_
              exact y_rl C HL hR dL_law_415
          · refine y_iconst (n := 404) C (1 : Int32) dL_law_403 (by decide) rfl ?_
            refine y_goto (tgt := 408) C dL_law_404 (by decide) ?_
            refine y_ci2 (n := 411) C (fun r hr H locs la hP hS hl => y_runV (ci := 6) (st := [.int v84]) C ky_X6_begin wd_881 ⟨Nat.le_of_ble_eq_true rfl, Nat.le_of_ble_eq_true rfl⟩ hO2.1 rfl (mX6_begin hO2 w85 v86 1 g.2.1 r hr) rfl (Nat.le_of_ble_eq_true rfl) rfl dL_law_408 hP hS hl) rfl (fun v92 w93 hv92 => ?_)
            refine y_icmp_eq (tgt := 881) (n := 414) C dL_law_411 (by decide) rfl (fun h94 => ?_) (fun h94 => ?_)
            · refine y_iinc (n := 884) (v := x3 + 4) (ls' := [(3, .int (x3 + 4)), (0, .ref b), (1, .ref (E.2.2.2.2.1 + o)), (2, .ref (E.2.2.2.2.1 + o2))]) C dL_law_881 3 rfl rfl (by decide) rfl rfl ?_
              refine y_goto (tgt := 18) C dL_law_884 (by decide) ?_
              refine y_ls [1, 2, 3, 0] rfl ?_
              exact ih w93 (x3 + 4)
            · refine y_iconst (n := 415) C (0 : Int32) dL_law_414 (by decide) rfl ?_
              exact y_rl C HL hR dL_law_415
      refine y_if (fun h95 => ?_) (fun h95 => ?_)
      · refine y_swIn (tgt := 416) C 384 dL_law_32 (by rw [h95]; decide) (by rw [h95]; decide) (by rw [h95]; rfl) (by decide) ?_
        refine y_aload_n (n := 417) C dL_law_416 1 rfl rfl ?_
        refine y_aload_n (n := 418) C dL_law_417 0 rfl rfl ?_
        refine y_iload_n (n := 419) C dL_law_418 3 rfl rfl ?_
        refine y_iconst (n := 420) C (1 : Int32) dL_law_419 (by decide) rfl ?_
        refine y_iadd (n := 421) C dL_law_420 rfl ?_
        refine y_sld (n := 422) C HX dL_law_421 rfl (fun v96 hv96 => ?_)
        refine y_ci2 (n := 425) C (fun r hr H locs la hP hS hl => y_runV (ci := 5) (st := []) C ky_X5_step wd_405 ⟨Nat.le_of_ble_eq_true rfl, Nat.le_of_ble_eq_true rfl⟩ hO.1 rfl (mX5_step hO w v96 g.2.1 r hr) rfl (Nat.le_of_ble_eq_true rfl) rfl dL_law_422 hP hS hl) rfl (fun v97 w98 hv97 => ?_)
        refine y_aload_n (n := 426) C dL_law_425 2 rfl rfl ?_
        refine y_aload_n (n := 427) C dL_law_426 0 rfl rfl ?_
        refine y_iload_n (n := 428) C dL_law_427 3 rfl rfl ?_
        refine y_iconst (n := 429) C (1 : Int32) dL_law_428 (by decide) rfl ?_
        refine y_iadd (n := 430) C dL_law_429 rfl ?_
        refine y_sld (n := 431) C HX dL_law_430 rfl (fun v99 hv99 => ?_)
        refine y_ci2 (n := 434) C (fun r hr H locs la hP hS hl => y_runV (ci := 6) (st := [.int v97]) C ky_X6_step wd_953 ⟨Nat.le_of_ble_eq_true rfl, Nat.le_of_ble_eq_true rfl⟩ hO2.1 rfl (mX6_step hO2 w98 v99 g.2.1 r hr) rfl (Nat.le_of_ble_eq_true rfl) rfl dL_law_431 hP hS hl) rfl (fun v100 w101 hv100 => ?_)
        refine y_icmp_eq (tgt := 881) (n := 437) C dL_law_434 (by decide) rfl (fun h102 => ?_) (fun h102 => ?_)
        · refine y_iinc (n := 884) (v := x3 + 4) (ls' := [(3, .int (x3 + 4)), (0, .ref b), (1, .ref (E.2.2.2.2.1 + o)), (2, .ref (E.2.2.2.2.1 + o2))]) C dL_law_881 3 rfl rfl (by decide) rfl rfl ?_
          refine y_goto (tgt := 18) C dL_law_884 (by decide) ?_
          refine y_ls [1, 2, 3, 0] rfl ?_
          exact ih w101 (x3 + 4)
        · refine y_iconst (n := 438) C (0 : Int32) dL_law_437 (by decide) rfl ?_
          exact y_rl C HL hR dL_law_438
      refine y_if (fun h103 => ?_) (fun h103 => ?_)
      · refine y_swIn (tgt := 439) C 407 dL_law_32 (by rw [h103]; decide) (by rw [h103]; decide) (by rw [h103]; rfl) (by decide) ?_
        refine y_aload_n (n := 440) C dL_law_439 1 rfl rfl ?_
        refine y_ci2 (n := 443) C (fun r hr H locs la hP hS hl => y_runV (ci := 5) (st := []) C ky_X5_end wd_462 ⟨Nat.le_of_ble_eq_true rfl, Nat.le_of_ble_eq_true rfl⟩ hO.1 rfl (mX5_end hO w g.2.1 r hr) rfl (Nat.le_of_ble_eq_true rfl) rfl dL_law_440 hP hS hl) rfl (fun v104 w105 hv104 => ?_)
        refine y_aload_n (n := 444) C dL_law_443 2 rfl rfl ?_
        refine y_ci2 (n := 447) C (fun r hr H locs la hP hS hl => y_runV (ci := 6) (st := [.int v104]) C ky_X6_end wd_973 ⟨Nat.le_of_ble_eq_true rfl, Nat.le_of_ble_eq_true rfl⟩ hO2.1 rfl (mX6_end hO2 w105 g.2.1 r hr) rfl (Nat.le_of_ble_eq_true rfl) rfl dL_law_444 hP hS hl) rfl (fun v106 w107 hv106 => ?_)
        refine y_icmp_eq (tgt := 881) (n := 450) C dL_law_447 (by decide) rfl (fun h108 => ?_) (fun h108 => ?_)
        · refine y_iinc (n := 884) (v := x3 + 4) (ls' := [(3, .int (x3 + 4)), (0, .ref b), (1, .ref (E.2.2.2.2.1 + o)), (2, .ref (E.2.2.2.2.1 + o2))]) C dL_law_881 3 rfl rfl (by decide) rfl rfl ?_
          refine y_goto (tgt := 18) C dL_law_884 (by decide) ?_
          refine y_ls [1, 2, 3, 0] rfl ?_
          exact ih w107 (x3 + 4)
        · refine y_iconst (n := 451) C (0 : Int32) dL_law_450 (by decide) rfl ?_
          exact y_rl C HL hR dL_law_451
      refine y_if (fun h109 => ?_) (fun h109 => ?_)
      · refine y_swIn (tgt := 452) C 420 dL_law_32 (by rw [h109]; decide) (by rw [h109]; decide) (by rw [h109]; rfl) (by decide) ?_
        refine y_aload_n (n := 453) C dL_law_452 1 rfl rfl ?_
        refine y_aload_n (n := 454) C dL_law_453 0 rfl rfl ?_
        refine y_iload_n (n := 455) C dL_law_454 3 rfl rfl ?_
        refine y_iconst (n := 456) C (1 : Int32) dL_law_455 (by decide) rfl ?_
        refine y_iadd (n := 457) C dL_law_456 rfl ?_
        refine y_sld (n := 458) C HX dL_law_457 rfl (fun v110 hv110 => ?_)
        refine y_i2c (n := 459) C dL_law_458 rfl ?_
        refine y_ci2 (n := 462) C (fun r hr H locs la hP hS hl => y_runV (ci := 5) (st := []) C ky_X5_type wd_471 ⟨Nat.le_of_ble_eq_true rfl, Nat.le_of_ble_eq_true rfl⟩ hO.1 rfl (mX5_type hO w ((Int32.toUInt32 v110 % 65536).toInt32) g.2.1 r hr) rfl (Nat.le_of_ble_eq_true rfl) rfl dL_law_459 hP hS hl) rfl (fun v111 w112 hv111 => ?_)
        refine y_aload_n (n := 463) C dL_law_462 2 rfl rfl ?_
        refine y_aload_n (n := 464) C dL_law_463 0 rfl rfl ?_
        refine y_iload_n (n := 465) C dL_law_464 3 rfl rfl ?_
        refine y_iconst (n := 466) C (1 : Int32) dL_law_465 (by decide) rfl ?_
        refine y_iadd (n := 467) C dL_law_466 rfl ?_
        refine y_sld (n := 468) C HX dL_law_467 rfl (fun v113 hv113 => ?_)
        refine y_i2c (n := 469) C dL_law_468 rfl ?_
        refine y_ci2 (n := 472) C (fun r hr H locs la hP hS hl => y_runV (ci := 6) (st := [.int v111]) C ky_X6_type wd_1037 ⟨Nat.le_of_ble_eq_true rfl, Nat.le_of_ble_eq_true rfl⟩ hO2.1 rfl (mX6_type hO2 w112 ((Int32.toUInt32 v113 % 65536).toInt32) g.2.1 r hr) rfl (Nat.le_of_ble_eq_true rfl) rfl dL_law_469 hP hS hl) rfl (fun v114 w115 hv114 => ?_)
        refine y_icmp_eq (tgt := 881) (n := 475) C dL_law_472 (by decide) rfl (fun h116 => ?_) (fun h116 => ?_)
        · refine y_iinc (n := 884) (v := x3 + 4) (ls' := [(3, .int (x3 + 4)), (0, .ref b), (1, .ref (E.2.2.2.2.1 + o)), (2, .ref (E.2.2.2.2.1 + o2))]) C dL_law_881 3 rfl rfl (by decide) rfl rfl ?_
          refine y_goto (tgt := 18) C dL_law_884 (by decide) ?_
          refine y_ls [1, 2, 3, 0] rfl ?_
          exact ih w115 (x3 + 4)
        · refine y_iconst (n := 476) C (0 : Int32) dL_law_475 (by decide) rfl ?_
          exact y_rl C HL hR dL_law_476
      refine y_if (fun h117 => ?_) (fun h117 => ?_)
      · refine y_swIn (tgt := 477) C 445 dL_law_32 (by rw [h117]; decide) (by rw [h117]; decide) (by rw [h117]; rfl) (by decide) ?_
        refine y_aload_n (n := 478) C dL_law_477 1 rfl rfl ?_
        refine y_ci2 (n := 481) C (fun r hr H locs la hP hS hl => y_runV (ci := 5) (st := []) C ky_X5_clearText wd_479 ⟨Nat.le_of_ble_eq_true rfl, Nat.le_of_ble_eq_true rfl⟩ hO.1 rfl (mX5_clearText hO w g.2.1 r hr) rfl (Nat.le_of_ble_eq_true rfl) rfl dL_law_478 hP hS hl) rfl (fun v118 w119 hv118 => ?_)
        refine y_aload_n (n := 482) C dL_law_481 2 rfl rfl ?_
        refine y_ci2 (n := 485) C (fun r hr H locs la hP hS hl => y_runV (ci := 6) (st := [.int v118]) C ky_X6_clearText wd_1041 ⟨Nat.le_of_ble_eq_true rfl, Nat.le_of_ble_eq_true rfl⟩ hO2.1 rfl (mX6_clearText hO2 w119 g.2.1 r hr) rfl (Nat.le_of_ble_eq_true rfl) rfl dL_law_482 hP hS hl) rfl (fun v120 w121 hv120 => ?_)
        refine y_icmp_eq (tgt := 881) (n := 488) C dL_law_485 (by decide) rfl (fun h122 => ?_) (fun h122 => ?_)
        · refine y_iinc (n := 884) (v := x3 + 4) (ls' := [(3, .int (x3 + 4)), (0, .ref b), (1, .ref (E.2.2.2.2.1 + o)), (2, .ref (E.2.2.2.2.1 + o2))]) C dL_law_881 3 rfl rfl (by decide) rfl rfl ?_
          refine y_goto (tgt := 18) C dL_law_884 (by decide) ?_
          refine y_ls [1, 2, 3, 0] rfl ?_
          exact ih w121 (x3 + 4)
        · refine y_iconst (n := 489) C (0 : Int32) dL_law_488 (by decide) rfl ?_
          exact y_rl C HL hR dL_law_489
      refine y_if (fun h123 => ?_) (fun h123 => ?_)
      · refine y_swIn (tgt := 490) C 458 dL_law_32 (by rw [h123]; decide) (by rw [h123]; decide) (by rw [h123]; rfl) (by decide) ?_
        refine y_aload_n (n := 491) C dL_law_490 1 rfl rfl ?_
        refine y_ci2 (n := 494) C (fun r hr H locs la hP hS hl => y_runV (ci := 5) (st := []) C ky_X5_perform wd_483 ⟨Nat.le_of_ble_eq_true rfl, Nat.le_of_ble_eq_true rfl⟩ hO.1 rfl (mX5_perform hO w g.2.1 r hr) rfl (Nat.le_of_ble_eq_true rfl) rfl dL_law_491 hP hS hl) rfl (fun v124 w125 hv124 => ?_)
        refine y_aload_n (n := 495) C dL_law_494 2 rfl rfl ?_
        refine y_ci2 (n := 498) C (fun r hr H locs la hP hS hl => y_runV (ci := 6) (st := [.int v124]) C ky_X6_perform wd_1045 ⟨Nat.le_of_ble_eq_true rfl, Nat.le_of_ble_eq_true rfl⟩ hO2.1 rfl (mX6_perform hO2 w125 g.2.1 r hr) rfl (Nat.le_of_ble_eq_true rfl) rfl dL_law_495 hP hS hl) rfl (fun v126 w127 hv126 => ?_)
        refine y_icmp_eq (tgt := 881) (n := 501) C dL_law_498 (by decide) rfl (fun h128 => ?_) (fun h128 => ?_)
        · refine y_iinc (n := 884) (v := x3 + 4) (ls' := [(3, .int (x3 + 4)), (0, .ref b), (1, .ref (E.2.2.2.2.1 + o)), (2, .ref (E.2.2.2.2.1 + o2))]) C dL_law_881 3 rfl rfl (by decide) rfl rfl ?_
          refine y_goto (tgt := 18) C dL_law_884 (by decide) ?_
          refine y_ls [1, 2, 3, 0] rfl ?_
          exact ih w127 (x3 + 4)
        · refine y_iconst (n := 502) C (0 : Int32) dL_law_501 (by decide) rfl ?_
          exact y_rl C HL hR dL_law_502
      refine y_if (fun h129 => ?_) (fun h129 => ?_)
      · refine y_swIn (tgt := 503) C 471 dL_law_32 (by rw [h129]; decide) (by rw [h129]; decide) (by rw [h129]; rfl) (by decide) ?_
        refine y_aload_n (n := 504) C dL_law_503 1 rfl rfl ?_
        refine y_ci2 (n := 507) C (fun r hr H locs la hP hS hl => y_runV (ci := 5) (st := []) C ky_X5_undo wd_588 ⟨Nat.le_of_ble_eq_true rfl, Nat.le_of_ble_eq_true rfl⟩ hO.1 rfl (mX5_undo hO w g.2.1 r hr) rfl (Nat.le_of_ble_eq_true rfl) rfl dL_law_504 hP hS hl) rfl (fun v130 w131 hv130 => ?_)
        refine y_aload_n (n := 508) C dL_law_507 2 rfl rfl ?_
        refine y_ci2 (n := 511) C (fun r hr H locs la hP hS hl => y_runV (ci := 6) (st := [.int v130]) C ky_X6_undo wd_768 ⟨Nat.le_of_ble_eq_true rfl, Nat.le_of_ble_eq_true rfl⟩ hO2.1 rfl (mX6_undo hO2 w131 g.2.1 r hr) rfl (Nat.le_of_ble_eq_true rfl) rfl dL_law_508 hP hS hl) rfl (fun v132 w133 hv132 => ?_)
        refine y_icmp_eq (tgt := 881) (n := 514) C dL_law_511 (by decide) rfl (fun h134 => ?_) (fun h134 => ?_)
        · refine y_iinc (n := 884) (v := x3 + 4) (ls' := [(3, .int (x3 + 4)), (0, .ref b), (1, .ref (E.2.2.2.2.1 + o)), (2, .ref (E.2.2.2.2.1 + o2))]) C dL_law_881 3 rfl rfl (by decide) rfl rfl ?_
          refine y_goto (tgt := 18) C dL_law_884 (by decide) ?_
          refine y_ls [1, 2, 3, 0] rfl ?_
          exact ih w133 (x3 + 4)
        · refine y_iconst (n := 515) C (0 : Int32) dL_law_514 (by decide) rfl ?_
          exact y_rl C HL hR dL_law_515
      refine y_if (fun h135 => ?_) (fun h135 => ?_)
      · refine y_swIn (tgt := 516) C 484 dL_law_32 (by rw [h135]; decide) (by rw [h135]; decide) (by rw [h135]; rfl) (by decide) ?_
        refine y_aload_n (n := 517) C dL_law_516 1 rfl rfl ?_
        refine y_ci2 (n := 520) C (fun r hr H locs la hP hS hl => y_runV (ci := 5) (st := []) C ky_X5_keep wd_596 ⟨Nat.le_of_ble_eq_true rfl, Nat.le_of_ble_eq_true rfl⟩ hO.1 rfl (mX5_keep hO w g.2.1 r hr) rfl (Nat.le_of_ble_eq_true rfl) rfl dL_law_517 hP hS hl) rfl (fun v136 w137 hv136 => ?_)
        refine y_aload_n (n := 521) C dL_law_520 2 rfl rfl ?_
        refine y_ci2 (n := 524) C (fun r hr H locs la hP hS hl => y_runV (ci := 6) (st := [.int v136]) C ky_X6_keep wd_772 ⟨Nat.le_of_ble_eq_true rfl, Nat.le_of_ble_eq_true rfl⟩ hO2.1 rfl (mX6_keep hO2 w137 g.2.1 r hr) rfl (Nat.le_of_ble_eq_true rfl) rfl dL_law_521 hP hS hl) rfl (fun v138 w139 hv138 => ?_)
        refine y_icmp_eq (tgt := 881) (n := 527) C dL_law_524 (by decide) rfl (fun h140 => ?_) (fun h140 => ?_)
        · refine y_iinc (n := 884) (v := x3 + 4) (ls' := [(3, .int (x3 + 4)), (0, .ref b), (1, .ref (E.2.2.2.2.1 + o)), (2, .ref (E.2.2.2.2.1 + o2))]) C dL_law_881 3 rfl rfl (by decide) rfl rfl ?_
          refine y_goto (tgt := 18) C dL_law_884 (by decide) ?_
          refine y_ls [1, 2, 3, 0] rfl ?_
          exact ih w139 (x3 + 4)
        · refine y_iconst (n := 528) C (0 : Int32) dL_law_527 (by decide) rfl ?_
          exact y_rl C HL hR dL_law_528
      refine y_if (fun h141 => ?_) (fun h141 => ?_)
      · refine y_swIn (tgt := 529) C 497 dL_law_32 (by rw [h141]; decide) (by rw [h141]; decide) (by rw [h141]; rfl) (by decide) ?_
        refine y_aload_n (n := 530) C dL_law_529 1 rfl rfl ?_
        refine y_ci2 (n := 533) C (fun r hr H locs la hP hS hl => y_runV (ci := 5) (st := []) C ky_X5_restore wd_605 ⟨Nat.le_of_ble_eq_true rfl, Nat.le_of_ble_eq_true rfl⟩ hO.1 rfl (mX5_restore hO w g.2.1 r hr) rfl (Nat.le_of_ble_eq_true rfl) rfl dL_law_530 hP hS hl) rfl (fun v142 w143 hv142 => ?_)
        refine y_aload_n (n := 534) C dL_law_533 2 rfl rfl ?_
        refine y_ci2 (n := 537) C (fun r hr H locs la hP hS hl => y_runV (ci := 6) (st := [.int v142]) C ky_X6_restore wd_780 ⟨Nat.le_of_ble_eq_true rfl, Nat.le_of_ble_eq_true rfl⟩ hO2.1 rfl (mX6_restore hO2 w143 g.2.1 r hr) rfl (Nat.le_of_ble_eq_true rfl) rfl dL_law_534 hP hS hl) rfl (fun v144 w145 hv144 => ?_)
        refine y_icmp_eq (tgt := 881) (n := 540) C dL_law_537 (by decide) rfl (fun h146 => ?_) (fun h146 => ?_)
        · refine y_iinc (n := 884) (v := x3 + 4) (ls' := [(3, .int (x3 + 4)), (0, .ref b), (1, .ref (E.2.2.2.2.1 + o)), (2, .ref (E.2.2.2.2.1 + o2))]) C dL_law_881 3 rfl rfl (by decide) rfl rfl ?_
          refine y_goto (tgt := 18) C dL_law_884 (by decide) ?_
          refine y_ls [1, 2, 3, 0] rfl ?_
          exact ih w145 (x3 + 4)
        · refine y_iconst (n := 541) C (0 : Int32) dL_law_540 (by decide) rfl ?_
          exact y_rl C HL hR dL_law_541
      refine y_if (fun h147 => ?_) (fun h147 => ?_)
      · refine y_swIn (tgt := 542) C 510 dL_law_32 (by rw [h147]; decide) (by rw [h147]; decide) (by rw [h147]; rfl) (by decide) ?_
        refine y_aload_n (n := 543) C dL_law_542 1 rfl rfl ?_
        refine y_aload_n (n := 544) C dL_law_543 0 rfl rfl ?_
        refine y_iload_n (n := 545) C dL_law_544 3 rfl rfl ?_
        refine y_iconst (n := 546) C (1 : Int32) dL_law_545 (by decide) rfl ?_
        refine y_iadd (n := 547) C dL_law_546 rfl ?_
        refine y_sld (n := 548) C HX dL_law_547 rfl (fun v148 hv148 => ?_)
        refine y_aload_n (n := 549) C dL_law_548 0 rfl rfl ?_
        refine y_iload_n (n := 550) C dL_law_549 3 rfl rfl ?_
        refine y_iconst (n := 551) C (2 : Int32) dL_law_550 (by decide) rfl ?_
        refine y_iadd (n := 552) C dL_law_551 rfl ?_
        refine y_sld (n := 553) C HX dL_law_552 rfl (fun v149 hv149 => ?_)
        refine y_cp (n := 556) C (fun r hr H locs la hP hS hl => y_runV (ci := 5) (st := []) C ky_X5_list wd_609 ⟨Nat.le_of_ble_eq_true rfl, Nat.le_of_ble_eq_true rfl⟩ hO.1 rfl (mX5_list hO w v148 v149 g.2.1 r hr) rfl (Nat.le_of_ble_eq_true rfl) rfl dL_law_553 hP hS hl) rfl (fun v150 hv150 => ?_)
        refine y_aload_n (n := 557) C dL_law_556 2 rfl rfl ?_
        refine y_aload_n (n := 558) C dL_law_557 0 rfl rfl ?_
        refine y_iload_n (n := 559) C dL_law_558 3 rfl rfl ?_
        refine y_iconst (n := 560) C (1 : Int32) dL_law_559 (by decide) rfl ?_
        refine y_iadd (n := 561) C dL_law_560 rfl ?_
        refine y_sld (n := 562) C HX dL_law_561 rfl (fun v151 hv151 => ?_)
        refine y_aload_n (n := 563) C dL_law_562 0 rfl rfl ?_
        refine y_iload_n (n := 564) C dL_law_563 3 rfl rfl ?_
        refine y_iconst (n := 565) C (2 : Int32) dL_law_564 (by decide) rfl ?_
        refine y_iadd (n := 566) C dL_law_565 rfl ?_
        refine y_sld (n := 567) C HX dL_law_566 rfl (fun v152 hv152 => ?_)
        refine y_cp (n := 570) C (fun r hr H locs la hP hS hl => y_runV (ci := 6) (st := [.int v150]) C ky_X6_list wd_873 ⟨Nat.le_of_ble_eq_true rfl, Nat.le_of_ble_eq_true rfl⟩ hO2.1 rfl (mX6_list hO2 w v151 v152 g.2.1 r hr) rfl (Nat.le_of_ble_eq_true rfl) rfl dL_law_567 hP hS hl) rfl (fun v153 hv153 => ?_)
        refine y_icmp_eq (tgt := 881) (n := 573) C dL_law_570 (by decide) rfl (fun h154 => ?_) (fun h154 => ?_)
        · refine y_iinc (n := 884) (v := x3 + 4) (ls' := [(3, .int (x3 + 4)), (0, .ref b), (1, .ref (E.2.2.2.2.1 + o)), (2, .ref (E.2.2.2.2.1 + o2))]) C dL_law_881 3 rfl rfl (by decide) rfl rfl ?_
          refine y_goto (tgt := 18) C dL_law_884 (by decide) ?_
          refine y_ls [1, 2, 3, 0] rfl ?_
          exact ih w (x3 + 4)
        · refine y_iconst (n := 574) C (0 : Int32) dL_law_573 (by decide) rfl ?_
          exact y_rl C HL hR dL_law_574
      refine y_if (fun h155 => ?_) (fun h155 => ?_)
      · refine y_swIn (tgt := 575) C 543 dL_law_32 (by rw [h155]; decide) (by rw [h155]; decide) (by rw [h155]; rfl) (by decide) ?_
        refine y_aload_n (n := 576) C dL_law_575 1 rfl rfl ?_
        refine y_aload_n (n := 577) C dL_law_576 0 rfl rfl ?_
        refine y_iload_n (n := 578) C dL_law_577 3 rfl rfl ?_
        refine y_iconst (n := 579) C (1 : Int32) dL_law_578 (by decide) rfl ?_
        refine y_iadd (n := 580) C dL_law_579 rfl ?_
        refine y_sld (n := 581) C HX dL_law_580 rfl (fun v156 hv156 => ?_)
        refine y_aload_n (n := 582) C dL_law_581 0 rfl rfl ?_
        refine y_iload_n (n := 583) C dL_law_582 3 rfl rfl ?_
        refine y_iconst (n := 584) C (2 : Int32) dL_law_583 (by decide) rfl ?_
        refine y_iadd (n := 585) C dL_law_584 rfl ?_
        refine y_sld (n := 586) C HX dL_law_585 rfl (fun v157 hv157 => ?_)
        refine y_aload_n (n := 587) C dL_law_586 0 rfl rfl ?_
        refine y_iload_n (n := 588) C dL_law_587 3 rfl rfl ?_
        refine y_iconst (n := 589) C (3 : Int32) dL_law_588 (by decide) rfl ?_
        refine y_iadd (n := 590) C dL_law_589 rfl ?_
        refine y_sld (n := 591) C HX dL_law_590 rfl (fun v158 hv158 => ?_)
        refine y_cp (n := 594) C (fun r hr H locs la hP hS hl => y_runV (ci := 5) (st := []) C ky_X5_entry wd_620 ⟨Nat.le_of_ble_eq_true rfl, Nat.le_of_ble_eq_true rfl⟩ hO.1 rfl (mX5_entry hO w v156 v157 v158 g.2.1 r hr) rfl (Nat.le_of_ble_eq_true rfl) rfl dL_law_591 hP hS hl) rfl (fun v159 hv159 => ?_)
        refine y_aload_n (n := 595) C dL_law_594 2 rfl rfl ?_
        refine y_aload_n (n := 596) C dL_law_595 0 rfl rfl ?_
        refine y_iload_n (n := 597) C dL_law_596 3 rfl rfl ?_
        refine y_iconst (n := 598) C (1 : Int32) dL_law_597 (by decide) rfl ?_
        refine y_iadd (n := 599) C dL_law_598 rfl ?_
        refine y_sld (n := 600) C HX dL_law_599 rfl (fun v160 hv160 => ?_)
        refine y_aload_n (n := 601) C dL_law_600 0 rfl rfl ?_
        refine y_iload_n (n := 602) C dL_law_601 3 rfl rfl ?_
        refine y_iconst (n := 603) C (2 : Int32) dL_law_602 (by decide) rfl ?_
        refine y_iadd (n := 604) C dL_law_603 rfl ?_
        refine y_sld (n := 605) C HX dL_law_604 rfl (fun v161 hv161 => ?_)
        refine y_aload_n (n := 606) C dL_law_605 0 rfl rfl ?_
        refine y_iload_n (n := 607) C dL_law_606 3 rfl rfl ?_
        refine y_iconst (n := 608) C (3 : Int32) dL_law_607 (by decide) rfl ?_
        refine y_iadd (n := 609) C dL_law_608 rfl ?_
        refine y_sld (n := 610) C HX dL_law_609 rfl (fun v162 hv162 => ?_)
        refine y_cp (n := 613) C (fun r hr H locs la hP hS hl => y_runV (ci := 6) (st := [.int v159]) C ky_X6_entry wd_877 ⟨Nat.le_of_ble_eq_true rfl, Nat.le_of_ble_eq_true rfl⟩ hO2.1 rfl (mX6_entry hO2 w v160 v161 v162 g.2.1 r hr) rfl (Nat.le_of_ble_eq_true rfl) rfl dL_law_610 hP hS hl) rfl (fun v163 hv163 => ?_)
        refine y_icmp_eq (tgt := 881) (n := 616) C dL_law_613 (by decide) rfl (fun h164 => ?_) (fun h164 => ?_)
        · refine y_iinc (n := 884) (v := x3 + 4) (ls' := [(3, .int (x3 + 4)), (0, .ref b), (1, .ref (E.2.2.2.2.1 + o)), (2, .ref (E.2.2.2.2.1 + o2))]) C dL_law_881 3 rfl rfl (by decide) rfl rfl ?_
          refine y_goto (tgt := 18) C dL_law_884 (by decide) ?_
          refine y_ls [1, 2, 3, 0] rfl ?_
          exact ih w (x3 + 4)
        · refine y_iconst (n := 617) C (0 : Int32) dL_law_616 (by decide) rfl ?_
          exact y_rl C HL hR dL_law_617
      refine y_if (fun h165 => ?_) (fun h165 => ?_)
      · refine y_swIn (tgt := 618) C 586 dL_law_32 (by rw [h165]; decide) (by rw [h165]; decide) (by rw [h165]; rfl) (by decide) ?_
        refine y_aload_n (n := 619) C dL_law_618 1 rfl rfl ?_
        refine y_aload_n (n := 620) C dL_law_619 0 rfl rfl ?_
        refine y_iload_n (n := 621) C dL_law_620 3 rfl rfl ?_
        refine y_iconst (n := 622) C (1 : Int32) dL_law_621 (by decide) rfl ?_
        refine y_iadd (n := 623) C dL_law_622 rfl ?_
        refine y_sld (n := 624) C HX dL_law_623 rfl (fun v166 hv166 => ?_)
        refine y_aload_n (n := 625) C dL_law_624 0 rfl rfl ?_
        refine y_iload_n (n := 626) C dL_law_625 3 rfl rfl ?_
        refine y_iconst (n := 627) C (2 : Int32) dL_law_626 (by decide) rfl ?_
        refine y_iadd (n := 628) C dL_law_627 rfl ?_
        refine y_sld (n := 629) C HX dL_law_628 rfl (fun v167 hv167 => ?_)
        refine y_cp (n := 632) C (fun r hr H locs la hP hS hl => y_runV (ci := 5) (st := []) C ky_X5_document wd_625 ⟨Nat.le_of_ble_eq_true rfl, Nat.le_of_ble_eq_true rfl⟩ hO.1 rfl (mX5_document hO w v166 v167 g.2.1 r hr) rfl (Nat.le_of_ble_eq_true rfl) rfl dL_law_629 hP hS hl) rfl (fun v168 hv168 => ?_)
        refine y_aload_n (n := 633) C dL_law_632 2 rfl rfl ?_
        refine y_aload_n (n := 634) C dL_law_633 0 rfl rfl ?_
        refine y_iload_n (n := 635) C dL_law_634 3 rfl rfl ?_
        refine y_iconst (n := 636) C (1 : Int32) dL_law_635 (by decide) rfl ?_
        refine y_iadd (n := 637) C dL_law_636 rfl ?_
        refine y_sld (n := 638) C HX dL_law_637 rfl (fun v169 hv169 => ?_)
        refine y_aload_n (n := 639) C dL_law_638 0 rfl rfl ?_
        refine y_iload_n (n := 640) C dL_law_639 3 rfl rfl ?_
        refine y_iconst (n := 641) C (2 : Int32) dL_law_640 (by decide) rfl ?_
        refine y_iadd (n := 642) C dL_law_641 rfl ?_
        refine y_sld (n := 643) C HX dL_law_642 rfl (fun v170 hv170 => ?_)
        refine y_cp (n := 646) C (fun r hr H locs la hP hS hl => y_runV (ci := 6) (st := [.int v168]) C ky_X6_document wd_869 ⟨Nat.le_of_ble_eq_true rfl, Nat.le_of_ble_eq_true rfl⟩ hO2.1 rfl (mX6_document hO2 w v169 v170 g.2.1 r hr) rfl (Nat.le_of_ble_eq_true rfl) rfl dL_law_643 hP hS hl) rfl (fun v171 hv171 => ?_)
        refine y_icmp_eq (tgt := 881) (n := 649) C dL_law_646 (by decide) rfl (fun h172 => ?_) (fun h172 => ?_)
        · refine y_iinc (n := 884) (v := x3 + 4) (ls' := [(3, .int (x3 + 4)), (0, .ref b), (1, .ref (E.2.2.2.2.1 + o)), (2, .ref (E.2.2.2.2.1 + o2))]) C dL_law_881 3 rfl rfl (by decide) rfl rfl ?_
          refine y_goto (tgt := 18) C dL_law_884 (by decide) ?_
          refine y_ls [1, 2, 3, 0] rfl ?_
          exact ih w (x3 + 4)
        · refine y_iconst (n := 650) C (0 : Int32) dL_law_649 (by decide) rfl ?_
          exact y_rl C HL hR dL_law_650
      refine y_if (fun h173 => ?_) (fun h173 => ?_)
      · refine y_swIn (tgt := 651) C 619 dL_law_32 (by rw [h173]; decide) (by rw [h173]; decide) (by rw [h173]; rfl) (by decide) ?_
        refine y_aload_n (n := 652) C dL_law_651 1 rfl rfl ?_
        refine y_aload_n (n := 653) C dL_law_652 0 rfl rfl ?_
        refine y_iload_n (n := 654) C dL_law_653 3 rfl rfl ?_
        refine y_iconst (n := 655) C (1 : Int32) dL_law_654 (by decide) rfl ?_
        refine y_iadd (n := 656) C dL_law_655 rfl ?_
        refine y_sld (n := 657) C HX dL_law_656 rfl (fun v174 hv174 => ?_)
        refine y_cp (n := 660) C (fun r hr H locs la hP hS hl => y_runV (ci := 5) (st := []) C ky_X5_wanted wd_642 ⟨Nat.le_of_ble_eq_true rfl, Nat.le_of_ble_eq_true rfl⟩ hO.1 rfl (mX5_wanted hO w v174 g.2.1 r hr) rfl (Nat.le_of_ble_eq_true rfl) rfl dL_law_657 hP hS hl) rfl (fun v175 hv175 => ?_)
        refine y_aload_n (n := 661) C dL_law_660 2 rfl rfl ?_
        refine y_aload_n (n := 662) C dL_law_661 0 rfl rfl ?_
        refine y_iload_n (n := 663) C dL_law_662 3 rfl rfl ?_
        refine y_iconst (n := 664) C (1 : Int32) dL_law_663 (by decide) rfl ?_
        refine y_iadd (n := 665) C dL_law_664 rfl ?_
        refine y_sld (n := 666) C HX dL_law_665 rfl (fun v176 hv176 => ?_)
        refine y_cp (n := 669) C (fun r hr H locs la hP hS hl => y_runV (ci := 6) (st := [.int v175]) C ky_X6_wanted wd_849 ⟨Nat.le_of_ble_eq_true rfl, Nat.le_of_ble_eq_true rfl⟩ hO2.1 rfl (mX6_wanted hO2 w v176 g.2.1 r hr) rfl (Nat.le_of_ble_eq_true rfl) rfl dL_law_666 hP hS hl) rfl (fun v177 hv177 => ?_)
        refine y_icmp_eq (tgt := 881) (n := 672) C dL_law_669 (by decide) rfl (fun h178 => ?_) (fun h178 => ?_)
        · refine y_iinc (n := 884) (v := x3 + 4) (ls' := [(3, .int (x3 + 4)), (0, .ref b), (1, .ref (E.2.2.2.2.1 + o)), (2, .ref (E.2.2.2.2.1 + o2))]) C dL_law_881 3 rfl rfl (by decide) rfl rfl ?_
          refine y_goto (tgt := 18) C dL_law_884 (by decide) ?_
          refine y_ls [1, 2, 3, 0] rfl ?_
          exact ih w (x3 + 4)
        · refine y_iconst (n := 673) C (0 : Int32) dL_law_672 (by decide) rfl ?_
          exact y_rl C HL hR dL_law_673
      refine y_if (fun h179 => ?_) (fun h179 => ?_)
      · refine y_swIn (tgt := 674) C 642 dL_law_32 (by rw [h179]; decide) (by rw [h179]; decide) (by rw [h179]; rfl) (by decide) ?_
        refine y_aload_n (n := 675) C dL_law_674 1 rfl rfl ?_
        refine y_aload_n (n := 676) C dL_law_675 0 rfl rfl ?_
        refine y_iload_n (n := 677) C dL_law_676 3 rfl rfl ?_
        refine y_iconst (n := 678) C (1 : Int32) dL_law_677 (by decide) rfl ?_
        refine y_iadd (n := 679) C dL_law_678 rfl ?_
        refine y_sld (n := 680) C HX dL_law_679 rfl (fun v180 hv180 => ?_)
        refine y_aload_n (n := 681) C dL_law_680 0 rfl rfl ?_
        refine y_iload_n (n := 682) C dL_law_681 3 rfl rfl ?_
        refine y_iconst (n := 683) C (2 : Int32) dL_law_682 (by decide) rfl ?_
        refine y_iadd (n := 684) C dL_law_683 rfl ?_
        refine y_sld (n := 685) C HX dL_law_684 rfl (fun v181 hv181 => ?_)
        refine y_cp (n := 688) C (fun r hr H locs la hP hS hl => y_runV (ci := 5) (st := []) C ky_X5_clerk wd_651 ⟨Nat.le_of_ble_eq_true rfl, Nat.le_of_ble_eq_true rfl⟩ hO.1 rfl (mX5_clerk hO w v180 v181 g.2.1 r hr) rfl (Nat.le_of_ble_eq_true rfl) rfl dL_law_685 hP hS hl) rfl (fun v182 hv182 => ?_)
        refine y_aload_n (n := 689) C dL_law_688 2 rfl rfl ?_
        refine y_aload_n (n := 690) C dL_law_689 0 rfl rfl ?_
        refine y_iload_n (n := 691) C dL_law_690 3 rfl rfl ?_
        refine y_iconst (n := 692) C (1 : Int32) dL_law_691 (by decide) rfl ?_
        refine y_iadd (n := 693) C dL_law_692 rfl ?_
        refine y_sld (n := 694) C HX dL_law_693 rfl (fun v183 hv183 => ?_)
        refine y_aload_n (n := 695) C dL_law_694 0 rfl rfl ?_
        refine y_iload_n (n := 696) C dL_law_695 3 rfl rfl ?_
        refine y_iconst (n := 697) C (2 : Int32) dL_law_696 (by decide) rfl ?_
        refine y_iadd (n := 698) C dL_law_697 rfl ?_
        refine y_sld (n := 699) C HX dL_law_698 rfl (fun v184 hv184 => ?_)
        refine y_cp (n := 702) C (fun r hr H locs la hP hS hl => y_runV (ci := 6) (st := [.int v182]) C ky_X6_clerk wd_981 ⟨Nat.le_of_ble_eq_true rfl, Nat.le_of_ble_eq_true rfl⟩ hO2.1 rfl (mX6_clerk hO2 w v183 v184 g.2.1 r hr) rfl (Nat.le_of_ble_eq_true rfl) rfl dL_law_699 hP hS hl) rfl (fun v185 hv185 => ?_)
        refine y_icmp_eq (tgt := 881) (n := 705) C dL_law_702 (by decide) rfl (fun h186 => ?_) (fun h186 => ?_)
        · refine y_iinc (n := 884) (v := x3 + 4) (ls' := [(3, .int (x3 + 4)), (0, .ref b), (1, .ref (E.2.2.2.2.1 + o)), (2, .ref (E.2.2.2.2.1 + o2))]) C dL_law_881 3 rfl rfl (by decide) rfl rfl ?_
          refine y_goto (tgt := 18) C dL_law_884 (by decide) ?_
          refine y_ls [1, 2, 3, 0] rfl ?_
          exact ih w (x3 + 4)
        · refine y_iconst (n := 706) C (0 : Int32) dL_law_705 (by decide) rfl ?_
          exact y_rl C HL hR dL_law_706
      refine y_if (fun h187 => ?_) (fun h187 => ?_)
      · refine y_swIn (tgt := 707) C 675 dL_law_32 (by rw [h187]; decide) (by rw [h187]; decide) (by rw [h187]; rfl) (by decide) ?_
        refine y_aload_n (n := 708) C dL_law_707 1 rfl rfl ?_
        refine y_aload_n (n := 709) C dL_law_708 0 rfl rfl ?_
        refine y_iload_n (n := 710) C dL_law_709 3 rfl rfl ?_
        refine y_iconst (n := 711) C (1 : Int32) dL_law_710 (by decide) rfl ?_
        refine y_iadd (n := 712) C dL_law_711 rfl ?_
        refine y_sld (n := 713) C HX dL_law_712 rfl (fun v188 hv188 => ?_)
        refine y_aload_n (n := 714) C dL_law_713 0 rfl rfl ?_
        refine y_iload_n (n := 715) C dL_law_714 3 rfl rfl ?_
        refine y_iconst (n := 716) C (2 : Int32) dL_law_715 (by decide) rfl ?_
        refine y_iadd (n := 717) C dL_law_716 rfl ?_
        refine y_sld (n := 718) C HX dL_law_717 rfl (fun v189 hv189 => ?_)
        refine y_cp (n := 721) C (fun r hr H locs la hP hS hl => y_runV (ci := 5) (st := []) C ky_X5_seen wd_657 ⟨Nat.le_of_ble_eq_true rfl, Nat.le_of_ble_eq_true rfl⟩ hO.1 rfl (mX5_seen hO w v188 v189 g.2.1 r hr) rfl (Nat.le_of_ble_eq_true rfl) rfl dL_law_718 hP hS hl) rfl (fun v190 hv190 => ?_)
        refine y_aload_n (n := 722) C dL_law_721 2 rfl rfl ?_
        refine y_aload_n (n := 723) C dL_law_722 0 rfl rfl ?_
        refine y_iload_n (n := 724) C dL_law_723 3 rfl rfl ?_
        refine y_iconst (n := 725) C (1 : Int32) dL_law_724 (by decide) rfl ?_
        refine y_iadd (n := 726) C dL_law_725 rfl ?_
        refine y_sld (n := 727) C HX dL_law_726 rfl (fun v191 hv191 => ?_)
        refine y_aload_n (n := 728) C dL_law_727 0 rfl rfl ?_
        refine y_iload_n (n := 729) C dL_law_728 3 rfl rfl ?_
        refine y_iconst (n := 730) C (2 : Int32) dL_law_729 (by decide) rfl ?_
        refine y_iadd (n := 731) C dL_law_730 rfl ?_
        refine y_sld (n := 732) C HX dL_law_731 rfl (fun v192 hv192 => ?_)
        refine y_ci2 (n := 735) C (fun r hr H locs la hP hS hl => y_runV (ci := 6) (st := [.int v190]) C ky_X6_seen wd_985 ⟨Nat.le_of_ble_eq_true rfl, Nat.le_of_ble_eq_true rfl⟩ hO2.1 rfl (mX6_seen hO2 w v191 v192 g.2.1 r hr) rfl (Nat.le_of_ble_eq_true rfl) rfl dL_law_732 hP hS hl) rfl (fun v193 w194 hv193 => ?_)
        refine y_icmp_eq (tgt := 881) (n := 738) C dL_law_735 (by decide) rfl (fun h195 => ?_) (fun h195 => ?_)
        · refine y_iinc (n := 884) (v := x3 + 4) (ls' := [(3, .int (x3 + 4)), (0, .ref b), (1, .ref (E.2.2.2.2.1 + o)), (2, .ref (E.2.2.2.2.1 + o2))]) C dL_law_881 3 rfl rfl (by decide) rfl rfl ?_
          refine y_goto (tgt := 18) C dL_law_884 (by decide) ?_
          refine y_ls [1, 2, 3, 0] rfl ?_
          exact ih w194 (x3 + 4)
        · refine y_iconst (n := 739) C (0 : Int32) dL_law_738 (by decide) rfl ?_
          exact y_rl C HL hR dL_law_739
      refine y_if (fun h196 => ?_) (fun h196 => ?_)
      · refine y_swIn (tgt := 740) C 708 dL_law_32 (by rw [h196]; decide) (by rw [h196]; decide) (by rw [h196]; rfl) (by decide) ?_
        refine y_aload_n (n := 741) C dL_law_740 1 rfl rfl ?_
        refine y_aload_n (n := 742) C dL_law_741 0 rfl rfl ?_
        refine y_iload_n (n := 743) C dL_law_742 3 rfl rfl ?_
        refine y_iconst (n := 744) C (1 : Int32) dL_law_743 (by decide) rfl ?_
        refine y_iadd (n := 745) C dL_law_744 rfl ?_
        refine y_sld (n := 746) C HX dL_law_745 rfl (fun v197 hv197 => ?_)
        refine y_cp (n := 749) C (fun r hr H locs la hP hS hl => y_runV (ci := 5) (st := []) C ky_X5_told wd_669 ⟨Nat.le_of_ble_eq_true rfl, Nat.le_of_ble_eq_true rfl⟩ hO.1 rfl (mX5_told hO w v197 g.2.1 r hr) rfl (Nat.le_of_ble_eq_true rfl) rfl dL_law_746 hP hS hl) rfl (fun v198 hv198 => ?_)
        refine y_aload_n (n := 750) C dL_law_749 2 rfl rfl ?_
        refine y_aload_n (n := 751) C dL_law_750 0 rfl rfl ?_
        refine y_iload_n (n := 752) C dL_law_751 3 rfl rfl ?_
        refine y_iconst (n := 753) C (1 : Int32) dL_law_752 (by decide) rfl ?_
        refine y_iadd (n := 754) C dL_law_753 rfl ?_
        refine y_sld (n := 755) C HX dL_law_754 rfl (fun v199 hv199 => ?_)
        refine y_ci2 (n := 758) C (fun r hr H locs la hP hS hl => y_runV (ci := 6) (st := [.int v198]) C ky_X6_told wd_993 ⟨Nat.le_of_ble_eq_true rfl, Nat.le_of_ble_eq_true rfl⟩ hO2.1 rfl (mX6_told hO2 w v199 g.2.1 r hr) rfl (Nat.le_of_ble_eq_true rfl) rfl dL_law_755 hP hS hl) rfl (fun v200 w201 hv200 => ?_)
        refine y_icmp_eq (tgt := 881) (n := 761) C dL_law_758 (by decide) rfl (fun h202 => ?_) (fun h202 => ?_)
        · refine y_iinc (n := 884) (v := x3 + 4) (ls' := [(3, .int (x3 + 4)), (0, .ref b), (1, .ref (E.2.2.2.2.1 + o)), (2, .ref (E.2.2.2.2.1 + o2))]) C dL_law_881 3 rfl rfl (by decide) rfl rfl ?_
          refine y_goto (tgt := 18) C dL_law_884 (by decide) ?_
          refine y_ls [1, 2, 3, 0] rfl ?_
          exact ih w201 (x3 + 4)
        · refine y_iconst (n := 762) C (0 : Int32) dL_law_761 (by decide) rfl ?_
          exact y_rl C HL hR dL_law_762
      refine y_if (fun h203 => ?_) (fun h203 => ?_)
      · refine y_swIn (tgt := 763) C 731 dL_law_32 (by rw [h203]; decide) (by rw [h203]; decide) (by rw [h203]; rfl) (by decide) ?_
        refine y_aload_n (n := 764) C dL_law_763 1 rfl rfl ?_
        refine y_aload_n (n := 765) C dL_law_764 0 rfl rfl ?_
        refine y_iload_n (n := 766) C dL_law_765 3 rfl rfl ?_
        refine y_iconst (n := 767) C (1 : Int32) dL_law_766 (by decide) rfl ?_
        refine y_iadd (n := 768) C dL_law_767 rfl ?_
        refine y_sld (n := 769) C HX dL_law_768 rfl (fun v204 hv204 => ?_)
        refine y_cp (n := 772) C (fun r hr H locs la hP hS hl => y_runV (ci := 5) (st := []) C ky_X5_reading wd_673 ⟨Nat.le_of_ble_eq_true rfl, Nat.le_of_ble_eq_true rfl⟩ hO.1 rfl (mX5_reading hO w v204 g.2.1 r hr) rfl (Nat.le_of_ble_eq_true rfl) rfl dL_law_769 hP hS hl) rfl (fun v205 hv205 => ?_)
        refine y_aload_n (n := 773) C dL_law_772 2 rfl rfl ?_
        refine y_aload_n (n := 774) C dL_law_773 0 rfl rfl ?_
        refine y_iload_n (n := 775) C dL_law_774 3 rfl rfl ?_
        refine y_iconst (n := 776) C (1 : Int32) dL_law_775 (by decide) rfl ?_
        refine y_iadd (n := 777) C dL_law_776 rfl ?_
        refine y_sld (n := 778) C HX dL_law_777 rfl (fun v206 hv206 => ?_)
        refine y_ci2 (n := 781) C (fun r hr H locs la hP hS hl => y_runV (ci := 6) (st := [.int v205]) C ky_X6_reading wd_997 ⟨Nat.le_of_ble_eq_true rfl, Nat.le_of_ble_eq_true rfl⟩ hO2.1 rfl (mX6_reading hO2 w v206 g.2.1 r hr) rfl (Nat.le_of_ble_eq_true rfl) rfl dL_law_778 hP hS hl) rfl (fun v207 w208 hv207 => ?_)
        refine y_icmp_eq (tgt := 881) (n := 784) C dL_law_781 (by decide) rfl (fun h209 => ?_) (fun h209 => ?_)
        · refine y_iinc (n := 884) (v := x3 + 4) (ls' := [(3, .int (x3 + 4)), (0, .ref b), (1, .ref (E.2.2.2.2.1 + o)), (2, .ref (E.2.2.2.2.1 + o2))]) C dL_law_881 3 rfl rfl (by decide) rfl rfl ?_
          refine y_goto (tgt := 18) C dL_law_884 (by decide) ?_
          refine y_ls [1, 2, 3, 0] rfl ?_
          exact ih w208 (x3 + 4)
        · refine y_iconst (n := 785) C (0 : Int32) dL_law_784 (by decide) rfl ?_
          exact y_rl C HL hR dL_law_785
      refine y_if (fun h210 => ?_) (fun h210 => ?_)
      · refine y_swIn (tgt := 786) C 754 dL_law_32 (by rw [h210]; decide) (by rw [h210]; decide) (by rw [h210]; rfl) (by decide) ?_
        refine y_aload_n (n := 787) C dL_law_786 1 rfl rfl ?_
        refine y_aload_n (n := 788) C dL_law_787 0 rfl rfl ?_
        refine y_iload_n (n := 789) C dL_law_788 3 rfl rfl ?_
        refine y_iconst (n := 790) C (1 : Int32) dL_law_789 (by decide) rfl ?_
        refine y_iadd (n := 791) C dL_law_790 rfl ?_
        refine y_sld (n := 792) C HX dL_law_791 rfl (fun v211 hv211 => ?_)
        refine y_aload_n (n := 793) C dL_law_792 0 rfl rfl ?_
        refine y_iload_n (n := 794) C dL_law_793 3 rfl rfl ?_
        refine y_iconst (n := 795) C (2 : Int32) dL_law_794 (by decide) rfl ?_
        refine y_iadd (n := 796) C dL_law_795 rfl ?_
        refine y_sld (n := 797) C HX dL_law_796 rfl (fun v212 hv212 => ?_)
        refine y_if_eq (tgt := 804) (n := 800) C dL_law_797 (by decide) rfl (fun h213 => ?_) (fun h213 => ?_)
        · refine y_iconst (n := 805) C (0 : Int32) dL_law_804 (by decide) rfl ?_
          refine y_aload_n (n := 806) C dL_law_805 0 rfl rfl ?_
          refine y_iload_n (n := 807) C dL_law_806 3 rfl rfl ?_
          refine y_iconst (n := 808) C (3 : Int32) dL_law_807 (by decide) rfl ?_
          refine y_iadd (n := 809) C dL_law_808 rfl ?_
          refine y_sld (n := 810) C HX dL_law_809 rfl (fun v214 hv214 => ?_)
          refine y_ci2 (n := 813) C (fun r hr H locs la hP hS hl => y_runV (ci := 5) (st := []) C ky_X5_trial wd_702 ⟨Nat.le_of_ble_eq_true rfl, Nat.le_of_ble_eq_true rfl⟩ hO.1 rfl (mX5_trial hO w v211 0 v214 g.2.1 r hr) rfl (Nat.le_of_ble_eq_true rfl) rfl dL_law_810 hP hS hl) rfl (fun v215 w216 hv215 => ?_)
          refine y_aload_n (n := 814) C dL_law_813 2 rfl rfl ?_
          refine y_aload_n (n := 815) C dL_law_814 0 rfl rfl ?_
          refine y_iload_n (n := 816) C dL_law_815 3 rfl rfl ?_
          refine y_iconst (n := 817) C (1 : Int32) dL_law_816 (by decide) rfl ?_
          refine y_iadd (n := 818) C dL_law_817 rfl ?_
          refine y_sld (n := 819) C HX dL_law_818 rfl (fun v217 hv217 => ?_)
          refine y_aload_n (n := 820) C dL_law_819 0 rfl rfl ?_
          refine y_iload_n (n := 821) C dL_law_820 3 rfl rfl ?_
          refine y_iconst (n := 822) C (2 : Int32) dL_law_821 (by decide) rfl ?_
          refine y_iadd (n := 823) C dL_law_822 rfl ?_
          refine y_sld (n := 824) C HX dL_law_823 rfl (fun v218 hv218 => ?_)
          refine y_if_eq (tgt := 831) (n := 827) C dL_law_824 (by decide) rfl (fun h219 => ?_) (fun h219 => ?_)
          · refine y_iconst (n := 832) C (0 : Int32) dL_law_831 (by decide) rfl ?_
            refine y_aload_n (n := 833) C dL_law_832 0 rfl rfl ?_
            refine y_iload_n (n := 834) C dL_law_833 3 rfl rfl ?_
            refine y_iconst (n := 835) C (3 : Int32) dL_law_834 (by decide) rfl ?_
            refine y_iadd (n := 836) C dL_law_835 rfl ?_
            refine y_sld (n := 837) C HX dL_law_836 rfl (fun v220 hv220 => ?_)
            refine y_ci2 (n := 840) C (fun r hr H locs la hP hS hl => y_runV (ci := 6) (st := [.int v215]) C ky_X6_trial wd_1017 ⟨Nat.le_of_ble_eq_true rfl, Nat.le_of_ble_eq_true rfl⟩ hO2.1 rfl (mX6_trial hO2 w216 v217 0 v220 g.2.1 r hr) rfl (Nat.le_of_ble_eq_true rfl) rfl dL_law_837 hP hS hl) rfl (fun v221 w222 hv221 => ?_)
            refine y_icmp_eq (tgt := 881) (n := 843) C dL_law_840 (by decide) rfl (fun h223 => ?_) (fun h223 => ?_)
            · refine y_iinc (n := 884) (v := x3 + 4) (ls' := [(3, .int (x3 + 4)), (0, .ref b), (1, .ref (E.2.2.2.2.1 + o)), (2, .ref (E.2.2.2.2.1 + o2))]) C dL_law_881 3 rfl rfl (by decide) rfl rfl ?_
              refine y_goto (tgt := 18) C dL_law_884 (by decide) ?_
              refine y_ls [1, 2, 3, 0] rfl ?_
              exact ih w222 (x3 + 4)
            · refine y_iconst (n := 844) C (0 : Int32) dL_law_843 (by decide) rfl ?_
              exact y_rl C HL hR dL_law_844
          · refine y_iconst (n := 828) C (1 : Int32) dL_law_827 (by decide) rfl ?_
            refine y_goto (tgt := 832) C dL_law_828 (by decide) ?_
            refine y_aload_n (n := 833) C dL_law_832 0 rfl rfl ?_
            refine y_iload_n (n := 834) C dL_law_833 3 rfl rfl ?_
            refine y_iconst (n := 835) C (3 : Int32) dL_law_834 (by decide) rfl ?_
            refine y_iadd (n := 836) C dL_law_835 rfl ?_
            refine y_sld (n := 837) C HX dL_law_836 rfl (fun v224 hv224 => ?_)
            refine y_ci2 (n := 840) C (fun r hr H locs la hP hS hl => y_runV (ci := 6) (st := [.int v215]) C ky_X6_trial wd_1017 ⟨Nat.le_of_ble_eq_true rfl, Nat.le_of_ble_eq_true rfl⟩ hO2.1 rfl (mX6_trial hO2 w216 v217 1 v224 g.2.1 r hr) rfl (Nat.le_of_ble_eq_true rfl) rfl dL_law_837 hP hS hl) rfl (fun v225 w226 hv225 => ?_)
            refine y_icmp_eq (tgt := 881) (n := 843) C dL_law_840 (by decide) rfl (fun h227 => ?_) (fun h227 => ?_)
            · refine y_iinc (n := 884) (v := x3 + 4) (ls' := [(3, .int (x3 + 4)), (0, .ref b), (1, .ref (E.2.2.2.2.1 + o)), (2, .ref (E.2.2.2.2.1 + o2))]) C dL_law_881 3 rfl rfl (by decide) rfl rfl ?_
              refine y_goto (tgt := 18) C dL_law_884 (by decide) ?_
              refine y_ls [1, 2, 3, 0] rfl ?_
              exact ih w226 (x3 + 4)
            · refine y_iconst (n := 844) C (0 : Int32) dL_law_843 (by decide) rfl ?_
              exact y_rl C HL hR dL_law_844
        · refine y_iconst (n := 801) C (1 : Int32) dL_law_800 (by decide) rfl ?_
          refine y_goto (tgt := 805) C dL_law_801 (by decide) ?_
          refine y_aload_n (n := 806) C dL_law_805 0 rfl rfl ?_
          refine y_iload_n (n := 807) C dL_law_806 3 rfl rfl ?_
          refine y_iconst (n := 808) C (3 : Int32) dL_law_807 (by decide) rfl ?_
          refine y_iadd (n := 809) C dL_law_808 rfl ?_
          refine y_sld (n := 810) C HX dL_law_809 rfl (fun v228 hv228 => ?_)
          refine y_ci2 (n := 813) C (fun r hr H locs la hP hS hl => y_runV (ci := 5) (st := []) C ky_X5_trial wd_702 ⟨Nat.le_of_ble_eq_true rfl, Nat.le_of_ble_eq_true rfl⟩ hO.1 rfl (mX5_trial hO w v211 1 v228 g.2.1 r hr) rfl (Nat.le_of_ble_eq_true rfl) rfl dL_law_810 hP hS hl) rfl (fun v229 w230 hv229 => ?_)
          refine y_aload_n (n := 814) C dL_law_813 2 rfl rfl ?_
          refine y_aload_n (n := 815) C dL_law_814 0 rfl rfl ?_
          refine y_iload_n (n := 816) C dL_law_815 3 rfl rfl ?_
          refine y_iconst (n := 817) C (1 : Int32) dL_law_816 (by decide) rfl ?_
          refine y_iadd (n := 818) C dL_law_817 rfl ?_
          refine y_sld (n := 819) C HX dL_law_818 rfl (fun v231 hv231 => ?_)
          refine y_aload_n (n := 820) C dL_law_819 0 rfl rfl ?_
          refine y_iload_n (n := 821) C dL_law_820 3 rfl rfl ?_
          refine y_iconst (n := 822) C (2 : Int32) dL_law_821 (by decide) rfl ?_
          refine y_iadd (n := 823) C dL_law_822 rfl ?_
          refine y_sld (n := 824) C HX dL_law_823 rfl (fun v232 hv232 => ?_)
          refine y_if_eq (tgt := 831) (n := 827) C dL_law_824 (by decide) rfl (fun h233 => ?_) (fun h233 => ?_)
          · refine y_iconst (n := 832) C (0 : Int32) dL_law_831 (by decide) rfl ?_
            refine y_aload_n (n := 833) C dL_law_832 0 rfl rfl ?_
            refine y_iload_n (n := 834) C dL_law_833 3 rfl rfl ?_
            refine y_iconst (n := 835) C (3 : Int32) dL_law_834 (by decide) rfl ?_
            refine y_iadd (n := 836) C dL_law_835 rfl ?_
            refine y_sld (n := 837) C HX dL_law_836 rfl (fun v234 hv234 => ?_)
            refine y_ci2 (n := 840) C (fun r hr H locs la hP hS hl => y_runV (ci := 6) (st := [.int v229]) C ky_X6_trial wd_1017 ⟨Nat.le_of_ble_eq_true rfl, Nat.le_of_ble_eq_true rfl⟩ hO2.1 rfl (mX6_trial hO2 w230 v231 0 v234 g.2.1 r hr) rfl (Nat.le_of_ble_eq_true rfl) rfl dL_law_837 hP hS hl) rfl (fun v235 w236 hv235 => ?_)
            refine y_icmp_eq (tgt := 881) (n := 843) C dL_law_840 (by decide) rfl (fun h237 => ?_) (fun h237 => ?_)
            · refine y_iinc (n := 884) (v := x3 + 4) (ls' := [(3, .int (x3 + 4)), (0, .ref b), (1, .ref (E.2.2.2.2.1 + o)), (2, .ref (E.2.2.2.2.1 + o2))]) C dL_law_881 3 rfl rfl (by decide) rfl rfl ?_
              refine y_goto (tgt := 18) C dL_law_884 (by decide) ?_
              refine y_ls [1, 2, 3, 0] rfl ?_
              exact ih w236 (x3 + 4)
            · refine y_iconst (n := 844) C (0 : Int32) dL_law_843 (by decide) rfl ?_
              exact y_rl C HL hR dL_law_844
          · refine y_iconst (n := 828) C (1 : Int32) dL_law_827 (by decide) rfl ?_
            refine y_goto (tgt := 832) C dL_law_828 (by decide) ?_
            refine y_aload_n (n := 833) C dL_law_832 0 rfl rfl ?_
            refine y_iload_n (n := 834) C dL_law_833 3 rfl rfl ?_
            refine y_iconst (n := 835) C (3 : Int32) dL_law_834 (by decide) rfl ?_
            refine y_iadd (n := 836) C dL_law_835 rfl ?_
            refine y_sld (n := 837) C HX dL_law_836 rfl (fun v238 hv238 => ?_)
            refine y_ci2 (n := 840) C (fun r hr H locs la hP hS hl => y_runV (ci := 6) (st := [.int v229]) C ky_X6_trial wd_1017 ⟨Nat.le_of_ble_eq_true rfl, Nat.le_of_ble_eq_true rfl⟩ hO2.1 rfl (mX6_trial hO2 w230 v231 1 v238 g.2.1 r hr) rfl (Nat.le_of_ble_eq_true rfl) rfl dL_law_837 hP hS hl) rfl (fun v239 w240 hv239 => ?_)
            refine y_icmp_eq (tgt := 881) (n := 843) C dL_law_840 (by decide) rfl (fun h241 => ?_) (fun h241 => ?_)
            · refine y_iinc (n := 884) (v := x3 + 4) (ls' := [(3, .int (x3 + 4)), (0, .ref b), (1, .ref (E.2.2.2.2.1 + o)), (2, .ref (E.2.2.2.2.1 + o2))]) C dL_law_881 3 rfl rfl (by decide) rfl rfl ?_
              refine y_goto (tgt := 18) C dL_law_884 (by decide) ?_
              refine y_ls [1, 2, 3, 0] rfl ?_
              exact ih w240 (x3 + 4)
            · refine y_iconst (n := 844) C (0 : Int32) dL_law_843 (by decide) rfl ?_
              exact y_rl C HL hR dL_law_844
      refine y_if (fun h242 => ?_) (fun h242 => ?_)
      · refine y_swIn (tgt := 845) C 813 dL_law_32 (by rw [h242]; decide) (by rw [h242]; decide) (by rw [h242]; rfl) (by decide) ?_
        refine y_aload_n (n := 846) C dL_law_845 1 rfl rfl ?_
        refine y_ci2 (n := 849) C (fun r hr H locs la hP hS hl => y_runV (ci := 5) (st := []) C ky_X5_cheapest wd_706 ⟨Nat.le_of_ble_eq_true rfl, Nat.le_of_ble_eq_true rfl⟩ hO.1 rfl (mX5_cheapest hO w g.2.1 r hr) rfl (Nat.le_of_ble_eq_true rfl) rfl dL_law_846 hP hS hl) rfl (fun v243 w244 hv243 => ?_)
        refine y_aload_n (n := 850) C dL_law_849 2 rfl rfl ?_
        refine y_ci2 (n := 853) C (fun r hr H locs la hP hS hl => y_runV (ci := 6) (st := [.int v243]) C ky_X6_cheapest wd_1025 ⟨Nat.le_of_ble_eq_true rfl, Nat.le_of_ble_eq_true rfl⟩ hO2.1 rfl (mX6_cheapest hO2 w244 g.2.1 r hr) rfl (Nat.le_of_ble_eq_true rfl) rfl dL_law_850 hP hS hl) rfl (fun v245 w246 hv245 => ?_)
        refine y_icmp_eq (tgt := 881) (n := 856) C dL_law_853 (by decide) rfl (fun h247 => ?_) (fun h247 => ?_)
        · refine y_iinc (n := 884) (v := x3 + 4) (ls' := [(3, .int (x3 + 4)), (0, .ref b), (1, .ref (E.2.2.2.2.1 + o)), (2, .ref (E.2.2.2.2.1 + o2))]) C dL_law_881 3 rfl rfl (by decide) rfl rfl ?_
          refine y_goto (tgt := 18) C dL_law_884 (by decide) ?_
          refine y_ls [1, 2, 3, 0] rfl ?_
          exact ih w246 (x3 + 4)
        · refine y_iconst (n := 857) C (0 : Int32) dL_law_856 (by decide) rfl ?_
          exact y_rl C HL hR dL_law_857
      refine y_if (fun h248 => ?_) (fun h248 => ?_)
      · refine y_swIn (tgt := 858) C 826 dL_law_32 (by rw [h248]; decide) (by rw [h248]; decide) (by rw [h248]; rfl) (by decide) ?_
        refine y_aload_n (n := 859) C dL_law_858 1 rfl rfl ?_
        refine y_aload_n (n := 860) C dL_law_859 0 rfl rfl ?_
        refine y_iload_n (n := 861) C dL_law_860 3 rfl rfl ?_
        refine y_iconst (n := 862) C (1 : Int32) dL_law_861 (by decide) rfl ?_
        refine y_iadd (n := 863) C dL_law_862 rfl ?_
        refine y_sld (n := 864) C HX dL_law_863 rfl (fun v249 hv249 => ?_)
        refine y_cp (n := 867) C (fun r hr H locs la hP hS hl => y_runV (ci := 5) (st := []) C ky_X5_count wd_710 ⟨Nat.le_of_ble_eq_true rfl, Nat.le_of_ble_eq_true rfl⟩ hO.1 rfl (mX5_count hO w v249 g.2.1 r hr) rfl (Nat.le_of_ble_eq_true rfl) rfl dL_law_864 hP hS hl) rfl (fun v250 hv250 => ?_)
        refine y_aload_n (n := 868) C dL_law_867 2 rfl rfl ?_
        refine y_aload_n (n := 869) C dL_law_868 0 rfl rfl ?_
        refine y_iload_n (n := 870) C dL_law_869 3 rfl rfl ?_
        refine y_iconst (n := 871) C (1 : Int32) dL_law_870 (by decide) rfl ?_
        refine y_iadd (n := 872) C dL_law_871 rfl ?_
        refine y_sld (n := 873) C HX dL_law_872 rfl (fun v251 hv251 => ?_)
        refine y_cp (n := 876) C (fun r hr H locs la hP hS hl => y_runV (ci := 6) (st := [.int v250]) C ky_X6_count wd_1029 ⟨Nat.le_of_ble_eq_true rfl, Nat.le_of_ble_eq_true rfl⟩ hO2.1 rfl (mX6_count hO2 w v251 g.2.1 r hr) rfl (Nat.le_of_ble_eq_true rfl) rfl dL_law_873 hP hS hl) rfl (fun v252 hv252 => ?_)
        refine y_icmp_eq (tgt := 881) (n := 879) C dL_law_876 (by decide) rfl (fun h253 => ?_) (fun h253 => ?_)
        · refine y_iinc (n := 884) (v := x3 + 4) (ls' := [(3, .int (x3 + 4)), (0, .ref b), (1, .ref (E.2.2.2.2.1 + o)), (2, .ref (E.2.2.2.2.1 + o2))]) C dL_law_881 3 rfl rfl (by decide) rfl rfl ?_
          refine y_goto (tgt := 18) C dL_law_884 (by decide) ?_
          refine y_ls [1, 2, 3, 0] rfl ?_
          exact ih w (x3 + 4)
        · refine y_iconst (n := 880) C (0 : Int32) dL_law_879 (by decide) rfl ?_
          exact y_rl C HL hR dL_law_880
      refine y_swOut (tgt := 881) C dL_law_32 (by have gh3 := sw_ne (k := 0) (by decide) h3; have gh15 := sw_ne (k := 1) (by decide) h15; have gh25 := sw_ne (k := 2) (by decide) h25; have gh33 := sw_ne (k := 3) (by decide) h33; have gh41 := sw_ne (k := 4) (by decide) h41; have gh51 := sw_ne (k := 5) (by decide) h51; have gh59 := sw_ne (k := 6) (by decide) h59; have gh69 := sw_ne (k := 7) (by decide) h69; have gh95 := sw_ne (k := 8) (by decide) h95; have gh103 := sw_ne (k := 9) (by decide) h103; have gh109 := sw_ne (k := 10) (by decide) h109; have gh117 := sw_ne (k := 11) (by decide) h117; have gh123 := sw_ne (k := 12) (by decide) h123; have gh129 := sw_ne (k := 13) (by decide) h129; have gh135 := sw_ne (k := 14) (by decide) h135; have gh141 := sw_ne (k := 15) (by decide) h141; have gh147 := sw_ne (k := 16) (by decide) h147; have gh155 := sw_ne (k := 17) (by decide) h155; have gh165 := sw_ne (k := 18) (by decide) h165; have gh173 := sw_ne (k := 19) (by decide) h173; have gh179 := sw_ne (k := 20) (by decide) h179; have gh187 := sw_ne (k := 21) (by decide) h187; have gh196 := sw_ne (k := 22) (by decide) h196; have gh203 := sw_ne (k := 23) (by decide) h203; have gh210 := sw_ne (k := 24) (by decide) h210; have gh242 := sw_ne (k := 25) (by decide) h242; have gh248 := sw_ne (k := 26) (by decide) h248; omega) (by decide) ?_
      refine y_iinc (n := 884) (v := x3 + 4) (ls' := [(3, .int (x3 + 4)), (0, .ref b), (1, .ref (E.2.2.2.2.1 + o)), (2, .ref (E.2.2.2.2.1 + o2))]) C dL_law_881 3 rfl rfl (by decide) rfl rfl ?_
      refine y_goto (tgt := 18) C dL_law_884 (by decide) ?_
      refine y_ls [1, 2, 3, 0] rfl ?_
      exact ih w (x3 + 4)
