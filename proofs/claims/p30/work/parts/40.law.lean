/-! THE CLAIM OUT OF ONE WALK OF THE LAW'S BODY. Your part is whole_start (and what it stands on); all else here is the same for every law, but numbers. -/
def R_law : String := "BribedClerksLaw"
def lw_P (b : Addr) (xs : List Int32) (args : Array Value) (s : State) : Prop := args = #[.ref b] ∧ s.IntsAt b xs ∧ xs.length ≤ 260 ∧ (Jvm.Cond.and given_1 narrow_1).before args s = true
def lw_Q (_ : Array Value) (s : State) (o : Outcome) (t : State) : Prop := o = .returned (some (.int 1)) ∧ Framed s o t [] 600000 7302250
def lw_Z (below : List Frame) (a : Array Value) (s : State) : State → Prop := fun t => ∃ o, t.status = .running ∧ Ended t below o ∧ lw_Q a s o t
/-- the law's own end, with 1 on the stack, nothing written that was there before, its room as the claim has it -/
theorem lw_ret {p : Program} {l : Launch} {e : Env} {s : State} {m : MethodId} {below : List Frame} {meth : Method} {c : Code} {b : Nat} (hx : p.tables.exec = Jvm.exec) (hb : c.code = code) (hr : meth.sig.returnType = ret) (hlocks : meth.locks = false) {pc : Nat} {H : Heap} {ls : Array Slot} (hdg : decode code pc = .ok (.ireturn, 1)) : W p l e room_1 s m #[Value.ref b] below meth c H [] 600000 7302250 (lw_Z below #[Value.ref b] s) (F0 m pc ls [.int 1]) := by
  intro T hT X
  obtain ⟨fs, hret, hrun, hended, hW, hframe⟩ := X.leave (v := some (.int 1)) (hlocks := hlocks) (fun h => by rw [hr] at h; cases h)
  have hmeth' : T.vm.method? m = some meth := X.method'
  refine ⟨T.setFrames fs, ?_, .returned (some (.int 1)), hrun, hended, rfl, ⟨_, rfl⟩, hW, hframe⟩
  jvm_step X.here [X.here.top, hx, hb, hdg, hmeth', hr, ret, narrow_b1]
  (try refine ⟨rfl, ?_⟩); (try refine ⟨rfl, ?_⟩)
  first | (intro acts; rw [hret _ acts rfl rfl rfl]) | rw [hret _ _ rfl rfl rfl]
  exact Steps.refl _
/-- what holds at the law's entry: the machine, the code, the tables' words (any of lw_tbl by 'hts w (by decide +kernel)'), the script of L ints xs at the cell b, what the Statement gives of the start (any of its parts by flat_of_before) -/
def lw_At (p : Program) (s : State) (m : MethodId) (meth : Method) (c : Code) (b L : Nat) (xs : Nat → Int32) : Prop :=
  p.tables.exec = Jvm.exec ∧ c.code = code ∧ meth.sig.returnType = ret ∧ c.maxLocals = 10 ∧ s.vm.findClass R_law = some m.cls ∧ (∀ w ∈ lw_tbl, w.before #[Value.ref b] s = true) ∧ va_X b L xs s s.heap ∧ b < s.heap.size ∧ meth.locks = false ∧ (Jvm.Cond.and given_1 narrow_1).before #[Value.ref b] s = true
theorem W_imp {p : Program} {l : Launch} {e : Env} {R : Room} {s : State} {m : MethodId} {args : Array Value} {below : List Frame} {meth : Method} {c : Code} {H : Heap} {locs : List Loc} {cells slots : Nat} {Q Q' : State → Prop} {g : JFrame} (h : ∀ t, Q t → Q' t) (k : W p l e R s m args below meth c H locs cells slots Q g) : W p l e R s m args below meth c H locs cells slots Q' g := fun T hT X => by
  obtain ⟨t, a, b⟩ := k T hT X
  exact ⟨t, a, h t b⟩

/-! THE LAW: rows for the script, and the end -/
def SL (g : Gx) (E : Ex) : Prop := g.2.2.2.1 = room_1 ∧ g.2.2.2.2.2.2.1 = #[Value.ref (E.2.2.2.2.2.2.1 0)] ∧ E.2.2.2.2.1 = g.2.2.2.2.1.heap.size
def QL (g : Gx) (E : Ex) : Int32 → State → Prop := fun r t => r = 1 → lw_Z g.2.2.2.2.2.2.2.1 #[Value.ref (E.2.2.2.2.2.2.1 0)] g.2.2.2.2.1 t
section YL
variable {ρ : Type} {g : Gx} {E : Ex} {cc : ByteArray} {nL nf nl b L : Nat} {xs : Nat → Int32} {own : String} {QQ : ρ → State → Prop} {o : Option ρ} {w w' : Wd} {pc n : Nat} {ls ls' : List (Nat × Value)} {st : List Value}
theorem y_rl (C : CC g E code nL own nf nl) (HL : SL g E) (hR : RT g ret) {x : Int32} (hd : decode code pc = .ok (.ireturn, 1)) : YO g E nL (QL g E) (some x) w pc ls [.int x] := by
  intro r hr H locs la hP hS hl
  cases hr
  by_cases hx : x = 1
  · subst hx
    obtain ⟨p, l, e, R, s, m, args, below, meth, c, cs, sl⟩ := g
    obtain ⟨h1, h2, h3⟩ := HL
    dsimp only at h1 h2 h3
    subst h1; subst h2
    have hc := C.2.2.2.2.2.2.2.2.2.2
    refine W_imp (fun t ht _ => ht) ?_
    refine va_forget (fun q hq => by rw [← h3]; exact hS.2.2 q hq) ?_
    refine W.widen (k := 600000) (n := 7302250) hc.1 hc.2 ?_
    exact lw_ret C.1 C.2.1 hR C.2.2.2.2.2.2.1 hd
  · exact fun T hT X => ⟨_, Steps.refl _, fun z => absurd z hx⟩
end YL
theorem wd_382 : Cond.code yX5_cheapest cX5_cheapest 5 (some .int) ∈ TB := TB_m 382 (by decide +kernel) (by decide +kernel)
theorem wd_380 : Cond.instanceMethod yX5_cheapest ∈ TB := TB_m 380 (by decide +kernel) (by decide +kernel)
theorem wd_381 : Cond.selects yX5_cheapest.cls yX5_cheapest yX5_cheapest ∈ TB := TB_m 381 (by decide +kernel) (by decide +kernel)
theorem ky_X5_cheapest : KYV yX5_cheapest cX5_cheapest 5 (some .int) 0 := ⟨⟨wd_382, wd_1, by decide +kernel⟩, wd_380, wd_381⟩
theorem wd_379 : Cond.methodLink RL 78 yX5_cheapest ∈ TB := TB_m 379 (by decide +kernel) (by decide +kernel)
theorem wd_287 : Cond.code yX5_want cX5_want 3 (some .int) ∈ TB := TB_m 287 (by decide +kernel) (by decide +kernel)
theorem wd_285 : Cond.instanceMethod yX5_want ∈ TB := TB_m 285 (by decide +kernel) (by decide +kernel)
theorem wd_286 : Cond.selects yX5_want.cls yX5_want yX5_want ∈ TB := TB_m 286 (by decide +kernel) (by decide +kernel)
theorem ky_X5_want : KYV yX5_want cX5_want 3 (some .int) 1 := ⟨⟨wd_287, wd_1, by decide +kernel⟩, wd_285, wd_286⟩
theorem wd_284 : Cond.methodLink RL 88 yX5_want ∈ TB := TB_m 284 (by decide +kernel) (by decide +kernel)
theorem wd_521 : Cond.code yL_reckon cL_reckon 8 (some .boolean) ∈ TB := TB_m 521 (by decide +kernel) (by decide +kernel)
theorem wd_520 : Cond.static yL_reckon ∈ TB := TB_m 520 (by decide +kernel) (by decide +kernel)
theorem ky_L_reckon : KYS yL_reckon cL_reckon 8 (some .boolean) 2 := ⟨⟨wd_521, wd_0, by decide +kernel⟩, wd_520⟩
theorem wd_519 : Cond.methodLink RL 97 yL_reckon ∈ TB := TB_m 519 (by decide +kernel) (by decide +kernel)
theorem wd_524 : Cond.code yL_areWanted cL_areWanted 7 (some .boolean) ∈ TB := TB_m 524 (by decide +kernel) (by decide +kernel)
theorem wd_523 : Cond.static yL_areWanted ∈ TB := TB_m 523 (by decide +kernel) (by decide +kernel)
theorem ky_L_areWanted : KYS yL_areWanted cL_areWanted 7 (some .boolean) 2 := ⟨⟨wd_524, wd_0, by decide +kernel⟩, wd_523⟩
theorem wd_522 : Cond.methodLink RL 101 yL_areWanted ∈ TB := TB_m 522 (by decide +kernel) (by decide +kernel)
theorem wd_536 : Cond.code yL_read cL_read 9 (some .int) ∈ TB := TB_m 536 (by decide +kernel) (by decide +kernel)
theorem wd_535 : Cond.static yL_read ∈ TB := TB_m 535 (by decide +kernel) (by decide +kernel)
theorem ky_L_read : KYS yL_read cL_read 9 (some .int) 4 := ⟨⟨wd_536, wd_0, by decide +kernel⟩, wd_535⟩
theorem wd_534 : Cond.methodLink RL 104 yL_read ∈ TB := TB_m 534 (by decide +kernel) (by decide +kernel)
theorem wd_202 : Cond.code yX5_delete cX5_delete 2 (some .int) ∈ TB := TB_m 202 (by decide +kernel) (by decide +kernel)
theorem wd_200 : Cond.instanceMethod yX5_delete ∈ TB := TB_m 200 (by decide +kernel) (by decide +kernel)
theorem wd_201 : Cond.selects yX5_delete.cls yX5_delete yX5_delete ∈ TB := TB_m 201 (by decide +kernel) (by decide +kernel)
theorem ky_X5_delete : KYV yX5_delete cX5_delete 2 (some .int) 1 := ⟨⟨wd_202, wd_1, by decide +kernel⟩, wd_200, wd_201⟩
theorem wd_199 : Cond.methodLink RL 91 yX5_delete ∈ TB := TB_m 199 (by decide +kernel) (by decide +kernel)
theorem wd_469 : Cond.code yL_bits cL_bits 3 (some .int) ∈ TB := TB_m 469 (by decide +kernel) (by decide +kernel)
theorem wd_468 : Cond.static yL_bits ∈ TB := TB_m 468 (by decide +kernel) (by decide +kernel)
theorem ky_L_bits : KYS yL_bits cL_bits 3 (some .int) 1 := ⟨⟨wd_469, wd_0, by decide +kernel⟩, wd_468⟩
theorem wd_467 : Cond.methodLink RL 94 yL_bits ∈ TB := TB_m 467 (by decide +kernel) (by decide +kernel)
theorem wd_472 : Cond.code yL_fill cL_fill 14 (some .boolean) ∈ TB := TB_m 472 (by decide +kernel) (by decide +kernel)
theorem wd_471 : Cond.static yL_fill ∈ TB := TB_m 471 (by decide +kernel) (by decide +kernel)
theorem ky_L_fill : KYS yL_fill cL_fill 14 (some .boolean) 4 := ⟨⟨wd_472, wd_0, by decide +kernel⟩, wd_471⟩
theorem wd_470 : Cond.methodLink RL 81 yL_fill ∈ TB := TB_m 470 (by decide +kernel) (by decide +kernel)
theorem wd_272 : Cond.code yX5_weight cX5_weight 3 (some .int) ∈ TB := TB_m 272 (by decide +kernel) (by decide +kernel)
theorem wd_270 : Cond.instanceMethod yX5_weight ∈ TB := TB_m 270 (by decide +kernel) (by decide +kernel)
theorem wd_271 : Cond.selects yX5_weight.cls yX5_weight yX5_weight ∈ TB := TB_m 271 (by decide +kernel) (by decide +kernel)
theorem ky_X5_weight : KYV yX5_weight cX5_weight 3 (some .int) 2 := ⟨⟨wd_272, wd_1, by decide +kernel⟩, wd_270, wd_271⟩
theorem wd_269 : Cond.methodLink RL 85 yX5_weight ∈ TB := TB_m 269 (by decide +kernel) (by decide +kernel)
def bL_law_318 (y : Ly) (K255 : Wd → Int32 → Int32 → Int32 → Option (Int32)) (w : Wd) (o k2 L : Nat) (xs : Nat → Int32) (x8 : Int32) (x9 : Int32) : Option (Int32) :=
  K255 w x8 x9 (x8 + 1)
set_option maxRecDepth 4000 in
theorem cbL_law_318 {g : Gx} {E : Ex} (C : CC g E cL_law 10 RL 8 191) (hR : RT g ret) {o k2 L : Nat} {xs : Nat → Int32} (hO : shB E.2.2.2.2.2.1 o) (hk2 : E.2.2.2.2.2.1[k2]? = some (0, 64)) (HX : SX E L xs) (HL : SL g E) (w : Wd) (K255 : Wd → Int32 → Int32 → Int32 → Option (Int32)) (hK255 : ∀ (w : Wd) (x6 : Int32) (x7 : Int32) (x8 : Int32), YO g E 10 (QL g E) (K255 w x6 x7 x8) w 255 [(0, .ref (E.2.2.2.2.2.2.1 0)), (1, .ref (E.2.2.2.2.1 + o)), (2, .ref (E.2.2.2.2.1 + k2)), (6, .int x6), (7, .int x7), (8, .int x8)] []) (x8 : Int32) (x9 : Int32) : YO g E 10 (QL g E) (bL_law_318 E.2.2.2.2.2.1 K255 w o k2 L xs x8 x9) w 318 [(0, .ref (E.2.2.2.2.2.2.1 0)), (1, .ref (E.2.2.2.2.1 + o)), (2, .ref (E.2.2.2.2.1 + k2)), (8, .int x8), (9, .int x9)] [] := by
  unfold bL_law_318
  refine y_iload (n := 320) C dL_law_318 3 rfl rfl ?_
  refine y_istore (n := 322) (ls' := [(6, .int x8), (0, .ref (E.2.2.2.2.2.2.1 0)), (1, .ref (E.2.2.2.2.1 + o)), (2, .ref (E.2.2.2.2.1 + k2)), (8, .int x8), (9, .int x9)]) C dL_law_320 (by decide) rfl rfl ?_
  refine y_iload (n := 324) C dL_law_322 5 rfl rfl ?_
  refine y_istore (n := 326) (ls' := [(7, .int x9), (6, .int x8), (0, .ref (E.2.2.2.2.2.2.1 0)), (1, .ref (E.2.2.2.2.1 + o)), (2, .ref (E.2.2.2.2.1 + k2)), (8, .int x8), (9, .int x9)]) C dL_law_324 (by decide) rfl rfl ?_
  refine y_iinc (n := 329) (v := x8 + 1) (ls' := [(8, .int (x8 + 1)), (7, .int x9), (6, .int x8), (0, .ref (E.2.2.2.2.2.2.1 0)), (1, .ref (E.2.2.2.2.1 + o)), (2, .ref (E.2.2.2.2.1 + k2)), (9, .int x9)]) C dL_law_326 5 rfl rfl (by decide) rfl rfl ?_
  refine y_goto (tgt := 255) C dL_law_329 (by decide) ?_
  refine y_ls [3, 4, 5, 2, 1, 0] rfl ?_
  exact hK255 w x8 x9 (x8 + 1)
def bL_law_280 (y : Ly) (K255 : Wd → Int32 → Int32 → Int32 → Option (Int32)) (w : Wd) (o k2 L : Nat) (xs : Nat → Int32) (x6 : Int32) (x7 : Int32) (x8 : Int32) (s0 : Int32) (s1 : Int32) : Option (Int32) :=
  (fL_cell w L xs 2).bind fun v40 =>
  (fL_low w (v40 >>> (x8 &&& 31)) 5).bind fun v41 =>
  ob2 (fL_read y w o s1 s0 (1 + v41)) fun v42 w43 =>
  if 0 ≤ v42 then
    if x6 < 0 then
      bL_law_318 y K255 w43 o k2 L xs x8 v42
    else
      if x7 ≤ v42 then
        K255 w43 x6 x7 (x8 + 1)
      else
        bL_law_318 y K255 w43 o k2 L xs x8 v42
  else
    some 0
set_option maxRecDepth 4000 in
theorem cbL_law_280 {g : Gx} {E : Ex} (C : CC g E cL_law 10 RL 8 191) (hR : RT g ret) {o k2 L : Nat} {xs : Nat → Int32} (hO : shB E.2.2.2.2.2.1 o) (hk2 : E.2.2.2.2.2.1[k2]? = some (0, 64)) (HX : SX E L xs) (HL : SL g E) (w : Wd) (K255 : Wd → Int32 → Int32 → Int32 → Option (Int32)) (hK255 : ∀ (w : Wd) (x6 : Int32) (x7 : Int32) (x8 : Int32), YO g E 10 (QL g E) (K255 w x6 x7 x8) w 255 [(0, .ref (E.2.2.2.2.2.2.1 0)), (1, .ref (E.2.2.2.2.1 + o)), (2, .ref (E.2.2.2.2.1 + k2)), (6, .int x6), (7, .int x7), (8, .int x8)] []) (x6 : Int32) (x7 : Int32) (x8 : Int32) (s0 : Int32) (s1 : Int32) : YO g E 10 (QL g E) (bL_law_280 E.2.2.2.2.2.1 K255 w o k2 L xs x6 x7 x8 s0 s1) w 280 [(0, .ref (E.2.2.2.2.2.2.1 0)), (1, .ref (E.2.2.2.2.1 + o)), (2, .ref (E.2.2.2.2.1 + k2)), (6, .int x6), (7, .int x7), (8, .int x8)] [.int s0, .int s1, .ref (E.2.2.2.2.1 + o)] := by
  unfold bL_law_280
  refine y_iconst (n := 281) C (1 : Int32) dL_law_280 (by decide) rfl ?_
  refine y_aload_n (n := 282) C dL_law_281 0 rfl rfl ?_
  refine y_iconst (n := 283) C (2 : Int32) dL_law_282 (by decide) rfl ?_
  refine y_cp (n := 286) C (fun r hr H locs la hP hS hl => y_runS (st := [.int 1, .int s0, .int s1, .ref (E.2.2.2.2.1 + o)]) C ky_L_cell wd_458 ⟨Nat.le_of_ble_eq_true rfl, Nat.le_of_ble_eq_true rfl⟩ (mL_cell HX w 2 g.2.1 r hr) rfl (Nat.le_of_ble_eq_true rfl) rfl dL_law_283 hP hS hl) rfl (fun v40 hv40 => ?_)
  refine y_iload (n := 288) C dL_law_286 5 rfl rfl ?_
  refine y_ishr (n := 289) C dL_law_288 rfl ?_
  refine y_iconst (n := 290) C (5 : Int32) dL_law_289 (by decide) rfl ?_
  refine y_cp (n := 293) C (fun r hr H locs la hP hS hl => y_runS (st := [.int 1, .int s0, .int s1, .ref (E.2.2.2.2.1 + o)]) C ky_L_low wd_463 ⟨Nat.le_of_ble_eq_true rfl, Nat.le_of_ble_eq_true rfl⟩ (mL_low w (v40 >>> (x8 &&& 31)) 5 g.2.1 r hr) rfl (Nat.le_of_ble_eq_true rfl) rfl dL_law_290 hP hS hl) rfl (fun v41 hv41 => ?_)
  refine y_iadd (n := 294) C dL_law_293 rfl ?_
  refine y_ci2 (n := 297) C (fun r hr H locs la hP hS hl => y_runS (st := []) C ky_L_read wd_534 ⟨Nat.le_of_ble_eq_true rfl, Nat.le_of_ble_eq_true rfl⟩ (mL_read hO w s1 s0 (1 + v41) g.2.1 r hr) rfl (Nat.le_of_ble_eq_true rfl) rfl dL_law_294 hP hS hl) rfl (fun v42 w43 hv42 => ?_)
  refine y_istore (n := 299) (ls' := [(9, .int v42), (0, .ref (E.2.2.2.2.2.2.1 0)), (1, .ref (E.2.2.2.2.1 + o)), (2, .ref (E.2.2.2.2.1 + k2)), (6, .int x6), (7, .int x7), (8, .int x8)]) C dL_law_297 (by decide) rfl rfl ?_
  refine y_iload (n := 301) C dL_law_299 0 rfl rfl ?_
  refine y_if_ge (tgt := 306) (n := 304) C dL_law_301 (by decide) rfl (fun h44 => ?_) (fun h44 => ?_)
  · refine y_iload (n := 308) C dL_law_306 4 rfl rfl ?_
    refine y_if_lt (tgt := 318) (n := 311) C dL_law_308 (by decide) rfl (fun h45 => ?_) (fun h45 => ?_)
    · refine y_ls [1, 2, 3, 6, 0] rfl ?_
      exact cbL_law_318 C hR hO hk2 HX HL w43 K255 hK255 x8 v42
    · refine y_iload (n := 313) C dL_law_311 0 rfl rfl ?_
      refine y_iload (n := 315) C dL_law_313 5 rfl rfl ?_
      refine y_icmp_ge (tgt := 326) (n := 318) C dL_law_315 (by decide) rfl (fun h46 => ?_) (fun h46 => ?_)
      · refine y_iinc (n := 329) (v := x8 + 1) (ls' := [(8, .int (x8 + 1)), (9, .int v42), (0, .ref (E.2.2.2.2.2.2.1 0)), (1, .ref (E.2.2.2.2.1 + o)), (2, .ref (E.2.2.2.2.1 + k2)), (6, .int x6), (7, .int x7)]) C dL_law_326 6 rfl rfl (by decide) rfl rfl ?_
        refine y_goto (tgt := 255) C dL_law_329 (by decide) ?_
        refine y_ls [2, 3, 4, 5, 6, 0] rfl ?_
        exact hK255 w43 x6 x7 (x8 + 1)
      · refine y_ls [1, 2, 3, 6, 0] rfl ?_
        exact cbL_law_318 C hR hO hk2 HX HL w43 K255 hK255 x8 v42
  · refine y_iconst (n := 305) C (0 : Int32) dL_law_304 (by decide) rfl ?_
    exact y_rl C HL hR dL_law_305
def lL_law_255 (y : Ly) (o k2 L : Nat) (xs : Nat → Int32) : Nat → Wd → Int32 → Int32 → Int32 → Option (Int32)
  | 0, _, _, _, _ => none
  | n + 1, w, x6, x7, x8 =>
    if 6 ≤ x8 then
      ob2 (fX5_cheapest w o) fun v27 w28 =>
      if v27 = x6 then
        (fX5_count w28 o 5).bind fun v30 =>
        if v30 = 0 then
          (fX5_count w28 o 6).bind fun v32 =>
          if v32 = 6 then
            (fX5_count w28 o 7).bind fun v34 =>
            if v34 = 0 then
              ob2 (fL_reckon w28 o k2 64) fun v36 w37 =>
              if v36 = 0 then
                some 0
              else
                some 1
            else
              some 0
          else
            some 0
        else
          some 0
      else
        some 0
    else
      if (x8 - x8 / 2 * 2) = 1 then
        bL_law_280 y (fun w z0 z1 z2 => lL_law_255 y o k2 L xs n w z0 z1 z2) w o k2 L xs x6 x7 x8 1 (x8 / 2)
      else
        bL_law_280 y (fun w z0 z1 z2 => lL_law_255 y o k2 L xs n w z0 z1 z2) w o k2 L xs x6 x7 x8 0 (x8 / 2)
set_option maxRecDepth 4000 in
theorem clL_law_255 {g : Gx} {E : Ex} (C : CC g E cL_law 10 RL 8 191) (hR : RT g ret) {o k2 L : Nat} {xs : Nat → Int32} (hO : shB E.2.2.2.2.2.1 o) (hk2 : E.2.2.2.2.2.1[k2]? = some (0, 64)) (HX : SX E L xs) (HL : SL g E)  : ∀ (n : Nat) (w : Wd) (x6 : Int32) (x7 : Int32) (x8 : Int32), YO g E 10 (QL g E) (lL_law_255 E.2.2.2.2.2.1 o k2 L xs n w x6 x7 x8) w 255 [(0, .ref (E.2.2.2.2.2.2.1 0)), (1, .ref (E.2.2.2.2.1 + o)), (2, .ref (E.2.2.2.2.1 + k2)), (6, .int x6), (7, .int x7), (8, .int x8)] [] := by
  intro n
  induction n with
  | zero => intro w x6 x7 x8; exact y_no
  | succ n ih =>
    intro w x6 x7 x8
    rw [lL_law_255]
    refine y_iload (n := 257) C dL_law_255 5 rfl rfl ?_
    refine y_bipush (n := 259) C (6 : Int32) dL_law_257 (by decide) rfl ?_
    refine y_icmp_ge (tgt := 332) (n := 262) C dL_law_259 (by decide) rfl (fun h26 => ?_) (fun h26 => ?_)
    · refine y_aload_n (n := 333) C dL_law_332 1 rfl rfl ?_
      refine y_ci2 (n := 336) C (fun r hr H locs la hP hS hl => y_runV (ci := 5) (st := []) C ky_X5_cheapest wd_379 ⟨Nat.le_of_ble_eq_true rfl, Nat.le_of_ble_eq_true rfl⟩ hO.1 rfl (mX5_cheapest hO w g.2.1 r hr) rfl (Nat.le_of_ble_eq_true rfl) rfl dL_law_333 hP hS hl) rfl (fun v27 w28 hv27 => ?_)
      refine y_iload (n := 338) C dL_law_336 3 rfl rfl ?_
      refine y_icmp_ne (tgt := 381) (n := 341) C dL_law_338 (by decide) rfl (fun h29 => ?_) (fun h29 => ?_)
      · refine y_iconst (n := 382) C (0 : Int32) dL_law_381 (by decide) rfl ?_
        exact y_rl C HL hR dL_law_382
      · refine y_aload_n (n := 342) C dL_law_341 1 rfl rfl ?_
        refine y_iconst (n := 343) C (5 : Int32) dL_law_342 (by decide) rfl ?_
        refine y_cp (n := 346) C (fun r hr H locs la hP hS hl => y_runV (ci := 5) (st := []) C ky_X5_count wd_439 ⟨Nat.le_of_ble_eq_true rfl, Nat.le_of_ble_eq_true rfl⟩ hO.1 rfl (mX5_count hO w28 5 g.2.1 r hr) rfl (Nat.le_of_ble_eq_true rfl) rfl dL_law_343 hP hS hl) rfl (fun v30 hv30 => ?_)
        refine y_if_ne (tgt := 381) (n := 349) C dL_law_346 (by decide) rfl (fun h31 => ?_) (fun h31 => ?_)
        · refine y_iconst (n := 382) C (0 : Int32) dL_law_381 (by decide) rfl ?_
          exact y_rl C HL hR dL_law_382
        · refine y_aload_n (n := 350) C dL_law_349 1 rfl rfl ?_
          refine y_bipush (n := 352) C (6 : Int32) dL_law_350 (by decide) rfl ?_
          refine y_cp (n := 355) C (fun r hr H locs la hP hS hl => y_runV (ci := 5) (st := []) C ky_X5_count wd_439 ⟨Nat.le_of_ble_eq_true rfl, Nat.le_of_ble_eq_true rfl⟩ hO.1 rfl (mX5_count hO w28 6 g.2.1 r hr) rfl (Nat.le_of_ble_eq_true rfl) rfl dL_law_352 hP hS hl) rfl (fun v32 hv32 => ?_)
          refine y_bipush (n := 357) C (6 : Int32) dL_law_355 (by decide) rfl ?_
          refine y_icmp_ne (tgt := 381) (n := 360) C dL_law_357 (by decide) rfl (fun h33 => ?_) (fun h33 => ?_)
          · refine y_iconst (n := 382) C (0 : Int32) dL_law_381 (by decide) rfl ?_
            exact y_rl C HL hR dL_law_382
          · refine y_aload_n (n := 361) C dL_law_360 1 rfl rfl ?_
            refine y_bipush (n := 363) C (7 : Int32) dL_law_361 (by decide) rfl ?_
            refine y_cp (n := 366) C (fun r hr H locs la hP hS hl => y_runV (ci := 5) (st := []) C ky_X5_count wd_439 ⟨Nat.le_of_ble_eq_true rfl, Nat.le_of_ble_eq_true rfl⟩ hO.1 rfl (mX5_count hO w28 7 g.2.1 r hr) rfl (Nat.le_of_ble_eq_true rfl) rfl dL_law_363 hP hS hl) rfl (fun v34 hv34 => ?_)
            refine y_if_ne (tgt := 381) (n := 369) C dL_law_366 (by decide) rfl (fun h35 => ?_) (fun h35 => ?_)
            · refine y_iconst (n := 382) C (0 : Int32) dL_law_381 (by decide) rfl ?_
              exact y_rl C HL hR dL_law_382
            · refine y_aload_n (n := 370) C dL_law_369 1 rfl rfl ?_
              refine y_aload_n (n := 371) C dL_law_370 2 rfl rfl ?_
              refine y_ci2 (n := 374) C (fun r hr H locs la hP hS hl => y_runS (st := []) C ky_L_reckon wd_519 ⟨Nat.le_of_ble_eq_true rfl, Nat.le_of_ble_eq_true rfl⟩ (mL_reckon hO hk2 w28 g.2.1 r hr) rfl (Nat.le_of_ble_eq_true rfl) rfl dL_law_371 hP hS hl) rfl (fun v36 w37 hv36 => ?_)
              refine y_if_eq (tgt := 381) (n := 377) C dL_law_374 (by decide) rfl (fun h38 => ?_) (fun h38 => ?_)
              · refine y_iconst (n := 382) C (0 : Int32) dL_law_381 (by decide) rfl ?_
                exact y_rl C HL hR dL_law_382
              · refine y_iconst (n := 378) C (1 : Int32) dL_law_377 (by decide) rfl ?_
                refine y_goto (tgt := 382) C dL_law_378 (by decide) ?_
                exact y_rl C HL hR dL_law_382
    · refine y_aload_n (n := 263) C dL_law_262 1 rfl rfl ?_
      refine y_iload (n := 265) C dL_law_263 5 rfl rfl ?_
      refine y_iconst (n := 266) C (2 : Int32) dL_law_265 (by decide) rfl ?_
      refine y_idiv (n := 267) C dL_law_266 (by decide) rfl ?_
      refine y_iload (n := 269) C dL_law_267 5 rfl rfl ?_
      refine y_iconst (n := 270) C (2 : Int32) dL_law_269 (by decide) rfl ?_
      refine y_irem (n := 271) C dL_law_270 (by decide) rfl ?_
      refine y_iconst (n := 272) C (1 : Int32) dL_law_271 (by decide) rfl ?_
      refine y_icmp_ne (tgt := 279) (n := 275) C dL_law_272 (by decide) rfl (fun h39 => ?_) (fun h39 => ?_)
      · refine y_iconst (n := 280) C (0 : Int32) dL_law_279 (by decide) rfl ?_
        exact cbL_law_280 C hR hO hk2 HX HL w (fun w z0 z1 z2 => lL_law_255 E.2.2.2.2.2.1 o k2 L xs n w z0 z1 z2)  (fun w z0 z1 z2 => ih w z0 z1 z2) x6 x7 x8 0 (x8 / 2)
      · refine y_iconst (n := 276) C (1 : Int32) dL_law_275 (by decide) rfl ?_
        refine y_goto (tgt := 280) C dL_law_276 (by decide) ?_
        exact cbL_law_280 C hR hO hk2 HX HL w (fun w z0 z1 z2 => lL_law_255 E.2.2.2.2.2.1 o k2 L xs n w z0 z1 z2)  (fun w z0 z1 z2 => ih w z0 z1 z2) x6 x7 x8 1 (x8 / 2)
def lL_law_168 (y : Ly) (o k2 L : Nat) (xs : Nat → Int32) : Nat → Wd → Int32 → Int32 → Option (Int32)
  | 0, _, _, _ => none
  | n + 1, w, x4, x6 =>
    if 12 ≤ x6 then
      ob2 (fL_reckon w o k2 64) fun v21 w22 =>
      if v21 = 0 then
        some 0
      else
        (fL_areWanted w22 o k2 64).bind fun v24 =>
        if v24 = 0 then
          some 0
        else
          lL_law_255 y o k2 L xs 4096 w22 (-1) 0 0
    else
      (fL_low w (x4 >>> ((8 + x6) &&& 31)) 4).bind fun v47 =>
      if v47 = 0 then
        ob2 (fX5_delete y w o x6) fun v49 w50 =>
        (fX5_document w50 o x6 2).bind fun v51 =>
        (fL_bits w50 v51).bind fun v52 =>
        if v49 = v52 then
          ob2 (fX5_delete y w50 o x6) fun v54 w55 =>
          if v54 = (-5) then
            lL_law_168 y o k2 L xs n w55 x4 (x6 + 1)
          else
            some 0
        else
          some 0
      else
        lL_law_168 y o k2 L xs n w x4 (x6 + 1)
set_option maxRecDepth 4000 in
theorem clL_law_168 {g : Gx} {E : Ex} (C : CC g E cL_law 10 RL 8 191) (hR : RT g ret) {o k2 L : Nat} {xs : Nat → Int32} (hO : shB E.2.2.2.2.2.1 o) (hk2 : E.2.2.2.2.2.1[k2]? = some (0, 64)) (HX : SX E L xs) (HL : SL g E)  : ∀ (n : Nat) (w : Wd) (x4 : Int32) (x6 : Int32), YO g E 10 (QL g E) (lL_law_168 E.2.2.2.2.2.1 o k2 L xs n w x4 x6) w 168 [(0, .ref (E.2.2.2.2.2.2.1 0)), (1, .ref (E.2.2.2.2.1 + o)), (2, .ref (E.2.2.2.2.1 + k2)), (4, .int x4), (6, .int x6)] [] := by
  intro n
  induction n with
  | zero => intro w x4 x6; exact y_no
  | succ n ih =>
    intro w x4 x6
    rw [lL_law_168]
    refine y_iload (n := 170) C dL_law_168 4 rfl rfl ?_
    refine y_bipush (n := 172) C (12 : Int32) dL_law_170 (by decide) rfl ?_
    refine y_icmp_ge (tgt := 228) (n := 175) C dL_law_172 (by decide) rfl (fun h20 => ?_) (fun h20 => ?_)
    · refine y_aload_n (n := 229) C dL_law_228 1 rfl rfl ?_
      refine y_aload_n (n := 230) C dL_law_229 2 rfl rfl ?_
      refine y_ci2 (n := 233) C (fun r hr H locs la hP hS hl => y_runS (st := []) C ky_L_reckon wd_519 ⟨Nat.le_of_ble_eq_true rfl, Nat.le_of_ble_eq_true rfl⟩ (mL_reckon hO hk2 w g.2.1 r hr) rfl (Nat.le_of_ble_eq_true rfl) rfl dL_law_230 hP hS hl) rfl (fun v21 w22 hv21 => ?_)
      refine y_if_eq (tgt := 244) (n := 236) C dL_law_233 (by decide) rfl (fun h23 => ?_) (fun h23 => ?_)
      · refine y_iconst (n := 245) C (0 : Int32) dL_law_244 (by decide) rfl ?_
        exact y_rl C HL hR dL_law_245
      · refine y_aload_n (n := 237) C dL_law_236 1 rfl rfl ?_
        refine y_aload_n (n := 238) C dL_law_237 2 rfl rfl ?_
        refine y_cp (n := 241) C (fun r hr H locs la hP hS hl => y_runS (st := []) C ky_L_areWanted wd_522 ⟨Nat.le_of_ble_eq_true rfl, Nat.le_of_ble_eq_true rfl⟩ (mL_areWanted hO hk2 w22 g.2.1 r hr) rfl (Nat.le_of_ble_eq_true rfl) rfl dL_law_238 hP hS hl) rfl (fun v24 hv24 => ?_)
        refine y_if_ne (tgt := 246) (n := 244) C dL_law_241 (by decide) rfl (fun h25 => ?_) (fun h25 => ?_)
        · refine y_iconst (n := 247) C ((-1) : Int32) dL_law_246 (by decide) rfl ?_
          refine y_istore (n := 249) (ls' := [(6, .int (-1)), (0, .ref (E.2.2.2.2.2.2.1 0)), (1, .ref (E.2.2.2.2.1 + o)), (2, .ref (E.2.2.2.2.1 + k2)), (4, .int x4)]) C dL_law_247 (by decide) rfl rfl ?_
          refine y_iconst (n := 250) C (0 : Int32) dL_law_249 (by decide) rfl ?_
          refine y_istore (n := 252) (ls' := [(7, .int 0), (6, .int (-1)), (0, .ref (E.2.2.2.2.2.2.1 0)), (1, .ref (E.2.2.2.2.1 + o)), (2, .ref (E.2.2.2.2.1 + k2)), (4, .int x4)]) C dL_law_250 (by decide) rfl rfl ?_
          refine y_iconst (n := 253) C (0 : Int32) dL_law_252 (by decide) rfl ?_
          refine y_istore (n := 255) (ls' := [(8, .int 0), (7, .int 0), (6, .int (-1)), (0, .ref (E.2.2.2.2.2.2.1 0)), (1, .ref (E.2.2.2.2.1 + o)), (2, .ref (E.2.2.2.2.1 + k2)), (4, .int x4)]) C dL_law_253 (by decide) rfl rfl ?_
          refine y_ls [3, 4, 5, 2, 1, 0] rfl ?_
          exact clL_law_255 C hR hO hk2 HX HL 4096 w22 (-1) 0 0
        · refine y_iconst (n := 245) C (0 : Int32) dL_law_244 (by decide) rfl ?_
          exact y_rl C HL hR dL_law_245
    · refine y_iload (n := 177) C dL_law_175 3 rfl rfl ?_
      refine y_bipush (n := 179) C (8 : Int32) dL_law_177 (by decide) rfl ?_
      refine y_iload (n := 181) C dL_law_179 4 rfl rfl ?_
      refine y_iadd (n := 182) C dL_law_181 rfl ?_
      refine y_ishr (n := 183) C dL_law_182 rfl ?_
      refine y_iconst (n := 184) C (4 : Int32) dL_law_183 (by decide) rfl ?_
      refine y_cp (n := 187) C (fun r hr H locs la hP hS hl => y_runS (st := []) C ky_L_low wd_463 ⟨Nat.le_of_ble_eq_true rfl, Nat.le_of_ble_eq_true rfl⟩ (mL_low w (x4 >>> ((8 + x6) &&& 31)) 4 g.2.1 r hr) rfl (Nat.le_of_ble_eq_true rfl) rfl dL_law_184 hP hS hl) rfl (fun v47 hv47 => ?_)
      refine y_if_ne (tgt := 222) (n := 190) C dL_law_187 (by decide) rfl (fun h48 => ?_) (fun h48 => ?_)
      · refine y_iinc (n := 225) (v := x6 + 1) (ls' := [(6, .int (x6 + 1)), (0, .ref (E.2.2.2.2.2.2.1 0)), (1, .ref (E.2.2.2.2.1 + o)), (2, .ref (E.2.2.2.2.1 + k2)), (4, .int x4)]) C dL_law_222 4 rfl rfl (by decide) rfl rfl ?_
        refine y_goto (tgt := 168) C dL_law_225 (by decide) ?_
        refine y_ls [1, 2, 3, 4, 0] rfl ?_
        exact ih w x4 (x6 + 1)
      · refine y_aload_n (n := 191) C dL_law_190 1 rfl rfl ?_
        refine y_iload (n := 193) C dL_law_191 4 rfl rfl ?_
        refine y_ci2 (n := 196) C (fun r hr H locs la hP hS hl => y_runV (ci := 5) (st := []) C ky_X5_delete wd_199 ⟨Nat.le_of_ble_eq_true rfl, Nat.le_of_ble_eq_true rfl⟩ hO.1 rfl (mX5_delete hO w x6 g.2.1 r hr) rfl (Nat.le_of_ble_eq_true rfl) rfl dL_law_193 hP hS hl) rfl (fun v49 w50 hv49 => ?_)
        refine y_aload_n (n := 197) C dL_law_196 1 rfl rfl ?_
        refine y_iload (n := 199) C dL_law_197 4 rfl rfl ?_
        refine y_iconst (n := 200) C (2 : Int32) dL_law_199 (by decide) rfl ?_
        refine y_cp (n := 203) C (fun r hr H locs la hP hS hl => y_runV (ci := 5) (st := [.int v49]) C ky_X5_document wd_361 ⟨Nat.le_of_ble_eq_true rfl, Nat.le_of_ble_eq_true rfl⟩ hO.1 rfl (mX5_document hO w50 x6 2 g.2.1 r hr) rfl (Nat.le_of_ble_eq_true rfl) rfl dL_law_200 hP hS hl) rfl (fun v51 hv51 => ?_)
        refine y_cp (n := 206) C (fun r hr H locs la hP hS hl => y_runS (st := [.int v49]) C ky_L_bits wd_467 ⟨Nat.le_of_ble_eq_true rfl, Nat.le_of_ble_eq_true rfl⟩ (mL_bits w50 v51 g.2.1 r hr) rfl (Nat.le_of_ble_eq_true rfl) rfl dL_law_203 hP hS hl) rfl (fun v52 hv52 => ?_)
        refine y_icmp_ne (tgt := 220) (n := 209) C dL_law_206 (by decide) rfl (fun h53 => ?_) (fun h53 => ?_)
        · refine y_iconst (n := 221) C (0 : Int32) dL_law_220 (by decide) rfl ?_
          exact y_rl C HL hR dL_law_221
        · refine y_aload_n (n := 210) C dL_law_209 1 rfl rfl ?_
          refine y_iload (n := 212) C dL_law_210 4 rfl rfl ?_
          refine y_ci2 (n := 215) C (fun r hr H locs la hP hS hl => y_runV (ci := 5) (st := []) C ky_X5_delete wd_199 ⟨Nat.le_of_ble_eq_true rfl, Nat.le_of_ble_eq_true rfl⟩ hO.1 rfl (mX5_delete hO w50 x6 g.2.1 r hr) rfl (Nat.le_of_ble_eq_true rfl) rfl dL_law_212 hP hS hl) rfl (fun v54 w55 hv54 => ?_)
          refine y_bipush (n := 217) C ((-5) : Int32) dL_law_215 (by decide) rfl ?_
          refine y_icmp_eq (tgt := 222) (n := 220) C dL_law_217 (by decide) rfl (fun h56 => ?_) (fun h56 => ?_)
          · refine y_iinc (n := 225) (v := x6 + 1) (ls' := [(6, .int (x6 + 1)), (0, .ref (E.2.2.2.2.2.2.1 0)), (1, .ref (E.2.2.2.2.1 + o)), (2, .ref (E.2.2.2.2.1 + k2)), (4, .int x4)]) C dL_law_222 4 rfl rfl (by decide) rfl rfl ?_
            refine y_goto (tgt := 168) C dL_law_225 (by decide) ?_
            refine y_ls [1, 2, 3, 4, 0] rfl ?_
            exact ih w55 x4 (x6 + 1)
          · refine y_iconst (n := 221) C (0 : Int32) dL_law_220 (by decide) rfl ?_
            exact y_rl C HL hR dL_law_221
def bL_law_151 (y : Ly) (w : Wd) (o k2 L : Nat) (xs : Nat → Int32) (x3 : Int32) (x4 : Int32) (s0 : Int32) (s1 : Int32) : Option (Int32) :=
  if s1 = s0 then
    (fX5_count w o 1).bind fun v18 =>
    if v18 = x3 then
      lL_law_168 y o k2 L xs 4096 w x4 0
    else
      some 0
  else
    some 0
set_option maxRecDepth 4000 in
theorem cbL_law_151 {g : Gx} {E : Ex} (C : CC g E cL_law 10 RL 8 191) (hR : RT g ret) {o k2 L : Nat} {xs : Nat → Int32} (hO : shB E.2.2.2.2.2.1 o) (hk2 : E.2.2.2.2.2.1[k2]? = some (0, 64)) (HX : SX E L xs) (HL : SL g E) (w : Wd) (x3 : Int32) (x4 : Int32) (s0 : Int32) (s1 : Int32) : YO g E 10 (QL g E) (bL_law_151 E.2.2.2.2.2.1 w o k2 L xs x3 x4 s0 s1) w 151 [(0, .ref (E.2.2.2.2.2.2.1 0)), (1, .ref (E.2.2.2.2.1 + o)), (2, .ref (E.2.2.2.2.1 + k2)), (3, .int x3), (4, .int x4)] [.int s0, .int s1] := by
  unfold bL_law_151
  refine y_icmp_ne (tgt := 163) (n := 154) C dL_law_151 (by decide) rfl (fun h17 => ?_) (fun h17 => ?_)
  · refine y_iconst (n := 164) C (0 : Int32) dL_law_163 (by decide) rfl ?_
    exact y_rl C HL hR dL_law_164
  · refine y_aload_n (n := 155) C dL_law_154 1 rfl rfl ?_
    refine y_iconst (n := 156) C (1 : Int32) dL_law_155 (by decide) rfl ?_
    refine y_cp (n := 159) C (fun r hr H locs la hP hS hl => y_runV (ci := 5) (st := []) C ky_X5_count wd_439 ⟨Nat.le_of_ble_eq_true rfl, Nat.le_of_ble_eq_true rfl⟩ hO.1 rfl (mX5_count hO w 1 g.2.1 r hr) rfl (Nat.le_of_ble_eq_true rfl) rfl dL_law_156 hP hS hl) rfl (fun v18 hv18 => ?_)
    refine y_iload_n (n := 160) C dL_law_159 3 rfl rfl ?_
    refine y_icmp_eq (tgt := 165) (n := 163) C dL_law_160 (by decide) rfl (fun h19 => ?_) (fun h19 => ?_)
    · refine y_iconst (n := 166) C (0 : Int32) dL_law_165 (by decide) rfl ?_
      refine y_istore (n := 168) (ls' := [(6, .int 0), (0, .ref (E.2.2.2.2.2.2.1 0)), (1, .ref (E.2.2.2.2.1 + o)), (2, .ref (E.2.2.2.2.1 + k2)), (3, .int x3), (4, .int x4)]) C dL_law_166 (by decide) rfl rfl ?_
      refine y_ls [1, 2, 3, 5, 0] rfl ?_
      exact clL_law_168 C hR hO hk2 HX HL 4096 w x4 0
    · refine y_iconst (n := 164) C (0 : Int32) dL_law_163 (by decide) rfl ?_
      exact y_rl C HL hR dL_law_164
def lL_law_58 (y : Ly) (o k2 L : Nat) (xs : Nat → Int32) : Nat → Wd → Int32 → Int32 → Option (Int32)
  | 0, _, _, _ => none
  | n + 1, w, x3, x4 =>
    if x3 ≤ x4 then
      (fL_cell w L xs 1).bind fun v12 =>
      (fL_low w v12 10).bind fun v13 =>
      ob2 (fX5_want y w o (1 + v13)) fun v14 w15 =>
      if (1 + v13) = 3 then
        bL_law_151 y w15 o k2 L xs x3 v12 (-5) v14
      else
        bL_law_151 y w15 o k2 L xs x3 v12 3 v14
    else
      ob2 (fL_fill y w o L xs x4 (8 + (12 * x4))) fun v57 w58 =>
      if v57 = 0 then
        some 0
      else
        (fL_cell w58 L xs (60 + x4)).bind fun v60 =>
        (fL_low w58 v60 9).bind fun v61 =>
        ob2 (fX5_weight y w58 o x4 (1 + v61)) fun v62 w63 =>
        if v62 = 0 then
          lL_law_58 y o k2 L xs n w63 x3 (x4 + 1)
        else
          some 0
set_option maxRecDepth 4000 in
theorem clL_law_58 {g : Gx} {E : Ex} (C : CC g E cL_law 10 RL 8 191) (hR : RT g ret) {o k2 L : Nat} {xs : Nat → Int32} (hO : shB E.2.2.2.2.2.1 o) (hk2 : E.2.2.2.2.2.1[k2]? = some (0, 64)) (HX : SX E L xs) (HL : SL g E)  : ∀ (n : Nat) (w : Wd) (x3 : Int32) (x4 : Int32), YO g E 10 (QL g E) (lL_law_58 E.2.2.2.2.2.1 o k2 L xs n w x3 x4) w 58 [(0, .ref (E.2.2.2.2.2.2.1 0)), (1, .ref (E.2.2.2.2.1 + o)), (2, .ref (E.2.2.2.2.1 + k2)), (3, .int x3), (4, .int x4)] [] := by
  intro n
  induction n with
  | zero => intro w x3 x4; exact y_no
  | succ n ih =>
    intro w x3 x4
    rw [lL_law_58]
    refine y_iload (n := 60) C dL_law_58 4 rfl rfl ?_
    refine y_iload_n (n := 61) C dL_law_60 3 rfl rfl ?_
    refine y_icmp_ge (tgt := 115) (n := 64) C dL_law_61 (by decide) rfl (fun h11 => ?_) (fun h11 => ?_)
    · refine y_aload_n (n := 116) C dL_law_115 0 rfl rfl ?_
      refine y_iconst (n := 117) C (1 : Int32) dL_law_116 (by decide) rfl ?_
      refine y_cp (n := 120) C (fun r hr H locs la hP hS hl => y_runS (st := []) C ky_L_cell wd_458 ⟨Nat.le_of_ble_eq_true rfl, Nat.le_of_ble_eq_true rfl⟩ (mL_cell HX w 1 g.2.1 r hr) rfl (Nat.le_of_ble_eq_true rfl) rfl dL_law_117 hP hS hl) rfl (fun v12 hv12 => ?_)
      refine y_istore (n := 122) (ls' := [(4, .int v12), (0, .ref (E.2.2.2.2.2.2.1 0)), (1, .ref (E.2.2.2.2.1 + o)), (2, .ref (E.2.2.2.2.1 + k2)), (3, .int x3)]) C dL_law_120 (by decide) rfl rfl ?_
      refine y_iconst (n := 123) C (1 : Int32) dL_law_122 (by decide) rfl ?_
      refine y_iload (n := 125) C dL_law_123 0 rfl rfl ?_
      refine y_bipush (n := 127) C (10 : Int32) dL_law_125 (by decide) rfl ?_
      refine y_cp (n := 130) C (fun r hr H locs la hP hS hl => y_runS (st := [.int 1]) C ky_L_low wd_463 ⟨Nat.le_of_ble_eq_true rfl, Nat.le_of_ble_eq_true rfl⟩ (mL_low w v12 10 g.2.1 r hr) rfl (Nat.le_of_ble_eq_true rfl) rfl dL_law_127 hP hS hl) rfl (fun v13 hv13 => ?_)
      refine y_iadd (n := 131) C dL_law_130 rfl ?_
      refine y_istore (n := 133) (ls' := [(5, .int (1 + v13)), (4, .int v12), (0, .ref (E.2.2.2.2.2.2.1 0)), (1, .ref (E.2.2.2.2.1 + o)), (2, .ref (E.2.2.2.2.1 + k2)), (3, .int x3)]) C dL_law_131 (by decide) rfl rfl ?_
      refine y_aload_n (n := 134) C dL_law_133 3 rfl rfl ?_
      refine y_iload (n := 136) C dL_law_134 0 rfl rfl ?_
      refine y_ci2 (n := 139) C (fun r hr H locs la hP hS hl => y_runV (ci := 5) (st := []) C ky_X5_want wd_284 ⟨Nat.le_of_ble_eq_true rfl, Nat.le_of_ble_eq_true rfl⟩ hO.1 rfl (mX5_want hO w (1 + v13) g.2.1 r hr) rfl (Nat.le_of_ble_eq_true rfl) rfl dL_law_136 hP hS hl) rfl (fun v14 w15 hv14 => ?_)
      refine y_iload (n := 141) C dL_law_139 0 rfl rfl ?_
      refine y_iconst (n := 142) C (3 : Int32) dL_law_141 (by decide) rfl ?_
      refine y_icmp_ne (tgt := 150) (n := 145) C dL_law_142 (by decide) rfl (fun h16 => ?_) (fun h16 => ?_)
      · refine y_iconst (n := 151) C (3 : Int32) dL_law_150 (by decide) rfl ?_
        refine y_ls [2, 3, 4, 5, 1] rfl ?_
        exact cbL_law_151 C hR hO hk2 HX HL w15 x3 v12 3 v14
      · refine y_bipush (n := 147) C ((-5) : Int32) dL_law_145 (by decide) rfl ?_
        refine y_goto (tgt := 151) C dL_law_147 (by decide) ?_
        refine y_ls [2, 3, 4, 5, 1] rfl ?_
        exact cbL_law_151 C hR hO hk2 HX HL w15 x3 v12 (-5) v14
    · refine y_aload_n (n := 65) C dL_law_64 1 rfl rfl ?_
      refine y_aload_n (n := 66) C dL_law_65 0 rfl rfl ?_
      refine y_iload (n := 68) C dL_law_66 4 rfl rfl ?_
      refine y_bipush (n := 70) C (8 : Int32) dL_law_68 (by decide) rfl ?_
      refine y_bipush (n := 72) C (12 : Int32) dL_law_70 (by decide) rfl ?_
      refine y_iload (n := 74) C dL_law_72 4 rfl rfl ?_
      refine y_imul (n := 75) C dL_law_74 rfl ?_
      refine y_iadd (n := 76) C dL_law_75 rfl ?_
      refine y_ci2 (n := 79) C (fun r hr H locs la hP hS hl => y_runS (st := []) C ky_L_fill wd_470 ⟨Nat.le_of_ble_eq_true rfl, Nat.le_of_ble_eq_true rfl⟩ (mL_fill hO HX w x4 (8 + (12 * x4)) g.2.1 r hr) rfl (Nat.le_of_ble_eq_true rfl) rfl dL_law_76 hP hS hl) rfl (fun v57 w58 hv57 => ?_)
      refine y_if_eq (tgt := 107) (n := 82) C dL_law_79 (by decide) rfl (fun h59 => ?_) (fun h59 => ?_)
      · refine y_iconst (n := 108) C (0 : Int32) dL_law_107 (by decide) rfl ?_
        exact y_rl C HL hR dL_law_108
      · refine y_aload_n (n := 83) C dL_law_82 1 rfl rfl ?_
        refine y_iload (n := 85) C dL_law_83 4 rfl rfl ?_
        refine y_iconst (n := 86) C (1 : Int32) dL_law_85 (by decide) rfl ?_
        refine y_aload_n (n := 87) C dL_law_86 0 rfl rfl ?_
        refine y_bipush (n := 89) C (60 : Int32) dL_law_87 (by decide) rfl ?_
        refine y_iload (n := 91) C dL_law_89 4 rfl rfl ?_
        refine y_iadd (n := 92) C dL_law_91 rfl ?_
        refine y_cp (n := 95) C (fun r hr H locs la hP hS hl => y_runS (st := [.int 1, .int x4, .ref (E.2.2.2.2.1 + o)]) C ky_L_cell wd_458 ⟨Nat.le_of_ble_eq_true rfl, Nat.le_of_ble_eq_true rfl⟩ (mL_cell HX w58 (60 + x4) g.2.1 r hr) rfl (Nat.le_of_ble_eq_true rfl) rfl dL_law_92 hP hS hl) rfl (fun v60 hv60 => ?_)
        refine y_bipush (n := 97) C (9 : Int32) dL_law_95 (by decide) rfl ?_
        refine y_cp (n := 100) C (fun r hr H locs la hP hS hl => y_runS (st := [.int 1, .int x4, .ref (E.2.2.2.2.1 + o)]) C ky_L_low wd_463 ⟨Nat.le_of_ble_eq_true rfl, Nat.le_of_ble_eq_true rfl⟩ (mL_low w58 v60 9 g.2.1 r hr) rfl (Nat.le_of_ble_eq_true rfl) rfl dL_law_97 hP hS hl) rfl (fun v61 hv61 => ?_)
        refine y_iadd (n := 101) C dL_law_100 rfl ?_
        refine y_ci2 (n := 104) C (fun r hr H locs la hP hS hl => y_runV (ci := 5) (st := []) C ky_X5_weight wd_269 ⟨Nat.le_of_ble_eq_true rfl, Nat.le_of_ble_eq_true rfl⟩ hO.1 rfl (mX5_weight hO w58 x4 (1 + v61) g.2.1 r hr) rfl (Nat.le_of_ble_eq_true rfl) rfl dL_law_101 hP hS hl) rfl (fun v62 w63 hv62 => ?_)
        refine y_if_eq (tgt := 109) (n := 107) C dL_law_104 (by decide) rfl (fun h64 => ?_) (fun h64 => ?_)
        · refine y_iinc (n := 112) (v := x4 + 1) (ls' := [(4, .int (x4 + 1)), (0, .ref (E.2.2.2.2.2.2.1 0)), (1, .ref (E.2.2.2.2.1 + o)), (2, .ref (E.2.2.2.2.1 + k2)), (3, .int x3)]) C dL_law_109 4 rfl rfl (by decide) rfl rfl ?_
          refine y_goto (tgt := 58) C dL_law_112 (by decide) ?_
          refine y_ls [1, 2, 3, 4, 0] rfl ?_
          exact ih w63 x3 (x4 + 1)
        · refine y_iconst (n := 108) C (0 : Int32) dL_law_107 (by decide) rfl ?_
          exact y_rl C HL hR dL_law_108
def bL_law_13 (y : Ly) (w : Wd) (o k2 L : Nat) (xs : Nat → Int32)  : Option (Int32) :=
  (fL_cell w L xs 0).bind fun v1 =>
  (fL_low w v1 4).bind fun v2 =>
  ob2 (fX5_begin y w o 0 0) fun v3 w4 =>
  if v3 = (-4) then
    ob2 (fX5_cheapest w4 o) fun v6 w7 =>
    if v6 = (-4) then
      (fX5_count w7 o 4).bind fun v9 =>
      if v9 = 0 then
        lL_law_58 y o k2 L xs 4096 w7 (1 + v2) 0
      else
        some 0
    else
      some 0
  else
    some 0
set_option maxRecDepth 4000 in
theorem cbL_law_13 {g : Gx} {E : Ex} (C : CC g E cL_law 10 RL 8 191) (hR : RT g ret) {o k2 L : Nat} {xs : Nat → Int32} (hO : shB E.2.2.2.2.2.1 o) (hk2 : E.2.2.2.2.2.1[k2]? = some (0, 64)) (HX : SX E L xs) (HL : SL g E) (w : Wd)  : YO g E 10 (QL g E) (bL_law_13 E.2.2.2.2.2.1 w o k2 L xs ) w 13 [(0, .ref (E.2.2.2.2.2.2.1 0)), (1, .ref (E.2.2.2.2.1 + o)), (2, .ref (E.2.2.2.2.1 + k2))] [] := by
  unfold bL_law_13
  refine y_iconst (n := 14) C (1 : Int32) dL_law_13 (by decide) rfl ?_
  refine y_aload_n (n := 15) C dL_law_14 0 rfl rfl ?_
  refine y_iconst (n := 16) C (0 : Int32) dL_law_15 (by decide) rfl ?_
  refine y_cp (n := 19) C (fun r hr H locs la hP hS hl => y_runS (st := [.int 1]) C ky_L_cell wd_458 ⟨Nat.le_of_ble_eq_true rfl, Nat.le_of_ble_eq_true rfl⟩ (mL_cell HX w 0 g.2.1 r hr) rfl (Nat.le_of_ble_eq_true rfl) rfl dL_law_16 hP hS hl) rfl (fun v1 hv1 => ?_)
  refine y_iconst (n := 20) C (4 : Int32) dL_law_19 (by decide) rfl ?_
  refine y_cp (n := 23) C (fun r hr H locs la hP hS hl => y_runS (st := [.int 1]) C ky_L_low wd_463 ⟨Nat.le_of_ble_eq_true rfl, Nat.le_of_ble_eq_true rfl⟩ (mL_low w v1 4 g.2.1 r hr) rfl (Nat.le_of_ble_eq_true rfl) rfl dL_law_20 hP hS hl) rfl (fun v2 hv2 => ?_)
  refine y_iadd (n := 24) C dL_law_23 rfl ?_
  refine y_istore_n (n := 25) (ls' := [(3, .int (1 + v2)), (0, .ref (E.2.2.2.2.2.2.1 0)), (1, .ref (E.2.2.2.2.1 + o)), (2, .ref (E.2.2.2.2.1 + k2))]) C dL_law_24 (by decide) rfl rfl ?_
  refine y_aload_n (n := 26) C dL_law_25 2 rfl rfl ?_
  refine y_iconst (n := 27) C (0 : Int32) dL_law_26 (by decide) rfl ?_
  refine y_iconst (n := 28) C (0 : Int32) dL_law_27 (by decide) rfl ?_
  refine y_ci2 (n := 31) C (fun r hr H locs la hP hS hl => y_runV (ci := 5) (st := []) C ky_X5_begin wd_288 ⟨Nat.le_of_ble_eq_true rfl, Nat.le_of_ble_eq_true rfl⟩ hO.1 rfl (mX5_begin hO w 0 0 g.2.1 r hr) rfl (Nat.le_of_ble_eq_true rfl) rfl dL_law_28 hP hS hl) rfl (fun v3 w4 hv3 => ?_)
  refine y_bipush (n := 33) C ((-4) : Int32) dL_law_31 (by decide) rfl ?_
  refine y_icmp_ne (tgt := 53) (n := 36) C dL_law_33 (by decide) rfl (fun h5 => ?_) (fun h5 => ?_)
  · refine y_iconst (n := 54) C (0 : Int32) dL_law_53 (by decide) rfl ?_
    exact y_rl C HL hR dL_law_54
  · refine y_aload_n (n := 37) C dL_law_36 2 rfl rfl ?_
    refine y_ci2 (n := 40) C (fun r hr H locs la hP hS hl => y_runV (ci := 5) (st := []) C ky_X5_cheapest wd_379 ⟨Nat.le_of_ble_eq_true rfl, Nat.le_of_ble_eq_true rfl⟩ hO.1 rfl (mX5_cheapest hO w4 g.2.1 r hr) rfl (Nat.le_of_ble_eq_true rfl) rfl dL_law_37 hP hS hl) rfl (fun v6 w7 hv6 => ?_)
    refine y_bipush (n := 42) C ((-4) : Int32) dL_law_40 (by decide) rfl ?_
    refine y_icmp_ne (tgt := 53) (n := 45) C dL_law_42 (by decide) rfl (fun h8 => ?_) (fun h8 => ?_)
    · refine y_iconst (n := 54) C (0 : Int32) dL_law_53 (by decide) rfl ?_
      exact y_rl C HL hR dL_law_54
    · refine y_aload_n (n := 46) C dL_law_45 2 rfl rfl ?_
      refine y_iconst (n := 47) C (4 : Int32) dL_law_46 (by decide) rfl ?_
      refine y_cp (n := 50) C (fun r hr H locs la hP hS hl => y_runV (ci := 5) (st := []) C ky_X5_count wd_439 ⟨Nat.le_of_ble_eq_true rfl, Nat.le_of_ble_eq_true rfl⟩ hO.1 rfl (mX5_count hO w7 4 g.2.1 r hr) rfl (Nat.le_of_ble_eq_true rfl) rfl dL_law_47 hP hS hl) rfl (fun v9 hv9 => ?_)
      refine y_if_eq (tgt := 55) (n := 53) C dL_law_50 (by decide) rfl (fun h10 => ?_) (fun h10 => ?_)
      · refine y_iconst (n := 56) C (0 : Int32) dL_law_55 (by decide) rfl ?_
        refine y_istore (n := 58) (ls' := [(4, .int 0), (3, .int (1 + v2)), (0, .ref (E.2.2.2.2.2.2.1 0)), (1, .ref (E.2.2.2.2.1 + o)), (2, .ref (E.2.2.2.2.1 + k2))]) C dL_law_56 (by decide) rfl rfl ?_
        refine y_ls [2, 3, 4, 1, 0] rfl ?_
        exact clL_law_58 C hR hO hk2 HX HL 4096 w7 (1 + v2) 0
      · refine y_iconst (n := 54) C (0 : Int32) dL_law_53 (by decide) rfl ?_
        exact y_rl C HL hR dL_law_54
