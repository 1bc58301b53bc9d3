section YR
variable {ρ : Type} {g : Gx} {E : Ex} {cc : ByteArray} {nL nf nl : Nat} {own : String} {QQ : ρ → State → Prop} {o : Option ρ} {w : Wd} {pc n : Nat} {ls ls' : List (Nat × Value)} {st : List Value}
theorem y_no : YO g E nL QQ (none : Option ρ) w pc ls st := fun r hr => by cases hr
theorem y_eq {o' : Option ρ} (h : o = o') (k : YO g E nL QQ o' w pc ls st) : YO g E nL QQ o w pc ls st := h ▸ k
theorem y_iload_n (C : CC g E cc nL own nf nl) {k : Fin 4} {x : Int32} (hd : decode cc pc = .ok (.iload_n k, 1)) (q : Nat) (hq : ls[q]? = some ((k : Nat), .int x)) (hn : pc + 1 = n) (kk : YO g E nL QQ o w n ls (.int x :: st)) : YO g E nL QQ o w pc ls st := by
  subst hn
  exact fun r hr H locs la hP hS hl => lv_iload_n C.1 C.2.1 hd rfl (lv_at hl q hq) (kk r hr H locs la hP hS hl)
theorem y_iload (C : CC g E cc nL own nf nl) {i : Nat} {x : Int32} (hd : decode cc pc = .ok (.iload i, 2)) (q : Nat) (hq : ls[q]? = some (i, .int x)) (hn : pc + 2 = n) (kk : YO g E nL QQ o w n ls (.int x :: st)) : YO g E nL QQ o w pc ls st := by
  subst hn
  exact fun r hr H locs la hP hS hl => lv_iload C.1 C.2.1 hd (lv_at hl q hq) (kk r hr H locs la hP hS hl)
theorem y_aload_n (C : CC g E cc nL own nf nl) {k : Fin 4} {x : Nat} (hd : decode cc pc = .ok (.aload_n k, 1)) (q : Nat) (hq : ls[q]? = some ((k : Nat), .ref x)) (hn : pc + 1 = n) (kk : YO g E nL QQ o w n ls (.ref x :: st)) : YO g E nL QQ o w pc ls st := by
  subst hn
  exact fun r hr H locs la hP hS hl => lv_aload_n C.1 C.2.1 hd rfl (lv_at hl q hq) (kk r hr H locs la hP hS hl)
theorem y_aload (C : CC g E cc nL own nf nl) {i : Nat} {x : Nat} (hd : decode cc pc = .ok (.aload i, 2)) (q : Nat) (hq : ls[q]? = some (i, .ref x)) (hn : pc + 2 = n) (kk : YO g E nL QQ o w n ls (.ref x :: st)) : YO g E nL QQ o w pc ls st := by
  subst hn
  exact fun r hr H locs la hP hS hl => lv_aload C.1 C.2.1 hd (lv_at hl q hq) (kk r hr H locs la hP hS hl)
theorem y_iconst (C : CC g E cc nL own nf nl) {i : Int} (v : Int32) (hd : decode cc pc = .ok (.iconst i, 1)) (hv : Int32.ofInt i = v) (hn : pc + 1 = n) (kk : YO g E nL QQ o w n ls (.int v :: st)) : YO g E nL QQ o w pc ls st := by
  subst hn
  exact fun r hr H locs la hP hS hl => lv_iconst C.1 C.2.1 hd hv (kk r hr H locs la hP hS hl)
theorem y_bipush (C : CC g E cc nL own nf nl) {i : Int} (v : Int32) (hd : decode cc pc = .ok (.bipush i, 2)) (hv : (Int8.ofInt i).toInt32 = v) (hn : pc + 2 = n) (kk : YO g E nL QQ o w n ls (.int v :: st)) : YO g E nL QQ o w pc ls st := by
  subst hn
  exact fun r hr H locs la hP hS hl => lv_bipush C.1 C.2.1 hd hv (kk r hr H locs la hP hS hl)
theorem y_sipush (C : CC g E cc nL own nf nl) {i : Int} (v : Int32) (hd : decode cc pc = .ok (.sipush i, 3)) (hv : (Int16.ofInt i).toInt32 = v) (hn : pc + 3 = n) (kk : YO g E nL QQ o w n ls (.int v :: st)) : YO g E nL QQ o w pc ls st := by
  subst hn
  exact fun r hr H locs la hP hS hl => lv_sipush C.1 C.2.1 hd hv (kk r hr H locs la hP hS hl)
theorem y_lconst (C : CC g E cc nL own nf nl) {i : Fin 2} (v : Int64) (hd : decode cc pc = .ok (.lconst i, 1)) (hv : Int64.ofNat (i : Nat) = v) (hn : pc + 1 = n) (kk : YO g E nL QQ o w n ls (.long v :: st)) : YO g E nL QQ o w pc ls st := by
  subst hn
  exact fun r hr H locs la hP hS hl => lv_lconst C.1 C.2.1 hd hv (kk r hr H locs la hP hS hl)
theorem y_dup (C : CC g E cc nL own nf nl) {v : Value} (hd : decode cc pc = .ok (.dup, 1)) (hv : v.category = 1) (hn : pc + 1 = n) (kk : YO g E nL QQ o w n ls (v :: v :: st)) : YO g E nL QQ o w pc ls (v :: st) := by
  subst hn
  exact fun r hr H locs la hP hS hl => lv_dup C.1 C.2.1 hd hv (kk r hr H locs la hP hS hl)
theorem y_dup2 (C : CC g E cc nL own nf nl) {v u : Value} (hd : decode cc pc = .ok (.dup2, 1)) (hv : v.category = 1) (hu : u.category = 1) (hn : pc + 1 = n) (kk : YO g E nL QQ o w n ls (v :: u :: v :: u :: st)) : YO g E nL QQ o w pc ls (v :: u :: st) := by
  subst hn
  exact fun r hr H locs la hP hS hl => lv_dup2_11 C.1 C.2.1 hd hv hu (kk r hr H locs la hP hS hl)
theorem y_pop (C : CC g E cc nL own nf nl) {v : Value} (hd : decode cc pc = .ok (.pop, 1)) (hv : v.category = 1) (hn : pc + 1 = n) (kk : YO g E nL QQ o w n ls st) : YO g E nL QQ o w pc ls (v :: st) := by
  subst hn
  exact fun r hr H locs la hP hS hl => lv_pop C.1 C.2.1 hd hv (kk r hr H locs la hP hS hl)
theorem y_istore_n (C : CC g E cc nL own nf nl) {k : Fin 4} {x : Int32} (hd : decode cc pc = .ok (.istore_n k, 1)) (hi : (k : Nat) < nL) (hq : ((k : Nat), Value.int x) :: ls.filter (fun q => !(q.1 == (k : Nat)) && !(q.1 + 1 == (k : Nat) && q.2.category == 2)) = ls') (hn : pc + 1 = n) (kk : YO g E nL QQ o w n ls' st) : YO g E nL QQ o w pc ls (.int x :: st) := by
  subst hn
  exact fun r hr H locs la hP hS hl => lv_istore_n C.1 C.2.1 hd rfl hl hi hq (fun la' hl' => kk r hr H locs la' hP hS hl')
theorem y_istore (C : CC g E cc nL own nf nl) {i : Nat} {x : Int32} (hd : decode cc pc = .ok (.istore i, 2)) (hi : i < nL) (hq : (i, Value.int x) :: ls.filter (fun q => !(q.1 == i) && !(q.1 + 1 == i && q.2.category == 2)) = ls') (hn : pc + 2 = n) (kk : YO g E nL QQ o w n ls' st) : YO g E nL QQ o w pc ls (.int x :: st) := by
  subst hn
  exact fun r hr H locs la hP hS hl => lv_istore C.1 C.2.1 hd hl hi hq (fun la' hl' => kk r hr H locs la' hP hS hl')
theorem y_astore_n (C : CC g E cc nL own nf nl) {k : Fin 4} {x : Nat} (hd : decode cc pc = .ok (.astore_n k, 1)) (hi : (k : Nat) < nL) (hq : ((k : Nat), Value.ref x) :: ls.filter (fun q => !(q.1 == (k : Nat)) && !(q.1 + 1 == (k : Nat) && q.2.category == 2)) = ls') (hn : pc + 1 = n) (kk : YO g E nL QQ o w n ls' st) : YO g E nL QQ o w pc ls (.ref x :: st) := by
  subst hn
  exact fun r hr H locs la hP hS hl => lv_astore_n C.1 C.2.1 hd rfl hl hi hq (fun la' hl' => kk r hr H locs la' hP hS hl')
theorem y_iinc (C : CC g E cc nL own nf nl) {i : Nat} {d : Int} {x v : Int32} (hd : decode cc pc = .ok (.iinc i d, 3)) (q : Nat) (hk : ls[q]? = some (i, .int x)) (hv : x + Int32.ofInt d = v) (hi : i < nL) (hq : (i, Value.int v) :: ls.filter (fun q => !(q.1 == i) && !(q.1 + 1 == i && q.2.category == 2)) = ls') (hn : pc + 3 = n) (kk : YO g E nL QQ o w n ls' st) : YO g E nL QQ o w pc ls st := by
  subst hn
  exact fun r hr H locs la hP hS hl => lv_iinc C.1 C.2.1 hd hl hk hv hi hq (fun la' hl' => kk r hr H locs la' hP hS hl')
/-- the locals in another order, or fewer -/
theorem y_ls (ks : List Nat) (h : lv_pick ls ks = ls') (kk : YO g E nL QQ o w pc ls' st) : YO g E nL QQ o w pc ls st := fun r hr H locs la hP hS hl => kk r hr H locs la hP hS (lv_sub hl ks h)
theorem y_iadd (C : CC g E cc nL own nf nl) {x y : Int32} (hd : decode cc pc = .ok (.iadd, 1)) (hn : pc + 1 = n) (kk : YO g E nL QQ o w n ls (.int (x + y) :: st)) : YO g E nL QQ o w pc ls (.int y :: .int x :: st) := by
  subst hn
  exact fun r hr H locs la hP hS hl => lv_iadd C.1 C.2.1 hd (kk r hr H locs la hP hS hl)
theorem y_isub (C : CC g E cc nL own nf nl) {x y : Int32} (hd : decode cc pc = .ok (.isub, 1)) (hn : pc + 1 = n) (kk : YO g E nL QQ o w n ls (.int (x - y) :: st)) : YO g E nL QQ o w pc ls (.int y :: .int x :: st) := by
  subst hn
  exact fun r hr H locs la hP hS hl => lv_isub C.1 C.2.1 hd (kk r hr H locs la hP hS hl)
theorem y_imul (C : CC g E cc nL own nf nl) {x y : Int32} (hd : decode cc pc = .ok (.imul, 1)) (hn : pc + 1 = n) (kk : YO g E nL QQ o w n ls (.int (x * y) :: st)) : YO g E nL QQ o w pc ls (.int y :: .int x :: st) := by
  subst hn
  exact fun r hr H locs la hP hS hl => lv_imul C.1 C.2.1 hd (kk r hr H locs la hP hS hl)
theorem y_iand (C : CC g E cc nL own nf nl) {x y : Int32} (hd : decode cc pc = .ok (.iand, 1)) (hn : pc + 1 = n) (kk : YO g E nL QQ o w n ls (.int (x &&& y) :: st)) : YO g E nL QQ o w pc ls (.int y :: .int x :: st) := by
  subst hn
  exact fun r hr H locs la hP hS hl => lv_iand C.1 C.2.1 hd (kk r hr H locs la hP hS hl)
theorem y_ior (C : CC g E cc nL own nf nl) {x y : Int32} (hd : decode cc pc = .ok (.ior, 1)) (hn : pc + 1 = n) (kk : YO g E nL QQ o w n ls (.int (x ||| y) :: st)) : YO g E nL QQ o w pc ls (.int y :: .int x :: st) := by
  subst hn
  exact fun r hr H locs la hP hS hl => lv_ior C.1 C.2.1 hd (kk r hr H locs la hP hS hl)
theorem y_ishl (C : CC g E cc nL own nf nl) {x y : Int32} (hd : decode cc pc = .ok (.ishl, 1)) (hn : pc + 1 = n) (kk : YO g E nL QQ o w n ls (.int (x <<< (y &&& 31)) :: st)) : YO g E nL QQ o w pc ls (.int y :: .int x :: st) := by
  subst hn
  exact fun r hr H locs la hP hS hl => lv_ishl C.1 C.2.1 hd (kk r hr H locs la hP hS hl)
theorem y_ishr (C : CC g E cc nL own nf nl) {x y : Int32} (hd : decode cc pc = .ok (.ishr, 1)) (hn : pc + 1 = n) (kk : YO g E nL QQ o w n ls (.int (x >>> (y &&& 31)) :: st)) : YO g E nL QQ o w pc ls (.int y :: .int x :: st) := by
  subst hn
  exact fun r hr H locs la hP hS hl => lv_ishr C.1 C.2.1 hd (kk r hr H locs la hP hS hl)
theorem y_lxor (C : CC g E cc nL own nf nl) {x y : Int64} (hd : decode cc pc = .ok (.lxor, 1)) (hn : pc + 1 = n) (kk : YO g E nL QQ o w n ls (.long (x ^^^ y) :: st)) : YO g E nL QQ o w pc ls (.long y :: .long x :: st) := by
  subst hn
  exact fun r hr H locs la hP hS hl => lv_lxor C.1 C.2.1 hd (kk r hr H locs la hP hS hl)
theorem y_land (C : CC g E cc nL own nf nl) {x y : Int64} (hd : decode cc pc = .ok (.land, 1)) (hn : pc + 1 = n) (kk : YO g E nL QQ o w n ls (.long (x &&& y) :: st)) : YO g E nL QQ o w pc ls (.long y :: .long x :: st) := by
  subst hn
  exact fun r hr H locs la hP hS hl => lv_land C.1 C.2.1 hd (kk r hr H locs la hP hS hl)
theorem y_idiv (C : CC g E cc nL own nf nl) {x y : Int32} (hd : decode cc pc = .ok (.idiv, 1)) (h0 : ¬ y = 0) (hn : pc + 1 = n) (kk : YO g E nL QQ o w n ls (.int (x / y) :: st)) : YO g E nL QQ o w pc ls (.int y :: .int x :: st) := by
  subst hn
  exact fun r hr H locs la hP hS hl => lv_idiv C.1 C.2.1 hd h0 (kk r hr H locs la hP hS hl)
theorem y_irem (C : CC g E cc nL own nf nl) {x y : Int32} (hd : decode cc pc = .ok (.irem, 1)) (h0 : ¬ y = 0) (hn : pc + 1 = n) (kk : YO g E nL QQ o w n ls (.int (x - x / y * y) :: st)) : YO g E nL QQ o w pc ls (.int y :: .int x :: st) := by
  subst hn
  exact fun r hr H locs la hP hS hl => lv_irem C.1 C.2.1 hd h0 (kk r hr H locs la hP hS hl)
theorem y_lshl (C : CC g E cc nL own nf nl) {x : Int64} {y : Int32} (hd : decode cc pc = .ok (.lshl, 1)) (hn : pc + 1 = n) (kk : YO g E nL QQ o w n ls (.long (x <<< (y.toInt64 &&& 63)) :: st)) : YO g E nL QQ o w pc ls (.int y :: .long x :: st) := by
  subst hn
  exact fun r hr H locs la hP hS hl => lv_lshl C.1 C.2.1 hd rfl (kk r hr H locs la hP hS hl)
theorem y_lshr (C : CC g E cc nL own nf nl) {x : Int64} {y : Int32} (hd : decode cc pc = .ok (.lshr, 1)) (hn : pc + 1 = n) (kk : YO g E nL QQ o w n ls (.long (x >>> (y.toInt64 &&& 63)) :: st)) : YO g E nL QQ o w pc ls (.int y :: .long x :: st) := by
  subst hn
  exact fun r hr H locs la hP hS hl => lv_lshr C.1 C.2.1 hd rfl (kk r hr H locs la hP hS hl)
theorem y_i2c (C : CC g E cc nL own nf nl) {x : Int32} (hd : decode cc pc = .ok (.i2c, 1)) (hn : pc + 1 = n) (kk : YO g E nL QQ o w n ls (.int (x.toUInt32 % 65536).toInt32 :: st)) : YO g E nL QQ o w pc ls (.int x :: st) := by
  subst hn
  exact fun r hr H locs la hP hS hl => lv_i2c C.1 C.2.1 hd rfl (kk r hr H locs la hP hS hl)
theorem y_if_eq (C : CC g E cc nL own nf nl) {x : Int32} {off : Int} {tgt : Nat} {o1 o2 : Option ρ} (hd : decode cc pc = .ok (.ifCond .eq off, 3)) (ht : (pc : Int) + off = (tgt : Int)) (hn : pc + 3 = n) (kt : x = 0 → YO g E nL QQ o1 w tgt ls st) (kf : ¬ x = 0 → YO g E nL QQ o2 w n ls st) : YO g E nL QQ (if x = 0 then o1 else o2) w pc ls (.int x :: st) := by
  subst hn
  exact fun r hr H locs la hP hS hl => lv_if_eq C.1 C.2.1 hd ht (fun c => kt c r (by rw [if_pos c] at hr; exact hr) H locs la hP hS hl) (fun c => kf c r (by rw [if_neg c] at hr; exact hr) H locs la hP hS hl)
theorem y_icmp_eq (C : CC g E cc nL own nf nl) {x y : Int32} {off : Int} {tgt : Nat} {o1 o2 : Option ρ} (hd : decode cc pc = .ok (.if_icmp .eq off, 3)) (ht : (pc : Int) + off = (tgt : Int)) (hn : pc + 3 = n) (kt : x = y → YO g E nL QQ o1 w tgt ls st) (kf : ¬ x = y → YO g E nL QQ o2 w n ls st) : YO g E nL QQ (if x = y then o1 else o2) w pc ls (.int y :: .int x :: st) := by
  subst hn
  exact fun r hr H locs la hP hS hl => lv_icmp_eq C.1 C.2.1 hd ht (fun c => kt c r (by rw [if_pos c] at hr; exact hr) H locs la hP hS hl) (fun c => kf c r (by rw [if_neg c] at hr; exact hr) H locs la hP hS hl)
theorem y_if_ne (C : CC g E cc nL own nf nl) {x : Int32} {off : Int} {tgt : Nat} {o1 o2 : Option ρ} (hd : decode cc pc = .ok (.ifCond .ne off, 3)) (ht : (pc : Int) + off = (tgt : Int)) (hn : pc + 3 = n) (kt : ¬ x = 0 → YO g E nL QQ o2 w tgt ls st) (kf : x = 0 → YO g E nL QQ o1 w n ls st) : YO g E nL QQ (if x = 0 then o1 else o2) w pc ls (.int x :: st) := by
  subst hn
  exact fun r hr H locs la hP hS hl => lv_if_ne C.1 C.2.1 hd ht (fun c => kt c r (by rw [if_neg c] at hr; exact hr) H locs la hP hS hl) (fun c => kf c r (by rw [if_pos c] at hr; exact hr) H locs la hP hS hl)
theorem y_icmp_ne (C : CC g E cc nL own nf nl) {x y : Int32} {off : Int} {tgt : Nat} {o1 o2 : Option ρ} (hd : decode cc pc = .ok (.if_icmp .ne off, 3)) (ht : (pc : Int) + off = (tgt : Int)) (hn : pc + 3 = n) (kt : ¬ x = y → YO g E nL QQ o2 w tgt ls st) (kf : x = y → YO g E nL QQ o1 w n ls st) : YO g E nL QQ (if x = y then o1 else o2) w pc ls (.int y :: .int x :: st) := by
  subst hn
  exact fun r hr H locs la hP hS hl => lv_icmp_ne C.1 C.2.1 hd ht (fun c => kt c r (by rw [if_neg c] at hr; exact hr) H locs la hP hS hl) (fun c => kf c r (by rw [if_pos c] at hr; exact hr) H locs la hP hS hl)
theorem y_if_lt (C : CC g E cc nL own nf nl) {x : Int32} {off : Int} {tgt : Nat} {o1 o2 : Option ρ} (hd : decode cc pc = .ok (.ifCond .lt off, 3)) (ht : (pc : Int) + off = (tgt : Int)) (hn : pc + 3 = n) (kt : x < 0 → YO g E nL QQ o1 w tgt ls st) (kf : ¬ x < 0 → YO g E nL QQ o2 w n ls st) : YO g E nL QQ (if x < 0 then o1 else o2) w pc ls (.int x :: st) := by
  subst hn
  exact fun r hr H locs la hP hS hl => lv_if_lt C.1 C.2.1 hd ht (fun c => kt c r (by rw [if_pos c] at hr; exact hr) H locs la hP hS hl) (fun c => kf c r (by rw [if_neg c] at hr; exact hr) H locs la hP hS hl)
theorem y_icmp_lt (C : CC g E cc nL own nf nl) {x y : Int32} {off : Int} {tgt : Nat} {o1 o2 : Option ρ} (hd : decode cc pc = .ok (.if_icmp .lt off, 3)) (ht : (pc : Int) + off = (tgt : Int)) (hn : pc + 3 = n) (kt : x < y → YO g E nL QQ o1 w tgt ls st) (kf : ¬ x < y → YO g E nL QQ o2 w n ls st) : YO g E nL QQ (if x < y then o1 else o2) w pc ls (.int y :: .int x :: st) := by
  subst hn
  exact fun r hr H locs la hP hS hl => lv_icmp_lt C.1 C.2.1 hd ht (fun c => kt c r (by rw [if_pos c] at hr; exact hr) H locs la hP hS hl) (fun c => kf c r (by rw [if_neg c] at hr; exact hr) H locs la hP hS hl)
theorem y_if_ge (C : CC g E cc nL own nf nl) {x : Int32} {off : Int} {tgt : Nat} {o1 o2 : Option ρ} (hd : decode cc pc = .ok (.ifCond .ge off, 3)) (ht : (pc : Int) + off = (tgt : Int)) (hn : pc + 3 = n) (kt : 0 ≤ x → YO g E nL QQ o1 w tgt ls st) (kf : ¬ 0 ≤ x → YO g E nL QQ o2 w n ls st) : YO g E nL QQ (if 0 ≤ x then o1 else o2) w pc ls (.int x :: st) := by
  subst hn
  exact fun r hr H locs la hP hS hl => lv_if_ge C.1 C.2.1 hd ht (fun c => kt c r (by rw [if_pos c] at hr; exact hr) H locs la hP hS hl) (fun c => kf c r (by rw [if_neg c] at hr; exact hr) H locs la hP hS hl)
theorem y_icmp_ge (C : CC g E cc nL own nf nl) {x y : Int32} {off : Int} {tgt : Nat} {o1 o2 : Option ρ} (hd : decode cc pc = .ok (.if_icmp .ge off, 3)) (ht : (pc : Int) + off = (tgt : Int)) (hn : pc + 3 = n) (kt : y ≤ x → YO g E nL QQ o1 w tgt ls st) (kf : ¬ y ≤ x → YO g E nL QQ o2 w n ls st) : YO g E nL QQ (if y ≤ x then o1 else o2) w pc ls (.int y :: .int x :: st) := by
  subst hn
  exact fun r hr H locs la hP hS hl => lv_icmp_ge C.1 C.2.1 hd ht (fun c => kt c r (by rw [if_pos c] at hr; exact hr) H locs la hP hS hl) (fun c => kf c r (by rw [if_neg c] at hr; exact hr) H locs la hP hS hl)
theorem y_if_gt (C : CC g E cc nL own nf nl) {x : Int32} {off : Int} {tgt : Nat} {o1 o2 : Option ρ} (hd : decode cc pc = .ok (.ifCond .gt off, 3)) (ht : (pc : Int) + off = (tgt : Int)) (hn : pc + 3 = n) (kt : 0 < x → YO g E nL QQ o1 w tgt ls st) (kf : ¬ 0 < x → YO g E nL QQ o2 w n ls st) : YO g E nL QQ (if 0 < x then o1 else o2) w pc ls (.int x :: st) := by
  subst hn
  exact fun r hr H locs la hP hS hl => lv_if_gt C.1 C.2.1 hd ht (fun c => kt c r (by rw [if_pos c] at hr; exact hr) H locs la hP hS hl) (fun c => kf c r (by rw [if_neg c] at hr; exact hr) H locs la hP hS hl)
theorem y_icmp_gt (C : CC g E cc nL own nf nl) {x y : Int32} {off : Int} {tgt : Nat} {o1 o2 : Option ρ} (hd : decode cc pc = .ok (.if_icmp .gt off, 3)) (ht : (pc : Int) + off = (tgt : Int)) (hn : pc + 3 = n) (kt : y < x → YO g E nL QQ o1 w tgt ls st) (kf : ¬ y < x → YO g E nL QQ o2 w n ls st) : YO g E nL QQ (if y < x then o1 else o2) w pc ls (.int y :: .int x :: st) := by
  subst hn
  exact fun r hr H locs la hP hS hl => lv_icmp_gt C.1 C.2.1 hd ht (fun c => kt c r (by rw [if_pos c] at hr; exact hr) H locs la hP hS hl) (fun c => kf c r (by rw [if_neg c] at hr; exact hr) H locs la hP hS hl)
theorem y_if_le (C : CC g E cc nL own nf nl) {x : Int32} {off : Int} {tgt : Nat} {o1 o2 : Option ρ} (hd : decode cc pc = .ok (.ifCond .le off, 3)) (ht : (pc : Int) + off = (tgt : Int)) (hn : pc + 3 = n) (kt : x ≤ 0 → YO g E nL QQ o1 w tgt ls st) (kf : ¬ x ≤ 0 → YO g E nL QQ o2 w n ls st) : YO g E nL QQ (if x ≤ 0 then o1 else o2) w pc ls (.int x :: st) := by
  subst hn
  exact fun r hr H locs la hP hS hl => lv_if_le C.1 C.2.1 hd ht (fun c => kt c r (by rw [if_pos c] at hr; exact hr) H locs la hP hS hl) (fun c => kf c r (by rw [if_neg c] at hr; exact hr) H locs la hP hS hl)
theorem y_icmp_le (C : CC g E cc nL own nf nl) {x y : Int32} {off : Int} {tgt : Nat} {o1 o2 : Option ρ} (hd : decode cc pc = .ok (.if_icmp .le off, 3)) (ht : (pc : Int) + off = (tgt : Int)) (hn : pc + 3 = n) (kt : x ≤ y → YO g E nL QQ o1 w tgt ls st) (kf : ¬ x ≤ y → YO g E nL QQ o2 w n ls st) : YO g E nL QQ (if x ≤ y then o1 else o2) w pc ls (.int y :: .int x :: st) := by
  subst hn
  exact fun r hr H locs la hP hS hl => lv_icmp_le C.1 C.2.1 hd ht (fun c => kt c r (by rw [if_pos c] at hr; exact hr) H locs la hP hS hl) (fun c => kf c r (by rw [if_neg c] at hr; exact hr) H locs la hP hS hl)
theorem y_goto (C : CC g E cc nL own nf nl) {off : Int} {tgt : Nat} (hd : decode cc pc = .ok (.goto off, 3)) (ht : (pc : Int) + off = (tgt : Int)) (kk : YO g E nL QQ o w tgt ls st) : YO g E nL QQ o w pc ls st :=
  fun r hr H locs la hP hS hl => lv_goto C.1 C.2.1 hd ht (kk r hr H locs la hP hS hl)
end YR
