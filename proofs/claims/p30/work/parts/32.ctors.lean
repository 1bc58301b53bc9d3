theorem vin {x : Int32} {q : Nat} (h1 : 0 ≤ x.toInt) (h2 : x.toInt < q) : vp_in x q := vp_in_iff.mpr ⟨h1, h2⟩
theorem bl_X1 : ∀ j, j < 7 → defaultValue (tyX1 j) = vp_V [.null, .null, .null, .null, .null, .long 0, .int 0] j := by
  intro j hj
  match j, hj with
  | 0, _ => rfl
  | 1, _ => rfl
  | 2, _ => rfl
  | 3, _ => rfl
  | 4, _ => rfl
  | 5, _ => rfl
  | 6, _ => rfl
  | j + 7, h => exact absurd h (by omega)
theorem bl_X2 : ∀ j, j < 16 → defaultValue (tyX2 j) = vp_V [.int 0, .int 0, .int 0, .int 0, .int 0, .int 0, .int 0, .null, .null, .null, .null, .null, .null, .null, .null, .int 0] j := by
  intro j hj
  match j, hj with
  | 0, _ => rfl
  | 1, _ => rfl
  | 2, _ => rfl
  | 3, _ => rfl
  | 4, _ => rfl
  | 5, _ => rfl
  | 6, _ => rfl
  | 7, _ => rfl
  | 8, _ => rfl
  | 9, _ => rfl
  | 10, _ => rfl
  | 11, _ => rfl
  | 12, _ => rfl
  | 13, _ => rfl
  | 14, _ => rfl
  | 15, _ => rfl
  | j + 16, h => exact absurd h (by omega)
theorem bl_X3 : ∀ j, j < 4 → defaultValue (tyX3 j) = vp_V [.null, .null, .int 0, .int 0] j := by
  intro j hj
  match j, hj with
  | 0, _ => rfl
  | 1, _ => rfl
  | 2, _ => rfl
  | 3, _ => rfl
  | j + 4, h => exact absurd h (by omega)
theorem bl_X0 : ∀ j, j < 2 → defaultValue (tyX0 j) = vp_V [.null, .int 0] j := by
  intro j hj
  match j, hj with
  | 0, _ => rfl
  | 1, _ => rfl
  | j + 2, h => exact absurd h (by omega)
theorem bl_X4 : ∀ j, j < 4 → defaultValue (tyX4 j) = vp_V [.null, .int 0, .int 0, .null] j := by
  intro j hj
  match j, hj with
  | 0, _ => rfl
  | 1, _ => rfl
  | 2, _ => rfl
  | 3, _ => rfl
  | j + 4, h => exact absurd h (by omega)
theorem bl_X5 : ∀ j, j < 6 → defaultValue (tyX5 j) = vp_V [.null, .null, .null, .int 0, .null, .null] j := by
  intro j hj
  match j, hj with
  | 0, _ => rfl
  | 1, _ => rfl
  | 2, _ => rfl
  | 3, _ => rfl
  | 4, _ => rfl
  | 5, _ => rfl
  | j + 6, h => exact absurd h (by omega)
theorem we_31 : Cond.methodLink RX1 3 objectInit ∈ TB := TB_m 31 (by decide +kernel) (by decide +kernel)
theorem we_18 : Cond.instanceMethod objectInit ∈ TB := TB_m 18 (by decide +kernel) (by decide +kernel)
theorem we_19 : Cond.code objectInit ⟨#[0xb1]⟩ 1 none ∈ TB := TB_m 19 (by decide +kernel) (by decide +kernel)
theorem we_60 : Cond.arrayClass .int ∈ TB := TB_m 60 (by decide +kernel) (by decide +kernel)
theorem we_32 : Cond.fieldLink RX1 9 (TX1 0).1 (TX1 0).2.1 (TX1 0).2.2.1 ∈ TB := TB_m 32 (by decide +kernel) (by decide +kernel)
theorem we_33 : Cond.fieldLink RX1 15 (TX1 1).1 (TX1 1).2.1 (TX1 1).2.2.1 ∈ TB := TB_m 33 (by decide +kernel) (by decide +kernel)
theorem we_34 : Cond.fieldLink RX1 18 (TX1 2).1 (TX1 2).2.1 (TX1 2).2.2.1 ∈ TB := TB_m 34 (by decide +kernel) (by decide +kernel)
theorem we_35 : Cond.fieldLink RX1 21 (TX1 3).1 (TX1 3).2.1 (TX1 3).2.2.1 ∈ TB := TB_m 35 (by decide +kernel) (by decide +kernel)
theorem we_37 : Cond.fieldLink RX1 24 (TX1 4).1 (TX1 4).2.1 (TX1 4).2.2.1 ∈ TB := TB_m 37 (by decide +kernel) (by decide +kernel)
theorem we_40 : Cond.fieldLink RX1 27 (TX1 5).1 (TX1 5).2.1 (TX1 5).2.2.1 ∈ TB := TB_m 40 (by decide +kernel) (by decide +kernel)
theorem we_42 : Cond.fieldLink RX1 31 (TX1 6).1 (TX1 6).2.1 (TX1 6).2.2.1 ∈ TB := TB_m 42 (by decide +kernel) (by decide +kernel)
def fin_X1 (E : Ex) (k n : Nat) : List Value := [.ref (E.2.2.2.2.1 + n), .ref (E.2.2.2.2.1 + (n + 1)), .ref (E.2.2.2.2.1 + (n + 2)), .ref (E.2.2.2.2.1 + (n + 3)), .ref (E.2.2.2.2.1 + (n + 4)), .long 0, .int 3]
def mk_X1 (E : Ex) (bf : Nat → va_E) (k n : Nat) : Nat → va_E := (zu (zu (zu (zu (zu (zu (zu (zu (zu (zu (zu (zu bf n (.inl (E.2.1, 360, .inl (fun _ => 0)))) k (.inr (1, [.ref (E.2.2.2.2.1 + n), .null, .null, .null, .null, .long 0, .int 0]))) (n + 1) (.inl (E.2.1, 240, .inl (fun _ => 0)))) k (.inr (1, [.ref (E.2.2.2.2.1 + n), .ref (E.2.2.2.2.1 + (n + 1)), .null, .null, .null, .long 0, .int 0]))) (n + 2) (.inl (E.2.1, 6, .inl (fun _ => 0)))) k (.inr (1, [.ref (E.2.2.2.2.1 + n), .ref (E.2.2.2.2.1 + (n + 1)), .ref (E.2.2.2.2.1 + (n + 2)), .null, .null, .long 0, .int 0]))) (n + 3) (.inl (E.2.1, 6, .inl (fun _ => 0)))) k (.inr (1, [.ref (E.2.2.2.2.1 + n), .ref (E.2.2.2.2.1 + (n + 1)), .ref (E.2.2.2.2.1 + (n + 2)), .ref (E.2.2.2.2.1 + (n + 3)), .null, .long 0, .int 0]))) (n + 4) (.inl (E.2.1, 6, .inl (fun _ => 0)))) k (.inr (1, [.ref (E.2.2.2.2.1 + n), .ref (E.2.2.2.2.1 + (n + 1)), .ref (E.2.2.2.2.1 + (n + 2)), .ref (E.2.2.2.2.1 + (n + 3)), .ref (E.2.2.2.2.1 + (n + 4)), .long 0, .int 0]))) k (.inr (1, [.ref (E.2.2.2.2.1 + n), .ref (E.2.2.2.2.1 + (n + 1)), .ref (E.2.2.2.2.1 + (n + 2)), .ref (E.2.2.2.2.1 + (n + 3)), .ref (E.2.2.2.2.1 + (n + 4)), .long 0, .int 0]))) k (.inr (1, [.ref (E.2.2.2.2.1 + n), .ref (E.2.2.2.2.1 + (n + 1)), .ref (E.2.2.2.2.1 + (n + 2)), .ref (E.2.2.2.2.1 + (n + 3)), .ref (E.2.2.2.2.1 + (n + 4)), .long 0, .int 3])))
theorem mk_X1_lt {E : Ex} {bf : Nat → va_E} {k n j : Nat} (h : j < n) (hk : j ≠ k) : mk_X1 E bf k n j = bf j := by
  unfold mk_X1
  repeat first | rw [zu_n (by omega)]
set_option maxRecDepth 4000 in
theorem c_X1 {E : Ex} {bf : Nat → va_E} {k n : Nat} (hk : k < n) (hb : bf k = .inr (1, [.null, .null, .null, .null, .null, .long 0, .int 0])) (l : Launch) : Met l yX1_init (yws yX1_init cX1_init 1 none) { frames := 1, cells := 5, slots := 618, locals := 12 } (va_Pc [.ref (E.2.2.2.2.1 + k)] (zP E bf n)) (zQ E (mk_X1 E bf k n) (n + 5)) 5 618 (yA E) :=
  z_met (by decide +kernel) rfl (by decide) (fun g C hR hin => by
    refine z_aload_n (m := 1) C dX1_init_0 0 rfl rfl ?_
    refine z_obj (m := 4) C we_31 we_18 we_19 (by decide) (by decide) dX1_init_1 rfl ?_
    refine z_aload_n (m := 5) C dX1_init_4 0 rfl rfl ?_
    refine z_sipush (m := 8) C (360 : Int32) dX1_init_5 (by decide) rfl ?_
    refine z_newI (m := 10) (N' := 360) (n2 := n + 1) C we_60 (by decide) (by decide) (by decide) (by decide) (by decide) dX1_init_8 rfl rfl (fun b1 e1 => ?_)
    have f0 : b1 k = .inr (1, [.null, .null, .null, .null, .null, .long 0, .int 0]) := by rw [e1, zu_n (by omega)]; exact hb
    have f1 : b1 n = .inl (E.2.1, 360, .inl (fun _ => 0)) := by rw [e1]; exact zu_s
    refine z_putF (m := 13) (ci := 1) (f := 0) C in_X1 tyX1 tyX1_ok nmX1 (by omega) f0 rfl (by decide) we_32 rfl rfl hin rfl (tyX1_ok 0 (by decide)) rfl rfl (Nat.le_of_ble_eq_true rfl) dX1_init_10 rfl (fun b2 e2 => ?_)
    have f2 : b2 k = .inr (1, [.ref (E.2.2.2.2.1 + n), .null, .null, .null, .null, .long 0, .int 0]) := by rw [e2]; exact zu_s
    have f3 : b2 n = .inl (E.2.1, 360, .inl (fun _ => 0)) := by rw [e2, zu_n (by omega)]; exact f1
    refine z_aload_n (m := 14) C dX1_init_13 0 rfl rfl ?_
    refine z_sipush (m := 17) C (240 : Int32) dX1_init_14 (by decide) rfl ?_
    refine z_newI (m := 19) (N' := 240) (n2 := n + 2) C we_60 (by decide) (by decide) (by decide) (by decide) (by decide) dX1_init_17 rfl rfl (fun b3 e3 => ?_)
    have f4 : b3 k = .inr (1, [.ref (E.2.2.2.2.1 + n), .null, .null, .null, .null, .long 0, .int 0]) := by rw [e3, zu_n (by omega)]; exact f2
    have f5 : b3 n = .inl (E.2.1, 360, .inl (fun _ => 0)) := by rw [e3, zu_n (by omega)]; exact f3
    have f6 : b3 (n + 1) = .inl (E.2.1, 240, .inl (fun _ => 0)) := by rw [e3]; exact zu_s
    refine z_putF (m := 22) (ci := 1) (f := 1) C in_X1 tyX1 tyX1_ok nmX1 (by omega) f4 rfl (by decide) we_33 rfl rfl hin rfl (tyX1_ok 1 (by decide)) rfl rfl (Nat.le_of_ble_eq_true rfl) dX1_init_19 rfl (fun b4 e4 => ?_)
    have f7 : b4 k = .inr (1, [.ref (E.2.2.2.2.1 + n), .ref (E.2.2.2.2.1 + (n + 1)), .null, .null, .null, .long 0, .int 0]) := by rw [e4]; exact zu_s
    have f8 : b4 n = .inl (E.2.1, 360, .inl (fun _ => 0)) := by rw [e4, zu_n (by omega)]; exact f5
    have f9 : b4 (n + 1) = .inl (E.2.1, 240, .inl (fun _ => 0)) := by rw [e4, zu_n (by omega)]; exact f6
    refine z_aload_n (m := 23) C dX1_init_22 0 rfl rfl ?_
    refine z_bipush (m := 25) C (6 : Int32) dX1_init_23 (by decide) rfl ?_
    refine z_newI (m := 27) (N' := 6) (n2 := n + 3) C we_60 (by decide) (by decide) (by decide) (by decide) (by decide) dX1_init_25 rfl rfl (fun b5 e5 => ?_)
    have f10 : b5 k = .inr (1, [.ref (E.2.2.2.2.1 + n), .ref (E.2.2.2.2.1 + (n + 1)), .null, .null, .null, .long 0, .int 0]) := by rw [e5, zu_n (by omega)]; exact f7
    have f11 : b5 n = .inl (E.2.1, 360, .inl (fun _ => 0)) := by rw [e5, zu_n (by omega)]; exact f8
    have f12 : b5 (n + 1) = .inl (E.2.1, 240, .inl (fun _ => 0)) := by rw [e5, zu_n (by omega)]; exact f9
    have f13 : b5 (n + 2) = .inl (E.2.1, 6, .inl (fun _ => 0)) := by rw [e5]; exact zu_s
    refine z_putF (m := 30) (ci := 1) (f := 2) C in_X1 tyX1 tyX1_ok nmX1 (by omega) f10 rfl (by decide) we_34 rfl rfl hin rfl (tyX1_ok 2 (by decide)) rfl rfl (Nat.le_of_ble_eq_true rfl) dX1_init_27 rfl (fun b6 e6 => ?_)
    have f14 : b6 k = .inr (1, [.ref (E.2.2.2.2.1 + n), .ref (E.2.2.2.2.1 + (n + 1)), .ref (E.2.2.2.2.1 + (n + 2)), .null, .null, .long 0, .int 0]) := by rw [e6]; exact zu_s
    have f15 : b6 n = .inl (E.2.1, 360, .inl (fun _ => 0)) := by rw [e6, zu_n (by omega)]; exact f11
    have f16 : b6 (n + 1) = .inl (E.2.1, 240, .inl (fun _ => 0)) := by rw [e6, zu_n (by omega)]; exact f12
    have f17 : b6 (n + 2) = .inl (E.2.1, 6, .inl (fun _ => 0)) := by rw [e6, zu_n (by omega)]; exact f13
    refine z_aload_n (m := 31) C dX1_init_30 0 rfl rfl ?_
    refine z_bipush (m := 33) C (6 : Int32) dX1_init_31 (by decide) rfl ?_
    refine z_newI (m := 35) (N' := 6) (n2 := n + 4) C we_60 (by decide) (by decide) (by decide) (by decide) (by decide) dX1_init_33 rfl rfl (fun b7 e7 => ?_)
    have f18 : b7 k = .inr (1, [.ref (E.2.2.2.2.1 + n), .ref (E.2.2.2.2.1 + (n + 1)), .ref (E.2.2.2.2.1 + (n + 2)), .null, .null, .long 0, .int 0]) := by rw [e7, zu_n (by omega)]; exact f14
    have f19 : b7 n = .inl (E.2.1, 360, .inl (fun _ => 0)) := by rw [e7, zu_n (by omega)]; exact f15
    have f20 : b7 (n + 1) = .inl (E.2.1, 240, .inl (fun _ => 0)) := by rw [e7, zu_n (by omega)]; exact f16
    have f21 : b7 (n + 2) = .inl (E.2.1, 6, .inl (fun _ => 0)) := by rw [e7, zu_n (by omega)]; exact f17
    have f22 : b7 (n + 3) = .inl (E.2.1, 6, .inl (fun _ => 0)) := by rw [e7]; exact zu_s
    refine z_putF (m := 38) (ci := 1) (f := 3) C in_X1 tyX1 tyX1_ok nmX1 (by omega) f18 rfl (by decide) we_35 rfl rfl hin rfl (tyX1_ok 3 (by decide)) rfl rfl (Nat.le_of_ble_eq_true rfl) dX1_init_35 rfl (fun b8 e8 => ?_)
    have f23 : b8 k = .inr (1, [.ref (E.2.2.2.2.1 + n), .ref (E.2.2.2.2.1 + (n + 1)), .ref (E.2.2.2.2.1 + (n + 2)), .ref (E.2.2.2.2.1 + (n + 3)), .null, .long 0, .int 0]) := by rw [e8]; exact zu_s
    have f24 : b8 n = .inl (E.2.1, 360, .inl (fun _ => 0)) := by rw [e8, zu_n (by omega)]; exact f19
    have f25 : b8 (n + 1) = .inl (E.2.1, 240, .inl (fun _ => 0)) := by rw [e8, zu_n (by omega)]; exact f20
    have f26 : b8 (n + 2) = .inl (E.2.1, 6, .inl (fun _ => 0)) := by rw [e8, zu_n (by omega)]; exact f21
    have f27 : b8 (n + 3) = .inl (E.2.1, 6, .inl (fun _ => 0)) := by rw [e8, zu_n (by omega)]; exact f22
    refine z_aload_n (m := 39) C dX1_init_38 0 rfl rfl ?_
    refine z_bipush (m := 41) C (6 : Int32) dX1_init_39 (by decide) rfl ?_
    refine z_newI (m := 43) (N' := 6) (n2 := n + 5) C we_60 (by decide) (by decide) (by decide) (by decide) (by decide) dX1_init_41 rfl rfl (fun b9 e9 => ?_)
    have f28 : b9 k = .inr (1, [.ref (E.2.2.2.2.1 + n), .ref (E.2.2.2.2.1 + (n + 1)), .ref (E.2.2.2.2.1 + (n + 2)), .ref (E.2.2.2.2.1 + (n + 3)), .null, .long 0, .int 0]) := by rw [e9, zu_n (by omega)]; exact f23
    have f29 : b9 n = .inl (E.2.1, 360, .inl (fun _ => 0)) := by rw [e9, zu_n (by omega)]; exact f24
    have f30 : b9 (n + 1) = .inl (E.2.1, 240, .inl (fun _ => 0)) := by rw [e9, zu_n (by omega)]; exact f25
    have f31 : b9 (n + 2) = .inl (E.2.1, 6, .inl (fun _ => 0)) := by rw [e9, zu_n (by omega)]; exact f26
    have f32 : b9 (n + 3) = .inl (E.2.1, 6, .inl (fun _ => 0)) := by rw [e9, zu_n (by omega)]; exact f27
    have f33 : b9 (n + 4) = .inl (E.2.1, 6, .inl (fun _ => 0)) := by rw [e9]; exact zu_s
    refine z_putF (m := 46) (ci := 1) (f := 4) C in_X1 tyX1 tyX1_ok nmX1 (by omega) f28 rfl (by decide) we_37 rfl rfl hin rfl (tyX1_ok 4 (by decide)) rfl rfl (Nat.le_of_ble_eq_true rfl) dX1_init_43 rfl (fun b10 e10 => ?_)
    have f34 : b10 k = .inr (1, [.ref (E.2.2.2.2.1 + n), .ref (E.2.2.2.2.1 + (n + 1)), .ref (E.2.2.2.2.1 + (n + 2)), .ref (E.2.2.2.2.1 + (n + 3)), .ref (E.2.2.2.2.1 + (n + 4)), .long 0, .int 0]) := by rw [e10]; exact zu_s
    have f35 : b10 n = .inl (E.2.1, 360, .inl (fun _ => 0)) := by rw [e10, zu_n (by omega)]; exact f29
    have f36 : b10 (n + 1) = .inl (E.2.1, 240, .inl (fun _ => 0)) := by rw [e10, zu_n (by omega)]; exact f30
    have f37 : b10 (n + 2) = .inl (E.2.1, 6, .inl (fun _ => 0)) := by rw [e10, zu_n (by omega)]; exact f31
    have f38 : b10 (n + 3) = .inl (E.2.1, 6, .inl (fun _ => 0)) := by rw [e10, zu_n (by omega)]; exact f32
    have f39 : b10 (n + 4) = .inl (E.2.1, 6, .inl (fun _ => 0)) := by rw [e10, zu_n (by omega)]; exact f33
    refine z_aload_n (m := 47) C dX1_init_46 0 rfl rfl ?_
    refine z_lconst (m := 48) C (0 : Int64) dX1_init_47 (by decide) rfl ?_
    refine z_put (m := 51) (ci := 1) (f := 5) C in_X1 tyX1 tyX1_ok nmX1 (by omega) f34 rfl (by decide) we_40 rfl rfl (tyX1_ok 5 (by decide)) rfl rfl (Nat.le_of_ble_eq_true rfl) dX1_init_48 rfl (fun b11 e11 => ?_)
    have f40 : b11 k = .inr (1, [.ref (E.2.2.2.2.1 + n), .ref (E.2.2.2.2.1 + (n + 1)), .ref (E.2.2.2.2.1 + (n + 2)), .ref (E.2.2.2.2.1 + (n + 3)), .ref (E.2.2.2.2.1 + (n + 4)), .long 0, .int 0]) := by rw [e11]; exact zu_s
    have f41 : b11 n = .inl (E.2.1, 360, .inl (fun _ => 0)) := by rw [e11, zu_n (by omega)]; exact f35
    have f42 : b11 (n + 1) = .inl (E.2.1, 240, .inl (fun _ => 0)) := by rw [e11, zu_n (by omega)]; exact f36
    have f43 : b11 (n + 2) = .inl (E.2.1, 6, .inl (fun _ => 0)) := by rw [e11, zu_n (by omega)]; exact f37
    have f44 : b11 (n + 3) = .inl (E.2.1, 6, .inl (fun _ => 0)) := by rw [e11, zu_n (by omega)]; exact f38
    have f45 : b11 (n + 4) = .inl (E.2.1, 6, .inl (fun _ => 0)) := by rw [e11, zu_n (by omega)]; exact f39
    refine z_aload_n (m := 52) C dX1_init_51 0 rfl rfl ?_
    refine z_iconst (m := 53) C (3 : Int32) dX1_init_52 (by decide) rfl ?_
    refine z_put (m := 56) (ci := 1) (f := 6) C in_X1 tyX1 tyX1_ok nmX1 (by omega) f40 rfl (by decide) we_42 rfl rfl (tyX1_ok 6 (by decide)) rfl rfl (Nat.le_of_ble_eq_true rfl) dX1_init_53 rfl (fun b12 e12 => ?_)
    have f46 : b12 k = .inr (1, [.ref (E.2.2.2.2.1 + n), .ref (E.2.2.2.2.1 + (n + 1)), .ref (E.2.2.2.2.1 + (n + 2)), .ref (E.2.2.2.2.1 + (n + 3)), .ref (E.2.2.2.2.1 + (n + 4)), .long 0, .int 3]) := by rw [e12]; exact zu_s
    have f47 : b12 n = .inl (E.2.1, 360, .inl (fun _ => 0)) := by rw [e12, zu_n (by omega)]; exact f41
    have f48 : b12 (n + 1) = .inl (E.2.1, 240, .inl (fun _ => 0)) := by rw [e12, zu_n (by omega)]; exact f42
    have f49 : b12 (n + 2) = .inl (E.2.1, 6, .inl (fun _ => 0)) := by rw [e12, zu_n (by omega)]; exact f43
    have f50 : b12 (n + 3) = .inl (E.2.1, 6, .inl (fun _ => 0)) := by rw [e12, zu_n (by omega)]; exact f44
    have f51 : b12 (n + 4) = .inl (E.2.1, 6, .inl (fun _ => 0)) := by rw [e12, zu_n (by omega)]; exact f45
    exact z_ret C hR (by subst e12 e11 e10 e9 e8 e7 e6 e5 e4 e3 e2 e1; rfl) rfl dX1_init_56) l
theorem we_66 : Cond.methodLink RX2 3 objectInit ∈ TB := TB_m 66 (by decide +kernel) (by decide +kernel)
theorem we_67 : Cond.fieldLink RX2 9 (TX2 0).1 (TX2 0).2.1 (TX2 0).2.2.1 ∈ TB := TB_m 67 (by decide +kernel) (by decide +kernel)
theorem we_69 : Cond.fieldLink RX2 15 (TX2 1).1 (TX2 1).2.1 (TX2 1).2.2.1 ∈ TB := TB_m 69 (by decide +kernel) (by decide +kernel)
theorem we_70 : Cond.fieldLink RX2 19 (TX2 2).1 (TX2 2).2.1 (TX2 2).2.2.1 ∈ TB := TB_m 70 (by decide +kernel) (by decide +kernel)
theorem we_71 : Cond.fieldLink RX2 22 (TX2 3).1 (TX2 3).2.1 (TX2 3).2.2.1 ∈ TB := TB_m 71 (by decide +kernel) (by decide +kernel)
theorem we_72 : Cond.fieldLink RX2 25 (TX2 4).1 (TX2 4).2.1 (TX2 4).2.2.1 ∈ TB := TB_m 72 (by decide +kernel) (by decide +kernel)
theorem we_74 : Cond.fieldLink RX2 28 (TX2 5).1 (TX2 5).2.1 (TX2 5).2.2.1 ∈ TB := TB_m 74 (by decide +kernel) (by decide +kernel)
theorem we_76 : Cond.fieldLink RX2 31 (TX2 6).1 (TX2 6).2.1 (TX2 6).2.2.1 ∈ TB := TB_m 76 (by decide +kernel) (by decide +kernel)
theorem we_77 : Cond.fieldLink RX2 34 (TX2 7).1 (TX2 7).2.1 (TX2 7).2.2.1 ∈ TB := TB_m 77 (by decide +kernel) (by decide +kernel)
theorem we_78 : Cond.fieldLink RX2 38 (TX2 8).1 (TX2 8).2.1 (TX2 8).2.2.1 ∈ TB := TB_m 78 (by decide +kernel) (by decide +kernel)
theorem we_79 : Cond.fieldLink RX2 41 (TX2 9).1 (TX2 9).2.1 (TX2 9).2.2.1 ∈ TB := TB_m 79 (by decide +kernel) (by decide +kernel)
theorem we_80 : Cond.fieldLink RX2 44 (TX2 10).1 (TX2 10).2.1 (TX2 10).2.2.1 ∈ TB := TB_m 80 (by decide +kernel) (by decide +kernel)
theorem we_81 : Cond.fieldLink RX2 47 (TX2 11).1 (TX2 11).2.1 (TX2 11).2.2.1 ∈ TB := TB_m 81 (by decide +kernel) (by decide +kernel)
theorem we_82 : Cond.fieldLink RX2 50 (TX2 12).1 (TX2 12).2.1 (TX2 12).2.2.1 ∈ TB := TB_m 82 (by decide +kernel) (by decide +kernel)
theorem we_84 : Cond.fieldLink RX2 53 (TX2 13).1 (TX2 13).2.1 (TX2 13).2.2.1 ∈ TB := TB_m 84 (by decide +kernel) (by decide +kernel)
theorem we_86 : Cond.fieldLink RX2 56 (TX2 14).1 (TX2 14).2.1 (TX2 14).2.2.1 ∈ TB := TB_m 86 (by decide +kernel) (by decide +kernel)
theorem we_88 : Cond.fieldLink RX2 59 (TX2 15).1 (TX2 15).2.1 (TX2 15).2.2.1 ∈ TB := TB_m 88 (by decide +kernel) (by decide +kernel)
def fin_X2 (E : Ex) (k n : Nat) : List Value := [.int 0, .int 0, .int 0, .int 0, .int 0, .int 0, .int 0, .ref (E.2.2.2.2.1 + n), .ref (E.2.2.2.2.1 + (n + 1)), .ref (E.2.2.2.2.1 + (n + 2)), .ref (E.2.2.2.2.1 + (n + 3)), .ref (E.2.2.2.2.1 + (n + 4)), .ref (E.2.2.2.2.1 + (n + 5)), .ref (E.2.2.2.2.1 + (n + 6)), .ref (E.2.2.2.2.1 + (n + 7)), .int 0]
def mk_X2 (E : Ex) (bf : Nat → va_E) (k n : Nat) : Nat → va_E := (zu (zu (zu (zu (zu (zu (zu (zu (zu (zu (zu (zu (zu (zu (zu (zu (zu (zu (zu (zu (zu (zu (zu (zu bf k (.inr (2, [.int 0, .int 0, .int 0, .int 0, .int 0, .int 0, .int 0, .null, .null, .null, .null, .null, .null, .null, .null, .int 0]))) k (.inr (2, [.int 0, .int 0, .int 0, .int 0, .int 0, .int 0, .int 0, .null, .null, .null, .null, .null, .null, .null, .null, .int 0]))) k (.inr (2, [.int 0, .int 0, .int 0, .int 0, .int 0, .int 0, .int 0, .null, .null, .null, .null, .null, .null, .null, .null, .int 0]))) k (.inr (2, [.int 0, .int 0, .int 0, .int 0, .int 0, .int 0, .int 0, .null, .null, .null, .null, .null, .null, .null, .null, .int 0]))) k (.inr (2, [.int 0, .int 0, .int 0, .int 0, .int 0, .int 0, .int 0, .null, .null, .null, .null, .null, .null, .null, .null, .int 0]))) k (.inr (2, [.int 0, .int 0, .int 0, .int 0, .int 0, .int 0, .int 0, .null, .null, .null, .null, .null, .null, .null, .null, .int 0]))) k (.inr (2, [.int 0, .int 0, .int 0, .int 0, .int 0, .int 0, .int 0, .null, .null, .null, .null, .null, .null, .null, .null, .int 0]))) n (.inl (E.2.1, 6, .inl (fun _ => 0)))) k (.inr (2, [.int 0, .int 0, .int 0, .int 0, .int 0, .int 0, .int 0, .ref (E.2.2.2.2.1 + n), .null, .null, .null, .null, .null, .null, .null, .int 0]))) (n + 1) (.inl (E.2.1, 6, .inl (fun _ => 0)))) k (.inr (2, [.int 0, .int 0, .int 0, .int 0, .int 0, .int 0, .int 0, .ref (E.2.2.2.2.1 + n), .ref (E.2.2.2.2.1 + (n + 1)), .null, .null, .null, .null, .null, .null, .int 0]))) (n + 2) (.inl (E.2.1, 6, .inl (fun _ => 0)))) k (.inr (2, [.int 0, .int 0, .int 0, .int 0, .int 0, .int 0, .int 0, .ref (E.2.2.2.2.1 + n), .ref (E.2.2.2.2.1 + (n + 1)), .ref (E.2.2.2.2.1 + (n + 2)), .null, .null, .null, .null, .null, .int 0]))) (n + 3) (.inl (E.2.1, 6, .inl (fun _ => 0)))) k (.inr (2, [.int 0, .int 0, .int 0, .int 0, .int 0, .int 0, .int 0, .ref (E.2.2.2.2.1 + n), .ref (E.2.2.2.2.1 + (n + 1)), .ref (E.2.2.2.2.1 + (n + 2)), .ref (E.2.2.2.2.1 + (n + 3)), .null, .null, .null, .null, .int 0]))) (n + 4) (.inl (E.2.1, 60, .inl (fun _ => 0)))) k (.inr (2, [.int 0, .int 0, .int 0, .int 0, .int 0, .int 0, .int 0, .ref (E.2.2.2.2.1 + n), .ref (E.2.2.2.2.1 + (n + 1)), .ref (E.2.2.2.2.1 + (n + 2)), .ref (E.2.2.2.2.1 + (n + 3)), .ref (E.2.2.2.2.1 + (n + 4)), .null, .null, .null, .int 0]))) (n + 5) (.inl (E.2.1, 60, .inl (fun _ => 0)))) k (.inr (2, [.int 0, .int 0, .int 0, .int 0, .int 0, .int 0, .int 0, .ref (E.2.2.2.2.1 + n), .ref (E.2.2.2.2.1 + (n + 1)), .ref (E.2.2.2.2.1 + (n + 2)), .ref (E.2.2.2.2.1 + (n + 3)), .ref (E.2.2.2.2.1 + (n + 4)), .ref (E.2.2.2.2.1 + (n + 5)), .null, .null, .int 0]))) (n + 6) (.inl (E.2.1, 60, .inl (fun _ => 0)))) k (.inr (2, [.int 0, .int 0, .int 0, .int 0, .int 0, .int 0, .int 0, .ref (E.2.2.2.2.1 + n), .ref (E.2.2.2.2.1 + (n + 1)), .ref (E.2.2.2.2.1 + (n + 2)), .ref (E.2.2.2.2.1 + (n + 3)), .ref (E.2.2.2.2.1 + (n + 4)), .ref (E.2.2.2.2.1 + (n + 5)), .ref (E.2.2.2.2.1 + (n + 6)), .null, .int 0]))) (n + 7) (.inl (E.2.1, 60, .inl (fun _ => 0)))) k (.inr (2, [.int 0, .int 0, .int 0, .int 0, .int 0, .int 0, .int 0, .ref (E.2.2.2.2.1 + n), .ref (E.2.2.2.2.1 + (n + 1)), .ref (E.2.2.2.2.1 + (n + 2)), .ref (E.2.2.2.2.1 + (n + 3)), .ref (E.2.2.2.2.1 + (n + 4)), .ref (E.2.2.2.2.1 + (n + 5)), .ref (E.2.2.2.2.1 + (n + 6)), .ref (E.2.2.2.2.1 + (n + 7)), .int 0]))) k (.inr (2, [.int 0, .int 0, .int 0, .int 0, .int 0, .int 0, .int 0, .ref (E.2.2.2.2.1 + n), .ref (E.2.2.2.2.1 + (n + 1)), .ref (E.2.2.2.2.1 + (n + 2)), .ref (E.2.2.2.2.1 + (n + 3)), .ref (E.2.2.2.2.1 + (n + 4)), .ref (E.2.2.2.2.1 + (n + 5)), .ref (E.2.2.2.2.1 + (n + 6)), .ref (E.2.2.2.2.1 + (n + 7)), .int 0])))
theorem mk_X2_lt {E : Ex} {bf : Nat → va_E} {k n j : Nat} (h : j < n) (hk : j ≠ k) : mk_X2 E bf k n j = bf j := by
  unfold mk_X2
  repeat first | rw [zu_n (by omega)]
set_option maxRecDepth 4000 in
theorem c_X2 {E : Ex} {bf : Nat → va_E} {k n : Nat} (hk : k < n) (hb : bf k = .inr (2, [.int 0, .int 0, .int 0, .int 0, .int 0, .int 0, .int 0, .null, .null, .null, .null, .null, .null, .null, .null, .int 0])) (l : Launch) : Met l yX2_init (yws yX2_init cX2_init 1 none) { frames := 1, cells := 8, slots := 264, locals := 12 } (va_Pc [.ref (E.2.2.2.2.1 + k)] (zP E bf n)) (zQ E (mk_X2 E bf k n) (n + 8)) 8 264 (yA E) :=
  z_met (by decide +kernel) rfl (by decide) (fun g C hR hin => by
    refine z_aload_n (m := 1) C dX2_init_0 0 rfl rfl ?_
    refine z_obj (m := 4) C we_66 we_18 we_19 (by decide) (by decide) dX2_init_1 rfl ?_
    refine z_aload_n (m := 5) C dX2_init_4 0 rfl rfl ?_
    refine z_iconst (m := 6) C (0 : Int32) dX2_init_5 (by decide) rfl ?_
    refine z_put (m := 9) (ci := 2) (f := 0) C in_X2 tyX2 tyX2_ok nmX2 (by omega) hb rfl (by decide) we_67 rfl rfl (tyX2_ok 0 (by decide)) (by decide) rfl (Nat.le_of_ble_eq_true rfl) dX2_init_6 rfl (fun b1 e1 => ?_)
    have f0 : b1 k = .inr (2, [.int 0, .int 0, .int 0, .int 0, .int 0, .int 0, .int 0, .null, .null, .null, .null, .null, .null, .null, .null, .int 0]) := by rw [e1]; exact zu_s
    refine z_aload_n (m := 10) C dX2_init_9 0 rfl rfl ?_
    refine z_iconst (m := 11) C (0 : Int32) dX2_init_10 (by decide) rfl ?_
    refine z_put (m := 14) (ci := 2) (f := 1) C in_X2 tyX2 tyX2_ok nmX2 (by omega) f0 rfl (by decide) we_69 rfl rfl (tyX2_ok 1 (by decide)) rfl rfl (Nat.le_of_ble_eq_true rfl) dX2_init_11 rfl (fun b2 e2 => ?_)
    have f1 : b2 k = .inr (2, [.int 0, .int 0, .int 0, .int 0, .int 0, .int 0, .int 0, .null, .null, .null, .null, .null, .null, .null, .null, .int 0]) := by rw [e2]; exact zu_s
    refine z_aload_n (m := 15) C dX2_init_14 0 rfl rfl ?_
    refine z_iconst (m := 16) C (0 : Int32) dX2_init_15 (by decide) rfl ?_
    refine z_put (m := 19) (ci := 2) (f := 2) C in_X2 tyX2 tyX2_ok nmX2 (by omega) f1 rfl (by decide) we_70 rfl rfl (tyX2_ok 2 (by decide)) (by decide) rfl (Nat.le_of_ble_eq_true rfl) dX2_init_16 rfl (fun b3 e3 => ?_)
    have f2 : b3 k = .inr (2, [.int 0, .int 0, .int 0, .int 0, .int 0, .int 0, .int 0, .null, .null, .null, .null, .null, .null, .null, .null, .int 0]) := by rw [e3]; exact zu_s
    refine z_aload_n (m := 20) C dX2_init_19 0 rfl rfl ?_
    refine z_iconst (m := 21) C (0 : Int32) dX2_init_20 (by decide) rfl ?_
    refine z_put (m := 24) (ci := 2) (f := 3) C in_X2 tyX2 tyX2_ok nmX2 (by omega) f2 rfl (by decide) we_71 rfl rfl (tyX2_ok 3 (by decide)) rfl rfl (Nat.le_of_ble_eq_true rfl) dX2_init_21 rfl (fun b4 e4 => ?_)
    have f3 : b4 k = .inr (2, [.int 0, .int 0, .int 0, .int 0, .int 0, .int 0, .int 0, .null, .null, .null, .null, .null, .null, .null, .null, .int 0]) := by rw [e4]; exact zu_s
    refine z_aload_n (m := 25) C dX2_init_24 0 rfl rfl ?_
    refine z_iconst (m := 26) C (0 : Int32) dX2_init_25 (by decide) rfl ?_
    refine z_put (m := 29) (ci := 2) (f := 4) C in_X2 tyX2 tyX2_ok nmX2 (by omega) f3 rfl (by decide) we_72 rfl rfl (tyX2_ok 4 (by decide)) rfl rfl (Nat.le_of_ble_eq_true rfl) dX2_init_26 rfl (fun b5 e5 => ?_)
    have f4 : b5 k = .inr (2, [.int 0, .int 0, .int 0, .int 0, .int 0, .int 0, .int 0, .null, .null, .null, .null, .null, .null, .null, .null, .int 0]) := by rw [e5]; exact zu_s
    refine z_aload_n (m := 30) C dX2_init_29 0 rfl rfl ?_
    refine z_iconst (m := 31) C (0 : Int32) dX2_init_30 (by decide) rfl ?_
    refine z_put (m := 34) (ci := 2) (f := 5) C in_X2 tyX2 tyX2_ok nmX2 (by omega) f4 rfl (by decide) we_74 rfl rfl (tyX2_ok 5 (by decide)) rfl rfl (Nat.le_of_ble_eq_true rfl) dX2_init_31 rfl (fun b6 e6 => ?_)
    have f5 : b6 k = .inr (2, [.int 0, .int 0, .int 0, .int 0, .int 0, .int 0, .int 0, .null, .null, .null, .null, .null, .null, .null, .null, .int 0]) := by rw [e6]; exact zu_s
    refine z_aload_n (m := 35) C dX2_init_34 0 rfl rfl ?_
    refine z_iconst (m := 36) C (0 : Int32) dX2_init_35 (by decide) rfl ?_
    refine z_put (m := 39) (ci := 2) (f := 6) C in_X2 tyX2 tyX2_ok nmX2 (by omega) f5 rfl (by decide) we_76 rfl rfl (tyX2_ok 6 (by decide)) rfl rfl (Nat.le_of_ble_eq_true rfl) dX2_init_36 rfl (fun b7 e7 => ?_)
    have f6 : b7 k = .inr (2, [.int 0, .int 0, .int 0, .int 0, .int 0, .int 0, .int 0, .null, .null, .null, .null, .null, .null, .null, .null, .int 0]) := by rw [e7]; exact zu_s
    refine z_aload_n (m := 40) C dX2_init_39 0 rfl rfl ?_
    refine z_bipush (m := 42) C (6 : Int32) dX2_init_40 (by decide) rfl ?_
    refine z_newI (m := 44) (N' := 6) (n2 := n + 1) C we_60 (by decide) (by decide) (by decide) (by decide) (by decide) dX2_init_42 rfl rfl (fun b8 e8 => ?_)
    have f7 : b8 k = .inr (2, [.int 0, .int 0, .int 0, .int 0, .int 0, .int 0, .int 0, .null, .null, .null, .null, .null, .null, .null, .null, .int 0]) := by rw [e8, zu_n (by omega)]; exact f6
    have f8 : b8 n = .inl (E.2.1, 6, .inl (fun _ => 0)) := by rw [e8]; exact zu_s
    refine z_putF (m := 47) (ci := 2) (f := 7) C in_X2 tyX2 tyX2_ok nmX2 (by omega) f7 rfl (by decide) we_77 rfl rfl hin rfl (tyX2_ok 7 (by decide)) rfl rfl (Nat.le_of_ble_eq_true rfl) dX2_init_44 rfl (fun b9 e9 => ?_)
    have f9 : b9 k = .inr (2, [.int 0, .int 0, .int 0, .int 0, .int 0, .int 0, .int 0, .ref (E.2.2.2.2.1 + n), .null, .null, .null, .null, .null, .null, .null, .int 0]) := by rw [e9]; exact zu_s
    have f10 : b9 n = .inl (E.2.1, 6, .inl (fun _ => 0)) := by rw [e9, zu_n (by omega)]; exact f8
    refine z_aload_n (m := 48) C dX2_init_47 0 rfl rfl ?_
    refine z_bipush (m := 50) C (6 : Int32) dX2_init_48 (by decide) rfl ?_
    refine z_newI (m := 52) (N' := 6) (n2 := n + 2) C we_60 (by decide) (by decide) (by decide) (by decide) (by decide) dX2_init_50 rfl rfl (fun b10 e10 => ?_)
    have f11 : b10 k = .inr (2, [.int 0, .int 0, .int 0, .int 0, .int 0, .int 0, .int 0, .ref (E.2.2.2.2.1 + n), .null, .null, .null, .null, .null, .null, .null, .int 0]) := by rw [e10, zu_n (by omega)]; exact f9
    have f12 : b10 n = .inl (E.2.1, 6, .inl (fun _ => 0)) := by rw [e10, zu_n (by omega)]; exact f10
    have f13 : b10 (n + 1) = .inl (E.2.1, 6, .inl (fun _ => 0)) := by rw [e10]; exact zu_s
    refine z_putF (m := 55) (ci := 2) (f := 8) C in_X2 tyX2 tyX2_ok nmX2 (by omega) f11 rfl (by decide) we_78 rfl rfl hin rfl (tyX2_ok 8 (by decide)) rfl rfl (Nat.le_of_ble_eq_true rfl) dX2_init_52 rfl (fun b11 e11 => ?_)
    have f14 : b11 k = .inr (2, [.int 0, .int 0, .int 0, .int 0, .int 0, .int 0, .int 0, .ref (E.2.2.2.2.1 + n), .ref (E.2.2.2.2.1 + (n + 1)), .null, .null, .null, .null, .null, .null, .int 0]) := by rw [e11]; exact zu_s
    have f15 : b11 n = .inl (E.2.1, 6, .inl (fun _ => 0)) := by rw [e11, zu_n (by omega)]; exact f12
    have f16 : b11 (n + 1) = .inl (E.2.1, 6, .inl (fun _ => 0)) := by rw [e11, zu_n (by omega)]; exact f13
    refine z_aload_n (m := 56) C dX2_init_55 0 rfl rfl ?_
    refine z_bipush (m := 58) C (6 : Int32) dX2_init_56 (by decide) rfl ?_
    refine z_newI (m := 60) (N' := 6) (n2 := n + 3) C we_60 (by decide) (by decide) (by decide) (by decide) (by decide) dX2_init_58 rfl rfl (fun b12 e12 => ?_)
    have f17 : b12 k = .inr (2, [.int 0, .int 0, .int 0, .int 0, .int 0, .int 0, .int 0, .ref (E.2.2.2.2.1 + n), .ref (E.2.2.2.2.1 + (n + 1)), .null, .null, .null, .null, .null, .null, .int 0]) := by rw [e12, zu_n (by omega)]; exact f14
    have f18 : b12 n = .inl (E.2.1, 6, .inl (fun _ => 0)) := by rw [e12, zu_n (by omega)]; exact f15
    have f19 : b12 (n + 1) = .inl (E.2.1, 6, .inl (fun _ => 0)) := by rw [e12, zu_n (by omega)]; exact f16
    have f20 : b12 (n + 2) = .inl (E.2.1, 6, .inl (fun _ => 0)) := by rw [e12]; exact zu_s
    refine z_putF (m := 63) (ci := 2) (f := 9) C in_X2 tyX2 tyX2_ok nmX2 (by omega) f17 rfl (by decide) we_79 rfl rfl hin rfl (tyX2_ok 9 (by decide)) rfl rfl (Nat.le_of_ble_eq_true rfl) dX2_init_60 rfl (fun b13 e13 => ?_)
    have f21 : b13 k = .inr (2, [.int 0, .int 0, .int 0, .int 0, .int 0, .int 0, .int 0, .ref (E.2.2.2.2.1 + n), .ref (E.2.2.2.2.1 + (n + 1)), .ref (E.2.2.2.2.1 + (n + 2)), .null, .null, .null, .null, .null, .int 0]) := by rw [e13]; exact zu_s
    have f22 : b13 n = .inl (E.2.1, 6, .inl (fun _ => 0)) := by rw [e13, zu_n (by omega)]; exact f18
    have f23 : b13 (n + 1) = .inl (E.2.1, 6, .inl (fun _ => 0)) := by rw [e13, zu_n (by omega)]; exact f19
    have f24 : b13 (n + 2) = .inl (E.2.1, 6, .inl (fun _ => 0)) := by rw [e13, zu_n (by omega)]; exact f20
    refine z_aload_n (m := 64) C dX2_init_63 0 rfl rfl ?_
    refine z_bipush (m := 66) C (6 : Int32) dX2_init_64 (by decide) rfl ?_
    refine z_newI (m := 68) (N' := 6) (n2 := n + 4) C we_60 (by decide) (by decide) (by decide) (by decide) (by decide) dX2_init_66 rfl rfl (fun b14 e14 => ?_)
    have f25 : b14 k = .inr (2, [.int 0, .int 0, .int 0, .int 0, .int 0, .int 0, .int 0, .ref (E.2.2.2.2.1 + n), .ref (E.2.2.2.2.1 + (n + 1)), .ref (E.2.2.2.2.1 + (n + 2)), .null, .null, .null, .null, .null, .int 0]) := by rw [e14, zu_n (by omega)]; exact f21
    have f26 : b14 n = .inl (E.2.1, 6, .inl (fun _ => 0)) := by rw [e14, zu_n (by omega)]; exact f22
    have f27 : b14 (n + 1) = .inl (E.2.1, 6, .inl (fun _ => 0)) := by rw [e14, zu_n (by omega)]; exact f23
    have f28 : b14 (n + 2) = .inl (E.2.1, 6, .inl (fun _ => 0)) := by rw [e14, zu_n (by omega)]; exact f24
    have f29 : b14 (n + 3) = .inl (E.2.1, 6, .inl (fun _ => 0)) := by rw [e14]; exact zu_s
    refine z_putF (m := 71) (ci := 2) (f := 10) C in_X2 tyX2 tyX2_ok nmX2 (by omega) f25 rfl (by decide) we_80 rfl rfl hin rfl (tyX2_ok 10 (by decide)) rfl rfl (Nat.le_of_ble_eq_true rfl) dX2_init_68 rfl (fun b15 e15 => ?_)
    have f30 : b15 k = .inr (2, [.int 0, .int 0, .int 0, .int 0, .int 0, .int 0, .int 0, .ref (E.2.2.2.2.1 + n), .ref (E.2.2.2.2.1 + (n + 1)), .ref (E.2.2.2.2.1 + (n + 2)), .ref (E.2.2.2.2.1 + (n + 3)), .null, .null, .null, .null, .int 0]) := by rw [e15]; exact zu_s
    have f31 : b15 n = .inl (E.2.1, 6, .inl (fun _ => 0)) := by rw [e15, zu_n (by omega)]; exact f26
    have f32 : b15 (n + 1) = .inl (E.2.1, 6, .inl (fun _ => 0)) := by rw [e15, zu_n (by omega)]; exact f27
    have f33 : b15 (n + 2) = .inl (E.2.1, 6, .inl (fun _ => 0)) := by rw [e15, zu_n (by omega)]; exact f28
    have f34 : b15 (n + 3) = .inl (E.2.1, 6, .inl (fun _ => 0)) := by rw [e15, zu_n (by omega)]; exact f29
    refine z_aload_n (m := 72) C dX2_init_71 0 rfl rfl ?_
    refine z_bipush (m := 74) C (60 : Int32) dX2_init_72 (by decide) rfl ?_
    refine z_newI (m := 76) (N' := 60) (n2 := n + 5) C we_60 (by decide) (by decide) (by decide) (by decide) (by decide) dX2_init_74 rfl rfl (fun b16 e16 => ?_)
    have f35 : b16 k = .inr (2, [.int 0, .int 0, .int 0, .int 0, .int 0, .int 0, .int 0, .ref (E.2.2.2.2.1 + n), .ref (E.2.2.2.2.1 + (n + 1)), .ref (E.2.2.2.2.1 + (n + 2)), .ref (E.2.2.2.2.1 + (n + 3)), .null, .null, .null, .null, .int 0]) := by rw [e16, zu_n (by omega)]; exact f30
    have f36 : b16 n = .inl (E.2.1, 6, .inl (fun _ => 0)) := by rw [e16, zu_n (by omega)]; exact f31
    have f37 : b16 (n + 1) = .inl (E.2.1, 6, .inl (fun _ => 0)) := by rw [e16, zu_n (by omega)]; exact f32
    have f38 : b16 (n + 2) = .inl (E.2.1, 6, .inl (fun _ => 0)) := by rw [e16, zu_n (by omega)]; exact f33
    have f39 : b16 (n + 3) = .inl (E.2.1, 6, .inl (fun _ => 0)) := by rw [e16, zu_n (by omega)]; exact f34
    have f40 : b16 (n + 4) = .inl (E.2.1, 60, .inl (fun _ => 0)) := by rw [e16]; exact zu_s
    refine z_putF (m := 79) (ci := 2) (f := 11) C in_X2 tyX2 tyX2_ok nmX2 (by omega) f35 rfl (by decide) we_81 rfl rfl hin rfl (tyX2_ok 11 (by decide)) rfl rfl (Nat.le_of_ble_eq_true rfl) dX2_init_76 rfl (fun b17 e17 => ?_)
    have f41 : b17 k = .inr (2, [.int 0, .int 0, .int 0, .int 0, .int 0, .int 0, .int 0, .ref (E.2.2.2.2.1 + n), .ref (E.2.2.2.2.1 + (n + 1)), .ref (E.2.2.2.2.1 + (n + 2)), .ref (E.2.2.2.2.1 + (n + 3)), .ref (E.2.2.2.2.1 + (n + 4)), .null, .null, .null, .int 0]) := by rw [e17]; exact zu_s
    have f42 : b17 n = .inl (E.2.1, 6, .inl (fun _ => 0)) := by rw [e17, zu_n (by omega)]; exact f36
    have f43 : b17 (n + 1) = .inl (E.2.1, 6, .inl (fun _ => 0)) := by rw [e17, zu_n (by omega)]; exact f37
    have f44 : b17 (n + 2) = .inl (E.2.1, 6, .inl (fun _ => 0)) := by rw [e17, zu_n (by omega)]; exact f38
    have f45 : b17 (n + 3) = .inl (E.2.1, 6, .inl (fun _ => 0)) := by rw [e17, zu_n (by omega)]; exact f39
    have f46 : b17 (n + 4) = .inl (E.2.1, 60, .inl (fun _ => 0)) := by rw [e17, zu_n (by omega)]; exact f40
    refine z_aload_n (m := 80) C dX2_init_79 0 rfl rfl ?_
    refine z_bipush (m := 82) C (60 : Int32) dX2_init_80 (by decide) rfl ?_
    refine z_newI (m := 84) (N' := 60) (n2 := n + 6) C we_60 (by decide) (by decide) (by decide) (by decide) (by decide) dX2_init_82 rfl rfl (fun b18 e18 => ?_)
    have f47 : b18 k = .inr (2, [.int 0, .int 0, .int 0, .int 0, .int 0, .int 0, .int 0, .ref (E.2.2.2.2.1 + n), .ref (E.2.2.2.2.1 + (n + 1)), .ref (E.2.2.2.2.1 + (n + 2)), .ref (E.2.2.2.2.1 + (n + 3)), .ref (E.2.2.2.2.1 + (n + 4)), .null, .null, .null, .int 0]) := by rw [e18, zu_n (by omega)]; exact f41
    have f48 : b18 n = .inl (E.2.1, 6, .inl (fun _ => 0)) := by rw [e18, zu_n (by omega)]; exact f42
    have f49 : b18 (n + 1) = .inl (E.2.1, 6, .inl (fun _ => 0)) := by rw [e18, zu_n (by omega)]; exact f43
    have f50 : b18 (n + 2) = .inl (E.2.1, 6, .inl (fun _ => 0)) := by rw [e18, zu_n (by omega)]; exact f44
    have f51 : b18 (n + 3) = .inl (E.2.1, 6, .inl (fun _ => 0)) := by rw [e18, zu_n (by omega)]; exact f45
    have f52 : b18 (n + 4) = .inl (E.2.1, 60, .inl (fun _ => 0)) := by rw [e18, zu_n (by omega)]; exact f46
    have f53 : b18 (n + 5) = .inl (E.2.1, 60, .inl (fun _ => 0)) := by rw [e18]; exact zu_s
    refine z_putF (m := 87) (ci := 2) (f := 12) C in_X2 tyX2 tyX2_ok nmX2 (by omega) f47 rfl (by decide) we_82 rfl rfl hin rfl (tyX2_ok 12 (by decide)) rfl rfl (Nat.le_of_ble_eq_true rfl) dX2_init_84 rfl (fun b19 e19 => ?_)
    have f54 : b19 k = .inr (2, [.int 0, .int 0, .int 0, .int 0, .int 0, .int 0, .int 0, .ref (E.2.2.2.2.1 + n), .ref (E.2.2.2.2.1 + (n + 1)), .ref (E.2.2.2.2.1 + (n + 2)), .ref (E.2.2.2.2.1 + (n + 3)), .ref (E.2.2.2.2.1 + (n + 4)), .ref (E.2.2.2.2.1 + (n + 5)), .null, .null, .int 0]) := by rw [e19]; exact zu_s
    have f55 : b19 n = .inl (E.2.1, 6, .inl (fun _ => 0)) := by rw [e19, zu_n (by omega)]; exact f48
    have f56 : b19 (n + 1) = .inl (E.2.1, 6, .inl (fun _ => 0)) := by rw [e19, zu_n (by omega)]; exact f49
    have f57 : b19 (n + 2) = .inl (E.2.1, 6, .inl (fun _ => 0)) := by rw [e19, zu_n (by omega)]; exact f50
    have f58 : b19 (n + 3) = .inl (E.2.1, 6, .inl (fun _ => 0)) := by rw [e19, zu_n (by omega)]; exact f51
    have f59 : b19 (n + 4) = .inl (E.2.1, 60, .inl (fun _ => 0)) := by rw [e19, zu_n (by omega)]; exact f52
    have f60 : b19 (n + 5) = .inl (E.2.1, 60, .inl (fun _ => 0)) := by rw [e19, zu_n (by omega)]; exact f53
    refine z_aload_n (m := 88) C dX2_init_87 0 rfl rfl ?_
    refine z_bipush (m := 90) C (60 : Int32) dX2_init_88 (by decide) rfl ?_
    refine z_newI (m := 92) (N' := 60) (n2 := n + 7) C we_60 (by decide) (by decide) (by decide) (by decide) (by decide) dX2_init_90 rfl rfl (fun b20 e20 => ?_)
    have f61 : b20 k = .inr (2, [.int 0, .int 0, .int 0, .int 0, .int 0, .int 0, .int 0, .ref (E.2.2.2.2.1 + n), .ref (E.2.2.2.2.1 + (n + 1)), .ref (E.2.2.2.2.1 + (n + 2)), .ref (E.2.2.2.2.1 + (n + 3)), .ref (E.2.2.2.2.1 + (n + 4)), .ref (E.2.2.2.2.1 + (n + 5)), .null, .null, .int 0]) := by rw [e20, zu_n (by omega)]; exact f54
    have f62 : b20 n = .inl (E.2.1, 6, .inl (fun _ => 0)) := by rw [e20, zu_n (by omega)]; exact f55
    have f63 : b20 (n + 1) = .inl (E.2.1, 6, .inl (fun _ => 0)) := by rw [e20, zu_n (by omega)]; exact f56
    have f64 : b20 (n + 2) = .inl (E.2.1, 6, .inl (fun _ => 0)) := by rw [e20, zu_n (by omega)]; exact f57
    have f65 : b20 (n + 3) = .inl (E.2.1, 6, .inl (fun _ => 0)) := by rw [e20, zu_n (by omega)]; exact f58
    have f66 : b20 (n + 4) = .inl (E.2.1, 60, .inl (fun _ => 0)) := by rw [e20, zu_n (by omega)]; exact f59
    have f67 : b20 (n + 5) = .inl (E.2.1, 60, .inl (fun _ => 0)) := by rw [e20, zu_n (by omega)]; exact f60
    have f68 : b20 (n + 6) = .inl (E.2.1, 60, .inl (fun _ => 0)) := by rw [e20]; exact zu_s
    refine z_putF (m := 95) (ci := 2) (f := 13) C in_X2 tyX2 tyX2_ok nmX2 (by omega) f61 rfl (by decide) we_84 rfl rfl hin rfl (tyX2_ok 13 (by decide)) rfl rfl (Nat.le_of_ble_eq_true rfl) dX2_init_92 rfl (fun b21 e21 => ?_)
    have f69 : b21 k = .inr (2, [.int 0, .int 0, .int 0, .int 0, .int 0, .int 0, .int 0, .ref (E.2.2.2.2.1 + n), .ref (E.2.2.2.2.1 + (n + 1)), .ref (E.2.2.2.2.1 + (n + 2)), .ref (E.2.2.2.2.1 + (n + 3)), .ref (E.2.2.2.2.1 + (n + 4)), .ref (E.2.2.2.2.1 + (n + 5)), .ref (E.2.2.2.2.1 + (n + 6)), .null, .int 0]) := by rw [e21]; exact zu_s
    have f70 : b21 n = .inl (E.2.1, 6, .inl (fun _ => 0)) := by rw [e21, zu_n (by omega)]; exact f62
    have f71 : b21 (n + 1) = .inl (E.2.1, 6, .inl (fun _ => 0)) := by rw [e21, zu_n (by omega)]; exact f63
    have f72 : b21 (n + 2) = .inl (E.2.1, 6, .inl (fun _ => 0)) := by rw [e21, zu_n (by omega)]; exact f64
    have f73 : b21 (n + 3) = .inl (E.2.1, 6, .inl (fun _ => 0)) := by rw [e21, zu_n (by omega)]; exact f65
    have f74 : b21 (n + 4) = .inl (E.2.1, 60, .inl (fun _ => 0)) := by rw [e21, zu_n (by omega)]; exact f66
    have f75 : b21 (n + 5) = .inl (E.2.1, 60, .inl (fun _ => 0)) := by rw [e21, zu_n (by omega)]; exact f67
    have f76 : b21 (n + 6) = .inl (E.2.1, 60, .inl (fun _ => 0)) := by rw [e21, zu_n (by omega)]; exact f68
    refine z_aload_n (m := 96) C dX2_init_95 0 rfl rfl ?_
    refine z_bipush (m := 98) C (60 : Int32) dX2_init_96 (by decide) rfl ?_
    refine z_newI (m := 100) (N' := 60) (n2 := n + 8) C we_60 (by decide) (by decide) (by decide) (by decide) (by decide) dX2_init_98 rfl rfl (fun b22 e22 => ?_)
    have f77 : b22 k = .inr (2, [.int 0, .int 0, .int 0, .int 0, .int 0, .int 0, .int 0, .ref (E.2.2.2.2.1 + n), .ref (E.2.2.2.2.1 + (n + 1)), .ref (E.2.2.2.2.1 + (n + 2)), .ref (E.2.2.2.2.1 + (n + 3)), .ref (E.2.2.2.2.1 + (n + 4)), .ref (E.2.2.2.2.1 + (n + 5)), .ref (E.2.2.2.2.1 + (n + 6)), .null, .int 0]) := by rw [e22, zu_n (by omega)]; exact f69
    have f78 : b22 n = .inl (E.2.1, 6, .inl (fun _ => 0)) := by rw [e22, zu_n (by omega)]; exact f70
    have f79 : b22 (n + 1) = .inl (E.2.1, 6, .inl (fun _ => 0)) := by rw [e22, zu_n (by omega)]; exact f71
    have f80 : b22 (n + 2) = .inl (E.2.1, 6, .inl (fun _ => 0)) := by rw [e22, zu_n (by omega)]; exact f72
    have f81 : b22 (n + 3) = .inl (E.2.1, 6, .inl (fun _ => 0)) := by rw [e22, zu_n (by omega)]; exact f73
    have f82 : b22 (n + 4) = .inl (E.2.1, 60, .inl (fun _ => 0)) := by rw [e22, zu_n (by omega)]; exact f74
    have f83 : b22 (n + 5) = .inl (E.2.1, 60, .inl (fun _ => 0)) := by rw [e22, zu_n (by omega)]; exact f75
    have f84 : b22 (n + 6) = .inl (E.2.1, 60, .inl (fun _ => 0)) := by rw [e22, zu_n (by omega)]; exact f76
    have f85 : b22 (n + 7) = .inl (E.2.1, 60, .inl (fun _ => 0)) := by rw [e22]; exact zu_s
    refine z_putF (m := 103) (ci := 2) (f := 14) C in_X2 tyX2 tyX2_ok nmX2 (by omega) f77 rfl (by decide) we_86 rfl rfl hin rfl (tyX2_ok 14 (by decide)) rfl rfl (Nat.le_of_ble_eq_true rfl) dX2_init_100 rfl (fun b23 e23 => ?_)
    have f86 : b23 k = .inr (2, [.int 0, .int 0, .int 0, .int 0, .int 0, .int 0, .int 0, .ref (E.2.2.2.2.1 + n), .ref (E.2.2.2.2.1 + (n + 1)), .ref (E.2.2.2.2.1 + (n + 2)), .ref (E.2.2.2.2.1 + (n + 3)), .ref (E.2.2.2.2.1 + (n + 4)), .ref (E.2.2.2.2.1 + (n + 5)), .ref (E.2.2.2.2.1 + (n + 6)), .ref (E.2.2.2.2.1 + (n + 7)), .int 0]) := by rw [e23]; exact zu_s
    have f87 : b23 n = .inl (E.2.1, 6, .inl (fun _ => 0)) := by rw [e23, zu_n (by omega)]; exact f78
    have f88 : b23 (n + 1) = .inl (E.2.1, 6, .inl (fun _ => 0)) := by rw [e23, zu_n (by omega)]; exact f79
    have f89 : b23 (n + 2) = .inl (E.2.1, 6, .inl (fun _ => 0)) := by rw [e23, zu_n (by omega)]; exact f80
    have f90 : b23 (n + 3) = .inl (E.2.1, 6, .inl (fun _ => 0)) := by rw [e23, zu_n (by omega)]; exact f81
    have f91 : b23 (n + 4) = .inl (E.2.1, 60, .inl (fun _ => 0)) := by rw [e23, zu_n (by omega)]; exact f82
    have f92 : b23 (n + 5) = .inl (E.2.1, 60, .inl (fun _ => 0)) := by rw [e23, zu_n (by omega)]; exact f83
    have f93 : b23 (n + 6) = .inl (E.2.1, 60, .inl (fun _ => 0)) := by rw [e23, zu_n (by omega)]; exact f84
    have f94 : b23 (n + 7) = .inl (E.2.1, 60, .inl (fun _ => 0)) := by rw [e23, zu_n (by omega)]; exact f85
    refine z_aload_n (m := 104) C dX2_init_103 0 rfl rfl ?_
    refine z_iconst (m := 105) C (0 : Int32) dX2_init_104 (by decide) rfl ?_
    refine z_put (m := 108) (ci := 2) (f := 15) C in_X2 tyX2 tyX2_ok nmX2 (by omega) f86 rfl (by decide) we_88 rfl rfl (tyX2_ok 15 (by decide)) rfl rfl (Nat.le_of_ble_eq_true rfl) dX2_init_105 rfl (fun b24 e24 => ?_)
    have f95 : b24 k = .inr (2, [.int 0, .int 0, .int 0, .int 0, .int 0, .int 0, .int 0, .ref (E.2.2.2.2.1 + n), .ref (E.2.2.2.2.1 + (n + 1)), .ref (E.2.2.2.2.1 + (n + 2)), .ref (E.2.2.2.2.1 + (n + 3)), .ref (E.2.2.2.2.1 + (n + 4)), .ref (E.2.2.2.2.1 + (n + 5)), .ref (E.2.2.2.2.1 + (n + 6)), .ref (E.2.2.2.2.1 + (n + 7)), .int 0]) := by rw [e24]; exact zu_s
    have f96 : b24 n = .inl (E.2.1, 6, .inl (fun _ => 0)) := by rw [e24, zu_n (by omega)]; exact f87
    have f97 : b24 (n + 1) = .inl (E.2.1, 6, .inl (fun _ => 0)) := by rw [e24, zu_n (by omega)]; exact f88
    have f98 : b24 (n + 2) = .inl (E.2.1, 6, .inl (fun _ => 0)) := by rw [e24, zu_n (by omega)]; exact f89
    have f99 : b24 (n + 3) = .inl (E.2.1, 6, .inl (fun _ => 0)) := by rw [e24, zu_n (by omega)]; exact f90
    have f100 : b24 (n + 4) = .inl (E.2.1, 60, .inl (fun _ => 0)) := by rw [e24, zu_n (by omega)]; exact f91
    have f101 : b24 (n + 5) = .inl (E.2.1, 60, .inl (fun _ => 0)) := by rw [e24, zu_n (by omega)]; exact f92
    have f102 : b24 (n + 6) = .inl (E.2.1, 60, .inl (fun _ => 0)) := by rw [e24, zu_n (by omega)]; exact f93
    have f103 : b24 (n + 7) = .inl (E.2.1, 60, .inl (fun _ => 0)) := by rw [e24, zu_n (by omega)]; exact f94
    exact z_ret C hR (by subst e24 e23 e22 e21 e20 e19 e18 e17 e16 e15 e14 e13 e12 e11 e10 e9 e8 e7 e6 e5 e4 e3 e2 e1; rfl) rfl dX2_init_108) l
theorem we_25 : Cond.methodLink RX3 1 objectInit ∈ TB := TB_m 25 (by decide +kernel) (by decide +kernel)
theorem we_26 : Cond.classLink RX3 7 RX1 ∈ TB := TB_m 26 (by decide +kernel) (by decide +kernel)
theorem we_27 : Cond.instantiable RX1 7 ∈ TB := TB_m 27 (by decide +kernel) (by decide +kernel)
theorem we_3 : Cond.initialized RX1 ∈ TB := TB_m 3 (by decide +kernel) (by decide +kernel)
theorem we_30 : Cond.code yX1_init cX1_init 1 none ∈ TB := TB_m 30 (by decide +kernel) (by decide +kernel)
theorem we_29 : Cond.instanceMethod yX1_init ∈ TB := TB_m 29 (by decide +kernel) (by decide +kernel)
theorem we_28 : Cond.methodLinkNest RX3 9 yX1_init RX5 ∈ NWs := NW_m 28 (by decide +kernel) (by decide +kernel)
theorem we_123 : Cond.fieldLink RX3 10 (TX3 0).1 (TX3 0).2.1 (TX3 0).2.2.1 ∈ TB := TB_m 123 (by decide +kernel) (by decide +kernel)
theorem we_61 : Cond.classLink RX3 16 RX2 ∈ TB := TB_m 61 (by decide +kernel) (by decide +kernel)
theorem we_62 : Cond.instantiable RX2 16 ∈ TB := TB_m 62 (by decide +kernel) (by decide +kernel)
theorem we_4 : Cond.initialized RX2 ∈ TB := TB_m 4 (by decide +kernel) (by decide +kernel)
theorem we_65 : Cond.code yX2_init cX2_init 1 none ∈ TB := TB_m 65 (by decide +kernel) (by decide +kernel)
theorem we_64 : Cond.instanceMethod yX2_init ∈ TB := TB_m 64 (by decide +kernel) (by decide +kernel)
theorem we_63 : Cond.methodLinkNest RX3 18 yX2_init RX5 ∈ NWs := NW_m 63 (by decide +kernel) (by decide +kernel)
theorem we_125 : Cond.fieldLink RX3 19 (TX3 1).1 (TX3 1).2.1 (TX3 1).2.2.1 ∈ TB := TB_m 125 (by decide +kernel) (by decide +kernel)
theorem we_127 : Cond.fieldLink RX3 23 (TX3 2).1 (TX3 2).2.1 (TX3 2).2.2.1 ∈ TB := TB_m 127 (by decide +kernel) (by decide +kernel)
theorem we_129 : Cond.fieldLink RX3 27 (TX3 3).1 (TX3 3).2.1 (TX3 3).2.2.1 ∈ TB := TB_m 129 (by decide +kernel) (by decide +kernel)
def fin_X3 (E : Ex) (k n : Nat) : List Value := [.ref (E.2.2.2.2.1 + n), .ref (E.2.2.2.2.1 + (n + 6)), .int 0, .int 0]
def mk_X3 (E : Ex) (bf : Nat → va_E) (k n : Nat) : Nat → va_E := (zu (zu (zu (mk_X2 E (zu (zu (mk_X1 E (zu bf n (.inr (1, [.null, .null, .null, .null, .null, .long 0, .int 0]))) n (n + 1)) k (.inr (3, [.ref (E.2.2.2.2.1 + n), .null, .int 0, .int 0]))) (n + 6) (.inr (2, [.int 0, .int 0, .int 0, .int 0, .int 0, .int 0, .int 0, .null, .null, .null, .null, .null, .null, .null, .null, .int 0]))) (n + 6) (n + 7)) k (.inr (3, [.ref (E.2.2.2.2.1 + n), .ref (E.2.2.2.2.1 + (n + 6)), .int 0, .int 0]))) k (.inr (3, [.ref (E.2.2.2.2.1 + n), .ref (E.2.2.2.2.1 + (n + 6)), .int 0, .int 0]))) k (.inr (3, [.ref (E.2.2.2.2.1 + n), .ref (E.2.2.2.2.1 + (n + 6)), .int 0, .int 0])))
theorem mk_X3_lt {E : Ex} {bf : Nat → va_E} {k n j : Nat} (h : j < n) (hk : j ≠ k) : mk_X3 E bf k n j = bf j := by
  unfold mk_X3
  repeat first | rw [zu_n (by omega)] | rw [mk_X1_lt (by omega) (by omega)] | rw [mk_X2_lt (by omega) (by omega)]
theorem mk_X3_k {E : Ex} {bf : Nat → va_E} {k n : Nat} : mk_X3 E bf k n k = .inr (3, fin_X3 E k n) := by
  unfold mk_X3
  rw [zu_s]
  rfl
set_option maxRecDepth 4000 in
theorem c_X3 {E : Ex} {bf : Nat → va_E} {k n : Nat} (hk : k < n) (hb : bf k = .inr (3, [.null, .null, .int 0, .int 0])) (l : Launch) : Met l yX3_init (yws yX3_init cX3_init 1 none) { frames := 2, cells := 15, slots := 905, locals := 32 } (va_Pc [.ref (E.2.2.2.2.1 + k)] (zP E bf n)) (zQ E (mk_X3 E bf k n) (n + 15)) 15 905 (yA E) :=
  z_met (by decide +kernel) rfl (by decide) (fun g C hR hin => by
    refine z_aload_n (m := 1) C dX3_init_0 0 rfl rfl ?_
    refine z_obj (m := 4) C we_25 we_18 we_19 (by decide) (by decide) dX3_init_1 rfl ?_
    refine z_aload_n (m := 5) C dX3_init_4 0 rfl rfl ?_
    refine z_new (m := 8) (ci := 1) (n2 := n + 1) (fs := [.null, .null, .null, .null, .null, .long 0, .int 0]) C in_X1 tyX1 tyX1_ok rfl bl_X1 we_26 we_27 we_3 (by decide) (by decide) dX3_init_5 rfl rfl (fun b1 e1 => ?_)
    have f0 : b1 k = .inr (3, [.null, .null, .int 0, .int 0]) := by rw [e1, zu_n (by omega)]; exact hb
    have f1 : b1 n = .inr (1, [.null, .null, .null, .null, .null, .long 0, .int 0]) := by rw [e1]; exact zu_s
    refine z_dup (m := 9) C dX3_init_8 rfl rfl ?_
    refine z_callN (m := 12) (n' := n + 6) (st := [.ref (E.2.2.2.2.1 + n), .ref (E.2.2.2.2.1 + k)]) C we_30 we_3 we_29 rfl (by decide +kernel) we_28 (by decide) (by decide) (Nat.le_of_ble_eq_true rfl) (c_X1 (by omega) f1 g.2.1) dX3_init_9 rfl (fun b2 e2 => ?_)
    have f2 : b2 k = .inr (3, [.null, .null, .int 0, .int 0]) := by rw [e2, mk_X1_lt (by omega) (by omega)]; exact f0
    refine z_putF (m := 15) (ci := 3) (f := 0) C in_X3 tyX3 tyX3_ok nmX3 (by omega) f2 rfl (by decide) we_123 rfl rfl hin rfl (tyX3_ok 0 (by decide)) rfl rfl (Nat.le_of_ble_eq_true rfl) dX3_init_12 rfl (fun b3 e3 => ?_)
    have f3 : b3 k = .inr (3, [.ref (E.2.2.2.2.1 + n), .null, .int 0, .int 0]) := by rw [e3]; exact zu_s
    refine z_aload_n (m := 16) C dX3_init_15 0 rfl rfl ?_
    refine z_new (m := 19) (ci := 2) (n2 := n + 7) (fs := [.int 0, .int 0, .int 0, .int 0, .int 0, .int 0, .int 0, .null, .null, .null, .null, .null, .null, .null, .null, .int 0]) C in_X2 tyX2 tyX2_ok rfl bl_X2 we_61 we_62 we_4 (by decide) (by decide) dX3_init_16 rfl rfl (fun b4 e4 => ?_)
    have f4 : b4 k = .inr (3, [.ref (E.2.2.2.2.1 + n), .null, .int 0, .int 0]) := by rw [e4, zu_n (by omega)]; exact f3
    have f5 : b4 (n + 6) = .inr (2, [.int 0, .int 0, .int 0, .int 0, .int 0, .int 0, .int 0, .null, .null, .null, .null, .null, .null, .null, .null, .int 0]) := by rw [e4]; exact zu_s
    refine z_dup (m := 20) C dX3_init_19 rfl rfl ?_
    refine z_callN (m := 23) (n' := n + 15) (st := [.ref (E.2.2.2.2.1 + (n + 6)), .ref (E.2.2.2.2.1 + k)]) C we_65 we_4 we_64 rfl (by decide +kernel) we_63 (by decide) (by decide) (Nat.le_of_ble_eq_true rfl) (c_X2 (by omega) f5 g.2.1) dX3_init_20 rfl (fun b5 e5 => ?_)
    have f6 : b5 k = .inr (3, [.ref (E.2.2.2.2.1 + n), .null, .int 0, .int 0]) := by rw [e5, mk_X2_lt (by omega) (by omega)]; exact f4
    refine z_putF (m := 26) (ci := 3) (f := 1) C in_X3 tyX3 tyX3_ok nmX3 (by omega) f6 rfl (by decide) we_125 rfl rfl hin rfl (tyX3_ok 1 (by decide)) rfl rfl (Nat.le_of_ble_eq_true rfl) dX3_init_23 rfl (fun b6 e6 => ?_)
    have f7 : b6 k = .inr (3, [.ref (E.2.2.2.2.1 + n), .ref (E.2.2.2.2.1 + (n + 6)), .int 0, .int 0]) := by rw [e6]; exact zu_s
    refine z_aload_n (m := 27) C dX3_init_26 0 rfl rfl ?_
    refine z_iconst (m := 28) C (0 : Int32) dX3_init_27 (by decide) rfl ?_
    refine z_put (m := 31) (ci := 3) (f := 2) C in_X3 tyX3 tyX3_ok nmX3 (by omega) f7 rfl (by decide) we_127 rfl rfl (tyX3_ok 2 (by decide)) rfl rfl (Nat.le_of_ble_eq_true rfl) dX3_init_28 rfl (fun b7 e7 => ?_)
    have f8 : b7 k = .inr (3, [.ref (E.2.2.2.2.1 + n), .ref (E.2.2.2.2.1 + (n + 6)), .int 0, .int 0]) := by rw [e7]; exact zu_s
    refine z_aload_n (m := 32) C dX3_init_31 0 rfl rfl ?_
    refine z_iconst (m := 33) C (0 : Int32) dX3_init_32 (by decide) rfl ?_
    refine z_put (m := 36) (ci := 3) (f := 3) C in_X3 tyX3 tyX3_ok nmX3 (by omega) f8 rfl (by decide) we_129 rfl rfl (tyX3_ok 3 (by decide)) rfl rfl (Nat.le_of_ble_eq_true rfl) dX3_init_33 rfl (fun b8 e8 => ?_)
    have f9 : b8 k = .inr (3, [.ref (E.2.2.2.2.1 + n), .ref (E.2.2.2.2.1 + (n + 6)), .int 0, .int 0]) := by rw [e8]; exact zu_s
    exact z_ret C hR (by subst e8 e7 e6 e5 e4 e3 e2 e1; rfl) rfl dX3_init_36) l
theorem we_145 : Cond.methodLink RX0 3 objectInit ∈ TB := TB_m 145 (by decide +kernel) (by decide +kernel)
theorem we_146 : Cond.classLink RX0 9 RX3 ∈ TB := TB_m 146 (by decide +kernel) (by decide +kernel)
theorem we_149 : Cond.fieldLink RX0 11 (TX0 0).1 (TX0 0).2.1 (TX0 0).2.2.1 ∈ TB := TB_m 149 (by decide +kernel) (by decide +kernel)
theorem we_150 : Cond.fieldLink RX0 17 (TX0 1).1 (TX0 1).2.1 (TX0 1).2.2.1 ∈ TB := TB_m 150 (by decide +kernel) (by decide +kernel)
theorem we_21 : Cond.instantiable RX3 4 ∈ TB := TB_m 21 (by decide +kernel) (by decide +kernel)
theorem we_2 : Cond.initialized RX3 ∈ TB := TB_m 2 (by decide +kernel) (by decide +kernel)
theorem we_24 : Cond.code yX3_init cX3_init 1 none ∈ TB := TB_m 24 (by decide +kernel) (by decide +kernel)
theorem we_23 : Cond.instanceMethod yX3_init ∈ TB := TB_m 23 (by decide +kernel) (by decide +kernel)
theorem we_148 : Cond.methodLinkNest RX0 21 yX3_init RX5 ∈ NWs := NW_m 148 (by decide +kernel) (by decide +kernel)
def fin_X0 (E : Ex) (k n : Nat) : List Value := [.ref (E.2.2.2.2.1 + n), .int 0]
def mk_X0 (E : Ex) (bf : Nat → va_E) (k n : Nat) : Nat → va_E := (zu (mk_X3 E (zu (zu (mk_X3 E (zu (zu (mk_X3 E (zu (zu (mk_X3 E (zu (zu (zu (zu bf n (.inl (E.2.2.2.1, 4, .inr (.inr (.inr (.inr (fun _ => none))))))) k (.inr (0, [.ref (E.2.2.2.2.1 + n), .int 0]))) k (.inr (0, [.ref (E.2.2.2.2.1 + n), .int 0]))) (n + 1) (.inr (3, [.null, .null, .int 0, .int 0]))) (n + 1) (n + 2)) n (.inl (E.2.2.2.1, 4, .inr (.inr (.inr (.inr (va_up (fun _ => none) (Int32.toNatClampNeg 0) (some (E.2.2.2.2.1 + (n + 1)))))))))) (n + 17) (.inr (3, [.null, .null, .int 0, .int 0]))) (n + 17) (n + 18)) n (.inl (E.2.2.2.1, 4, .inr (.inr (.inr (.inr (va_up (va_up (fun _ => none) (Int32.toNatClampNeg 0) (some (E.2.2.2.2.1 + (n + 1)))) (Int32.toNatClampNeg 1) (some (E.2.2.2.2.1 + (n + 17)))))))))) (n + 33) (.inr (3, [.null, .null, .int 0, .int 0]))) (n + 33) (n + 34)) n (.inl (E.2.2.2.1, 4, .inr (.inr (.inr (.inr (va_up (va_up (va_up (fun _ => none) (Int32.toNatClampNeg 0) (some (E.2.2.2.2.1 + (n + 1)))) (Int32.toNatClampNeg 1) (some (E.2.2.2.2.1 + (n + 17)))) (Int32.toNatClampNeg 2) (some (E.2.2.2.2.1 + (n + 33)))))))))) (n + 49) (.inr (3, [.null, .null, .int 0, .int 0]))) (n + 49) (n + 50)) n (.inl (E.2.2.2.1, 4, .inr (.inr (.inr (.inr (va_up (va_up (va_up (va_up (fun _ => none) (Int32.toNatClampNeg 0) (some (E.2.2.2.2.1 + (n + 1)))) (Int32.toNatClampNeg 1) (some (E.2.2.2.2.1 + (n + 17)))) (Int32.toNatClampNeg 2) (some (E.2.2.2.2.1 + (n + 33)))) (Int32.toNatClampNeg 3) (some (E.2.2.2.2.1 + (n + 49))))))))))
theorem mk_X0_lt {E : Ex} {bf : Nat → va_E} {k n j : Nat} (h : j < n) (hk : j ≠ k) : mk_X0 E bf k n j = bf j := by
  unfold mk_X0
  repeat first | rw [zu_n (by omega)] | rw [mk_X3_lt (by omega) (by omega)]
set_option maxRecDepth 4000 in
theorem c_X0 {E : Ex} {bf : Nat → va_E} {k n : Nat} (hk : k < n) (hb : bf k = .inr (0, [.null, .int 0])) (l : Launch) : Met l yX0_init (yws yX0_init cX0_init 2 none) { frames := 3, cells := 65, slots := 3640, locals := 52 } (va_Pc [.ref (E.2.2.2.2.1 + k)] (zP E bf n)) (zQ E (mk_X0 E bf k n) (n + 65)) 65 3640 (yA E) :=
  z_met (by decide +kernel) rfl (by decide) (fun g C hR hin => by
    refine z_aload_n (m := 1) C dX0_init_0 0 rfl rfl ?_
    refine z_obj (m := 4) C we_145 we_18 we_19 (by decide) (by decide) dX0_init_1 rfl ?_
    refine z_aload_n (m := 5) C dX0_init_4 0 rfl rfl ?_
    refine z_iconst (m := 6) C (4 : Int32) dX0_init_5 (by decide) rfl ?_
    refine z_newR (m := 9) (N' := 4) (n2 := n + 1) C we_146 (by decide) (by decide) (by decide) (by decide) (by decide) dX0_init_6 rfl rfl (fun b1 e1 => ?_)
    have f0 : b1 k = .inr (0, [.null, .int 0]) := by rw [e1, zu_n (by omega)]; exact hb
    have f1 : b1 n = .inl (E.2.2.2.1, 4, .inr (.inr (.inr (.inr (fun _ => none))))) := by rw [e1]; exact zu_s
    refine z_putF (m := 12) (ci := 0) (f := 0) C in_X0 tyX0 tyX0_ok nmX0 (by omega) f0 rfl (by decide) we_149 rfl rfl hin rfl (tyX0_ok 0 (by decide)) rfl rfl (Nat.le_of_ble_eq_true rfl) dX0_init_9 rfl (fun b2 e2 => ?_)
    have f2 : b2 k = .inr (0, [.ref (E.2.2.2.2.1 + n), .int 0]) := by rw [e2]; exact zu_s
    have f3 : b2 n = .inl (E.2.2.2.1, 4, .inr (.inr (.inr (.inr (fun _ => none))))) := by rw [e2, zu_n (by omega)]; exact f1
    refine z_aload_n (m := 13) C dX0_init_12 0 rfl rfl ?_
    refine z_iconst (m := 14) C (0 : Int32) dX0_init_13 (by decide) rfl ?_
    refine z_put (m := 17) (ci := 0) (f := 1) C in_X0 tyX0 tyX0_ok nmX0 (by omega) f2 rfl (by decide) we_150 rfl rfl (tyX0_ok 1 (by decide)) rfl rfl (Nat.le_of_ble_eq_true rfl) dX0_init_14 rfl (fun b3 e3 => ?_)
    have f4 : b3 k = .inr (0, [.ref (E.2.2.2.2.1 + n), .int 0]) := by rw [e3]; exact zu_s
    have f5 : b3 n = .inl (E.2.2.2.1, 4, .inr (.inr (.inr (.inr (fun _ => none))))) := by rw [e3, zu_n (by omega)]; exact f3
    refine z_iconst (m := 18) C (0 : Int32) dX0_init_17 (by decide) rfl ?_
    refine z_istore_n (m := 19) (ls' := [(1, .int 0), (0, .ref (E.2.2.2.2.1 + k))]) C dX0_init_18 (by decide) rfl rfl ?_
    refine z_iload_n (m := 20) C dX0_init_19 0 rfl rfl ?_
    refine z_aload_n (m := 21) C dX0_init_20 1 rfl rfl ?_
    refine z_get (m := 24) (ci := 0) (f := 0) (v := .ref (E.2.2.2.2.1 + n)) C in_X0 (by omega) f4 rfl (by decide) we_149 rfl rfl dX0_init_21 rfl ?_
    refine z_alenR (m := 25) (v := 4) C (by omega) f5 (by decide) dX0_init_24 rfl ?_
    refine z_icmp_ge_F (tgt := 47) (m := 28) C dX0_init_25 (by decide) rfl (by decide) ?_
    refine z_aload_n (m := 29) C dX0_init_28 1 rfl rfl ?_
    refine z_get (m := 32) (ci := 0) (f := 0) (v := .ref (E.2.2.2.2.1 + n)) C in_X0 (by omega) f4 rfl (by decide) we_149 rfl rfl dX0_init_29 rfl ?_
    refine z_iload_n (m := 33) C dX0_init_32 0 rfl rfl ?_
    refine z_new (m := 36) (ci := 3) (n2 := n + 2) (fs := [.null, .null, .int 0, .int 0]) C in_X3 tyX3 tyX3_ok rfl bl_X3 we_146 we_21 we_2 (by decide) (by decide) dX0_init_33 rfl rfl (fun b4 e4 => ?_)
    have f6 : b4 k = .inr (0, [.ref (E.2.2.2.2.1 + n), .int 0]) := by rw [e4, zu_n (by omega)]; exact f4
    have f7 : b4 n = .inl (E.2.2.2.1, 4, .inr (.inr (.inr (.inr (fun _ => none))))) := by rw [e4, zu_n (by omega)]; exact f5
    have f8 : b4 (n + 1) = .inr (3, [.null, .null, .int 0, .int 0]) := by rw [e4]; exact zu_s
    refine z_dup (m := 37) C dX0_init_36 rfl rfl ?_
    refine z_callN (m := 40) (n' := n + 17) (st := [.ref (E.2.2.2.2.1 + (n + 1)), .int 0, .ref (E.2.2.2.2.1 + n)]) C we_24 we_2 we_23 rfl (by decide +kernel) we_148 (by decide) (by decide) (Nat.le_of_ble_eq_true rfl) (c_X3 (by omega) f8 g.2.1) dX0_init_37 rfl (fun b5 e5 => ?_)
    have f9 : b5 k = .inr (0, [.ref (E.2.2.2.2.1 + n), .int 0]) := by rw [e5, mk_X3_lt (by omega) (by omega)]; exact f6
    have f10 : b5 n = .inl (E.2.2.2.1, 4, .inr (.inr (.inr (.inr (fun _ => none))))) := by rw [e5, mk_X3_lt (by omega) (by omega)]; exact f7
    have f11 : b5 (n + 1) = .inr (3, fin_X3 E (n + 1) (n + 2)) := by rw [e5, mk_X3_k]
    refine z_aast (m := 41) C (by omega) f10 (by omega) f11 (vin (by decide) (by decide)) dX0_init_40 rfl (fun b6 e6 => ?_)
    have f12 : b6 k = .inr (0, [.ref (E.2.2.2.2.1 + n), .int 0]) := by rw [e6, zu_n (by omega)]; exact f9
    have f13 : b6 n = .inl (E.2.2.2.1, 4, .inr (.inr (.inr (.inr (va_up (fun _ => none) (Int32.toNatClampNeg 0) (some (E.2.2.2.2.1 + (n + 1)))))))) := by rw [e6]; exact zu_s
    refine z_iinc (m := 44) (v := 1) (ls' := [(1, .int 1), (0, .ref (E.2.2.2.2.1 + k))]) C dX0_init_41 0 rfl (by decide) (by decide) rfl rfl ?_
    refine z_goto (tgt := 19) C dX0_init_44 (by decide) ?_
    refine z_iload_n (m := 20) C dX0_init_19 0 rfl rfl ?_
    refine z_aload_n (m := 21) C dX0_init_20 1 rfl rfl ?_
    refine z_get (m := 24) (ci := 0) (f := 0) (v := .ref (E.2.2.2.2.1 + n)) C in_X0 (by omega) f12 rfl (by decide) we_149 rfl rfl dX0_init_21 rfl ?_
    refine z_alenR (m := 25) (v := 4) C (by omega) f13 (by decide) dX0_init_24 rfl ?_
    refine z_icmp_ge_F (tgt := 47) (m := 28) C dX0_init_25 (by decide) rfl (by decide) ?_
    refine z_aload_n (m := 29) C dX0_init_28 1 rfl rfl ?_
    refine z_get (m := 32) (ci := 0) (f := 0) (v := .ref (E.2.2.2.2.1 + n)) C in_X0 (by omega) f12 rfl (by decide) we_149 rfl rfl dX0_init_29 rfl ?_
    refine z_iload_n (m := 33) C dX0_init_32 0 rfl rfl ?_
    refine z_new (m := 36) (ci := 3) (n2 := n + 18) (fs := [.null, .null, .int 0, .int 0]) C in_X3 tyX3 tyX3_ok rfl bl_X3 we_146 we_21 we_2 (by decide) (by decide) dX0_init_33 rfl rfl (fun b7 e7 => ?_)
    have f14 : b7 k = .inr (0, [.ref (E.2.2.2.2.1 + n), .int 0]) := by rw [e7, zu_n (by omega)]; exact f12
    have f15 : b7 n = .inl (E.2.2.2.1, 4, .inr (.inr (.inr (.inr (va_up (fun _ => none) (Int32.toNatClampNeg 0) (some (E.2.2.2.2.1 + (n + 1)))))))) := by rw [e7, zu_n (by omega)]; exact f13
    have f16 : b7 (n + 17) = .inr (3, [.null, .null, .int 0, .int 0]) := by rw [e7]; exact zu_s
    refine z_dup (m := 37) C dX0_init_36 rfl rfl ?_
    refine z_callN (m := 40) (n' := n + 33) (st := [.ref (E.2.2.2.2.1 + (n + 17)), .int 1, .ref (E.2.2.2.2.1 + n)]) C we_24 we_2 we_23 rfl (by decide +kernel) we_148 (by decide) (by decide) (Nat.le_of_ble_eq_true rfl) (c_X3 (by omega) f16 g.2.1) dX0_init_37 rfl (fun b8 e8 => ?_)
    have f17 : b8 k = .inr (0, [.ref (E.2.2.2.2.1 + n), .int 0]) := by rw [e8, mk_X3_lt (by omega) (by omega)]; exact f14
    have f18 : b8 n = .inl (E.2.2.2.1, 4, .inr (.inr (.inr (.inr (va_up (fun _ => none) (Int32.toNatClampNeg 0) (some (E.2.2.2.2.1 + (n + 1)))))))) := by rw [e8, mk_X3_lt (by omega) (by omega)]; exact f15
    have f19 : b8 (n + 17) = .inr (3, fin_X3 E (n + 17) (n + 18)) := by rw [e8, mk_X3_k]
    refine z_aast (m := 41) C (by omega) f18 (by omega) f19 (vin (by decide) (by decide)) dX0_init_40 rfl (fun b9 e9 => ?_)
    have f20 : b9 k = .inr (0, [.ref (E.2.2.2.2.1 + n), .int 0]) := by rw [e9, zu_n (by omega)]; exact f17
    have f21 : b9 n = .inl (E.2.2.2.1, 4, .inr (.inr (.inr (.inr (va_up (va_up (fun _ => none) (Int32.toNatClampNeg 0) (some (E.2.2.2.2.1 + (n + 1)))) (Int32.toNatClampNeg 1) (some (E.2.2.2.2.1 + (n + 17)))))))) := by rw [e9]; exact zu_s
    refine z_iinc (m := 44) (v := 2) (ls' := [(1, .int 2), (0, .ref (E.2.2.2.2.1 + k))]) C dX0_init_41 0 rfl (by decide) (by decide) rfl rfl ?_
    refine z_goto (tgt := 19) C dX0_init_44 (by decide) ?_
    refine z_iload_n (m := 20) C dX0_init_19 0 rfl rfl ?_
    refine z_aload_n (m := 21) C dX0_init_20 1 rfl rfl ?_
    refine z_get (m := 24) (ci := 0) (f := 0) (v := .ref (E.2.2.2.2.1 + n)) C in_X0 (by omega) f20 rfl (by decide) we_149 rfl rfl dX0_init_21 rfl ?_
    refine z_alenR (m := 25) (v := 4) C (by omega) f21 (by decide) dX0_init_24 rfl ?_
    refine z_icmp_ge_F (tgt := 47) (m := 28) C dX0_init_25 (by decide) rfl (by decide) ?_
    refine z_aload_n (m := 29) C dX0_init_28 1 rfl rfl ?_
    refine z_get (m := 32) (ci := 0) (f := 0) (v := .ref (E.2.2.2.2.1 + n)) C in_X0 (by omega) f20 rfl (by decide) we_149 rfl rfl dX0_init_29 rfl ?_
    refine z_iload_n (m := 33) C dX0_init_32 0 rfl rfl ?_
    refine z_new (m := 36) (ci := 3) (n2 := n + 34) (fs := [.null, .null, .int 0, .int 0]) C in_X3 tyX3 tyX3_ok rfl bl_X3 we_146 we_21 we_2 (by decide) (by decide) dX0_init_33 rfl rfl (fun b10 e10 => ?_)
    have f22 : b10 k = .inr (0, [.ref (E.2.2.2.2.1 + n), .int 0]) := by rw [e10, zu_n (by omega)]; exact f20
    have f23 : b10 n = .inl (E.2.2.2.1, 4, .inr (.inr (.inr (.inr (va_up (va_up (fun _ => none) (Int32.toNatClampNeg 0) (some (E.2.2.2.2.1 + (n + 1)))) (Int32.toNatClampNeg 1) (some (E.2.2.2.2.1 + (n + 17)))))))) := by rw [e10, zu_n (by omega)]; exact f21
    have f24 : b10 (n + 33) = .inr (3, [.null, .null, .int 0, .int 0]) := by rw [e10]; exact zu_s
    refine z_dup (m := 37) C dX0_init_36 rfl rfl ?_
    refine z_callN (m := 40) (n' := n + 49) (st := [.ref (E.2.2.2.2.1 + (n + 33)), .int 2, .ref (E.2.2.2.2.1 + n)]) C we_24 we_2 we_23 rfl (by decide +kernel) we_148 (by decide) (by decide) (Nat.le_of_ble_eq_true rfl) (c_X3 (by omega) f24 g.2.1) dX0_init_37 rfl (fun b11 e11 => ?_)
    have f25 : b11 k = .inr (0, [.ref (E.2.2.2.2.1 + n), .int 0]) := by rw [e11, mk_X3_lt (by omega) (by omega)]; exact f22
    have f26 : b11 n = .inl (E.2.2.2.1, 4, .inr (.inr (.inr (.inr (va_up (va_up (fun _ => none) (Int32.toNatClampNeg 0) (some (E.2.2.2.2.1 + (n + 1)))) (Int32.toNatClampNeg 1) (some (E.2.2.2.2.1 + (n + 17)))))))) := by rw [e11, mk_X3_lt (by omega) (by omega)]; exact f23
    have f27 : b11 (n + 33) = .inr (3, fin_X3 E (n + 33) (n + 34)) := by rw [e11, mk_X3_k]
    refine z_aast (m := 41) C (by omega) f26 (by omega) f27 (vin (by decide) (by decide)) dX0_init_40 rfl (fun b12 e12 => ?_)
    have f28 : b12 k = .inr (0, [.ref (E.2.2.2.2.1 + n), .int 0]) := by rw [e12, zu_n (by omega)]; exact f25
    have f29 : b12 n = .inl (E.2.2.2.1, 4, .inr (.inr (.inr (.inr (va_up (va_up (va_up (fun _ => none) (Int32.toNatClampNeg 0) (some (E.2.2.2.2.1 + (n + 1)))) (Int32.toNatClampNeg 1) (some (E.2.2.2.2.1 + (n + 17)))) (Int32.toNatClampNeg 2) (some (E.2.2.2.2.1 + (n + 33)))))))) := by rw [e12]; exact zu_s
    refine z_iinc (m := 44) (v := 3) (ls' := [(1, .int 3), (0, .ref (E.2.2.2.2.1 + k))]) C dX0_init_41 0 rfl (by decide) (by decide) rfl rfl ?_
    refine z_goto (tgt := 19) C dX0_init_44 (by decide) ?_
    refine z_iload_n (m := 20) C dX0_init_19 0 rfl rfl ?_
    refine z_aload_n (m := 21) C dX0_init_20 1 rfl rfl ?_
    refine z_get (m := 24) (ci := 0) (f := 0) (v := .ref (E.2.2.2.2.1 + n)) C in_X0 (by omega) f28 rfl (by decide) we_149 rfl rfl dX0_init_21 rfl ?_
    refine z_alenR (m := 25) (v := 4) C (by omega) f29 (by decide) dX0_init_24 rfl ?_
    refine z_icmp_ge_F (tgt := 47) (m := 28) C dX0_init_25 (by decide) rfl (by decide) ?_
    refine z_aload_n (m := 29) C dX0_init_28 1 rfl rfl ?_
    refine z_get (m := 32) (ci := 0) (f := 0) (v := .ref (E.2.2.2.2.1 + n)) C in_X0 (by omega) f28 rfl (by decide) we_149 rfl rfl dX0_init_29 rfl ?_
    refine z_iload_n (m := 33) C dX0_init_32 0 rfl rfl ?_
    refine z_new (m := 36) (ci := 3) (n2 := n + 50) (fs := [.null, .null, .int 0, .int 0]) C in_X3 tyX3 tyX3_ok rfl bl_X3 we_146 we_21 we_2 (by decide) (by decide) dX0_init_33 rfl rfl (fun b13 e13 => ?_)
    have f30 : b13 k = .inr (0, [.ref (E.2.2.2.2.1 + n), .int 0]) := by rw [e13, zu_n (by omega)]; exact f28
    have f31 : b13 n = .inl (E.2.2.2.1, 4, .inr (.inr (.inr (.inr (va_up (va_up (va_up (fun _ => none) (Int32.toNatClampNeg 0) (some (E.2.2.2.2.1 + (n + 1)))) (Int32.toNatClampNeg 1) (some (E.2.2.2.2.1 + (n + 17)))) (Int32.toNatClampNeg 2) (some (E.2.2.2.2.1 + (n + 33)))))))) := by rw [e13, zu_n (by omega)]; exact f29
    have f32 : b13 (n + 49) = .inr (3, [.null, .null, .int 0, .int 0]) := by rw [e13]; exact zu_s
    refine z_dup (m := 37) C dX0_init_36 rfl rfl ?_
    refine z_callN (m := 40) (n' := n + 65) (st := [.ref (E.2.2.2.2.1 + (n + 49)), .int 3, .ref (E.2.2.2.2.1 + n)]) C we_24 we_2 we_23 rfl (by decide +kernel) we_148 (by decide) (by decide) (Nat.le_of_ble_eq_true rfl) (c_X3 (by omega) f32 g.2.1) dX0_init_37 rfl (fun b14 e14 => ?_)
    have f33 : b14 k = .inr (0, [.ref (E.2.2.2.2.1 + n), .int 0]) := by rw [e14, mk_X3_lt (by omega) (by omega)]; exact f30
    have f34 : b14 n = .inl (E.2.2.2.1, 4, .inr (.inr (.inr (.inr (va_up (va_up (va_up (fun _ => none) (Int32.toNatClampNeg 0) (some (E.2.2.2.2.1 + (n + 1)))) (Int32.toNatClampNeg 1) (some (E.2.2.2.2.1 + (n + 17)))) (Int32.toNatClampNeg 2) (some (E.2.2.2.2.1 + (n + 33)))))))) := by rw [e14, mk_X3_lt (by omega) (by omega)]; exact f31
    have f35 : b14 (n + 49) = .inr (3, fin_X3 E (n + 49) (n + 50)) := by rw [e14, mk_X3_k]
    refine z_aast (m := 41) C (by omega) f34 (by omega) f35 (vin (by decide) (by decide)) dX0_init_40 rfl (fun b15 e15 => ?_)
    have f36 : b15 k = .inr (0, [.ref (E.2.2.2.2.1 + n), .int 0]) := by rw [e15, zu_n (by omega)]; exact f33
    have f37 : b15 n = .inl (E.2.2.2.1, 4, .inr (.inr (.inr (.inr (va_up (va_up (va_up (va_up (fun _ => none) (Int32.toNatClampNeg 0) (some (E.2.2.2.2.1 + (n + 1)))) (Int32.toNatClampNeg 1) (some (E.2.2.2.2.1 + (n + 17)))) (Int32.toNatClampNeg 2) (some (E.2.2.2.2.1 + (n + 33)))) (Int32.toNatClampNeg 3) (some (E.2.2.2.2.1 + (n + 49)))))))) := by rw [e15]; exact zu_s
    refine z_iinc (m := 44) (v := 4) (ls' := [(1, .int 4), (0, .ref (E.2.2.2.2.1 + k))]) C dX0_init_41 0 rfl (by decide) (by decide) rfl rfl ?_
    refine z_goto (tgt := 19) C dX0_init_44 (by decide) ?_
    refine z_iload_n (m := 20) C dX0_init_19 0 rfl rfl ?_
    refine z_aload_n (m := 21) C dX0_init_20 1 rfl rfl ?_
    refine z_get (m := 24) (ci := 0) (f := 0) (v := .ref (E.2.2.2.2.1 + n)) C in_X0 (by omega) f36 rfl (by decide) we_149 rfl rfl dX0_init_21 rfl ?_
    refine z_alenR (m := 25) (v := 4) C (by omega) f37 (by decide) dX0_init_24 rfl ?_
    refine z_icmp_ge_T (tgt := 47) C dX0_init_25 (by decide) (by decide) ?_
    exact z_ret C hR (by subst e15 e14 e13 e12 e11 e10 e9 e8 e7 e6 e5 e4 e3 e2 e1; rfl) rfl dX0_init_47) l
theorem we_162 : Cond.methodLink RX4 3 objectInit ∈ TB := TB_m 162 (by decide +kernel) (by decide +kernel)
theorem we_177 : Cond.arrayClass .char ∈ TB := TB_m 177 (by decide +kernel) (by decide +kernel)
theorem we_163 : Cond.fieldLink RX4 9 (TX4 0).1 (TX4 0).2.1 (TX4 0).2.2.1 ∈ TB := TB_m 163 (by decide +kernel) (by decide +kernel)
theorem we_164 : Cond.fieldLink RX4 15 (TX4 1).1 (TX4 1).2.1 (TX4 1).2.2.1 ∈ TB := TB_m 164 (by decide +kernel) (by decide +kernel)
theorem we_166 : Cond.fieldLink RX4 19 (TX4 2).1 (TX4 2).2.1 (TX4 2).2.2.1 ∈ TB := TB_m 166 (by decide +kernel) (by decide +kernel)
theorem we_167 : Cond.fieldLink RX4 22 (TX4 3).1 (TX4 3).2.1 (TX4 3).2.2.1 ∈ TB := TB_m 167 (by decide +kernel) (by decide +kernel)
def fin_X4 (E : Ex) (k n : Nat) : List Value := [.ref (E.2.2.2.2.1 + n), .int 0, .int (-1), .ref (E.2.2.2.2.1 + (n + 1))]
def mk_X4 (E : Ex) (bf : Nat → va_E) (k n : Nat) : Nat → va_E := (zu (zu (zu (zu (zu (zu bf n (.inl (E.2.2.1, 40, .inl (fun _ => 0)))) k (.inr (4, [.ref (E.2.2.2.2.1 + n), .int 0, .int 0, .null]))) k (.inr (4, [.ref (E.2.2.2.2.1 + n), .int 0, .int 0, .null]))) k (.inr (4, [.ref (E.2.2.2.2.1 + n), .int 0, .int (-1), .null]))) (n + 1) (.inl (E.2.1, 3, .inl (fun _ => 0)))) k (.inr (4, [.ref (E.2.2.2.2.1 + n), .int 0, .int (-1), .ref (E.2.2.2.2.1 + (n + 1))])))
theorem mk_X4_lt {E : Ex} {bf : Nat → va_E} {k n j : Nat} (h : j < n) (hk : j ≠ k) : mk_X4 E bf k n j = bf j := by
  unfold mk_X4
  repeat first | rw [zu_n (by omega)]
set_option maxRecDepth 4000 in
theorem c_X4 {E : Ex} {bf : Nat → va_E} {k n : Nat} (hk : k < n) (hb : bf k = .inr (4, [.null, .int 0, .int 0, .null])) (l : Launch) : Met l yX4_init (yws yX4_init cX4_init 1 none) { frames := 1, cells := 2, slots := 43, locals := 12 } (va_Pc [.ref (E.2.2.2.2.1 + k)] (zP E bf n)) (zQ E (mk_X4 E bf k n) (n + 2)) 2 43 (yA E) :=
  z_met (by decide +kernel) rfl (by decide) (fun g C hR hin => by
    refine z_aload_n (m := 1) C dX4_init_0 0 rfl rfl ?_
    refine z_obj (m := 4) C we_162 we_18 we_19 (by decide) (by decide) dX4_init_1 rfl ?_
    refine z_aload_n (m := 5) C dX4_init_4 0 rfl rfl ?_
    refine z_bipush (m := 7) C (40 : Int32) dX4_init_5 (by decide) rfl ?_
    refine z_newC (m := 9) (N' := 40) (n2 := n + 1) C we_177 (by decide) (by decide) (by decide) (by decide) (by decide) dX4_init_7 rfl rfl (fun b1 e1 => ?_)
    have f0 : b1 k = .inr (4, [.null, .int 0, .int 0, .null]) := by rw [e1, zu_n (by omega)]; exact hb
    have f1 : b1 n = .inl (E.2.2.1, 40, .inl (fun _ => 0)) := by rw [e1]; exact zu_s
    refine z_putF (m := 12) (ci := 4) (f := 0) C in_X4 tyX4 tyX4_ok nmX4 (by omega) f0 rfl (by decide) we_163 rfl rfl hin rfl (tyX4_ok 0 (by decide)) rfl rfl (Nat.le_of_ble_eq_true rfl) dX4_init_9 rfl (fun b2 e2 => ?_)
    have f2 : b2 k = .inr (4, [.ref (E.2.2.2.2.1 + n), .int 0, .int 0, .null]) := by rw [e2]; exact zu_s
    have f3 : b2 n = .inl (E.2.2.1, 40, .inl (fun _ => 0)) := by rw [e2, zu_n (by omega)]; exact f1
    refine z_aload_n (m := 13) C dX4_init_12 0 rfl rfl ?_
    refine z_iconst (m := 14) C (0 : Int32) dX4_init_13 (by decide) rfl ?_
    refine z_put (m := 17) (ci := 4) (f := 1) C in_X4 tyX4 tyX4_ok nmX4 (by omega) f2 rfl (by decide) we_164 rfl rfl (tyX4_ok 1 (by decide)) rfl rfl (Nat.le_of_ble_eq_true rfl) dX4_init_14 rfl (fun b3 e3 => ?_)
    have f4 : b3 k = .inr (4, [.ref (E.2.2.2.2.1 + n), .int 0, .int 0, .null]) := by rw [e3]; exact zu_s
    have f5 : b3 n = .inl (E.2.2.1, 40, .inl (fun _ => 0)) := by rw [e3, zu_n (by omega)]; exact f3
    refine z_aload_n (m := 18) C dX4_init_17 0 rfl rfl ?_
    refine z_iconst (m := 19) C ((-1) : Int32) dX4_init_18 (by decide) rfl ?_
    refine z_put (m := 22) (ci := 4) (f := 2) C in_X4 tyX4 tyX4_ok nmX4 (by omega) f4 rfl (by decide) we_166 rfl rfl (tyX4_ok 2 (by decide)) rfl rfl (Nat.le_of_ble_eq_true rfl) dX4_init_19 rfl (fun b4 e4 => ?_)
    have f6 : b4 k = .inr (4, [.ref (E.2.2.2.2.1 + n), .int 0, .int (-1), .null]) := by rw [e4]; exact zu_s
    have f7 : b4 n = .inl (E.2.2.1, 40, .inl (fun _ => 0)) := by rw [e4, zu_n (by omega)]; exact f5
    refine z_aload_n (m := 23) C dX4_init_22 0 rfl rfl ?_
    refine z_iconst (m := 24) C (3 : Int32) dX4_init_23 (by decide) rfl ?_
    refine z_newI (m := 26) (N' := 3) (n2 := n + 2) C we_60 (by decide) (by decide) (by decide) (by decide) (by decide) dX4_init_24 rfl rfl (fun b5 e5 => ?_)
    have f8 : b5 k = .inr (4, [.ref (E.2.2.2.2.1 + n), .int 0, .int (-1), .null]) := by rw [e5, zu_n (by omega)]; exact f6
    have f9 : b5 n = .inl (E.2.2.1, 40, .inl (fun _ => 0)) := by rw [e5, zu_n (by omega)]; exact f7
    have f10 : b5 (n + 1) = .inl (E.2.1, 3, .inl (fun _ => 0)) := by rw [e5]; exact zu_s
    refine z_putF (m := 29) (ci := 4) (f := 3) C in_X4 tyX4 tyX4_ok nmX4 (by omega) f8 rfl (by decide) we_167 rfl rfl hin rfl (tyX4_ok 3 (by decide)) rfl rfl (Nat.le_of_ble_eq_true rfl) dX4_init_26 rfl (fun b6 e6 => ?_)
    have f11 : b6 k = .inr (4, [.ref (E.2.2.2.2.1 + n), .int 0, .int (-1), .ref (E.2.2.2.2.1 + (n + 1))]) := by rw [e6]; exact zu_s
    have f12 : b6 n = .inl (E.2.2.1, 40, .inl (fun _ => 0)) := by rw [e6, zu_n (by omega)]; exact f9
    have f13 : b6 (n + 1) = .inl (E.2.1, 3, .inl (fun _ => 0)) := by rw [e6, zu_n (by omega)]; exact f10
    exact z_ret C hR (by subst e6 e5 e4 e3 e2 e1; rfl) rfl dX4_init_29) l
theorem we_17 : Cond.methodLink RX5 3 objectInit ∈ TB := TB_m 17 (by decide +kernel) (by decide +kernel)
theorem we_20 : Cond.classLink RX5 9 RX3 ∈ TB := TB_m 20 (by decide +kernel) (by decide +kernel)
theorem we_22 : Cond.methodLinkNest RX5 11 yX3_init RX5 ∈ NWs := NW_m 22 (by decide +kernel) (by decide +kernel)
theorem we_180 : Cond.fieldLink RX5 12 (TX5 0).1 (TX5 0).2.1 (TX5 0).2.2.1 ∈ TB := TB_m 180 (by decide +kernel) (by decide +kernel)
theorem we_140 : Cond.classLink RX5 16 RX0 ∈ TB := TB_m 140 (by decide +kernel) (by decide +kernel)
theorem we_141 : Cond.instantiable RX0 2 ∈ TB := TB_m 141 (by decide +kernel) (by decide +kernel)
theorem we_5 : Cond.initialized RX0 ∈ TB := TB_m 5 (by decide +kernel) (by decide +kernel)
theorem we_144 : Cond.code yX0_init cX0_init 2 none ∈ TB := TB_m 144 (by decide +kernel) (by decide +kernel)
theorem we_143 : Cond.instanceMethod yX0_init ∈ TB := TB_m 143 (by decide +kernel) (by decide +kernel)
theorem we_142 : Cond.methodLinkNest RX5 18 yX0_init RX5 ∈ NWs := NW_m 142 (by decide +kernel) (by decide +kernel)
theorem we_181 : Cond.fieldLink RX5 19 (TX5 1).1 (TX5 1).2.1 (TX5 1).2.2.1 ∈ TB := TB_m 181 (by decide +kernel) (by decide +kernel)
theorem we_182 : Cond.fieldLink RX5 23 (TX5 2).1 (TX5 2).2.1 (TX5 2).2.2.1 ∈ TB := TB_m 182 (by decide +kernel) (by decide +kernel)
theorem we_183 : Cond.fieldLink RX5 26 (TX5 3).1 (TX5 3).2.1 (TX5 3).2.2.1 ∈ TB := TB_m 183 (by decide +kernel) (by decide +kernel)
theorem we_157 : Cond.classLink RX5 30 RX4 ∈ TB := TB_m 157 (by decide +kernel) (by decide +kernel)
theorem we_158 : Cond.instantiable RX4 4 ∈ TB := TB_m 158 (by decide +kernel) (by decide +kernel)
theorem we_6 : Cond.initialized RX4 ∈ TB := TB_m 6 (by decide +kernel) (by decide +kernel)
theorem we_161 : Cond.code yX4_init cX4_init 1 none ∈ TB := TB_m 161 (by decide +kernel) (by decide +kernel)
theorem we_160 : Cond.instanceMethod yX4_init ∈ TB := TB_m 160 (by decide +kernel) (by decide +kernel)
theorem we_159 : Cond.methodLinkNest RX5 32 yX4_init RX5 ∈ NWs := NW_m 159 (by decide +kernel) (by decide +kernel)
theorem we_184 : Cond.fieldLink RX5 33 (TX5 4).1 (TX5 4).2.1 (TX5 4).2.2.1 ∈ TB := TB_m 184 (by decide +kernel) (by decide +kernel)
theorem we_178 : Cond.classLink RX5 37 RX2 ∈ TB := TB_m 178 (by decide +kernel) (by decide +kernel)
theorem we_179 : Cond.methodLinkNest RX5 39 yX2_init RX5 ∈ NWs := NW_m 179 (by decide +kernel) (by decide +kernel)
theorem we_185 : Cond.fieldLink RX5 40 (TX5 5).1 (TX5 5).2.1 (TX5 5).2.2.1 ∈ TB := TB_m 185 (by decide +kernel) (by decide +kernel)
def fin_X5 (E : Ex) (k n : Nat) : List Value := [.ref (E.2.2.2.2.1 + n), .ref (E.2.2.2.2.1 + (n + 16)), .ref (E.2.2.2.2.1 + (n + 82)), .int 0, .ref (E.2.2.2.2.1 + (n + 98)), .ref (E.2.2.2.2.1 + (n + 101))]
def mk_X5 (E : Ex) (bf : Nat → va_E) (k n : Nat) : Nat → va_E := (zu (mk_X2 E (zu (zu (mk_X4 E (zu (zu (zu (mk_X3 E (zu (zu (mk_X0 E (zu (zu (mk_X3 E (zu bf n (.inr (3, [.null, .null, .int 0, .int 0]))) n (n + 1)) k (.inr (5, [.ref (E.2.2.2.2.1 + n), .null, .null, .int 0, .null, .null]))) (n + 16) (.inr (0, [.null, .int 0]))) (n + 16) (n + 17)) k (.inr (5, [.ref (E.2.2.2.2.1 + n), .ref (E.2.2.2.2.1 + (n + 16)), .null, .int 0, .null, .null]))) (n + 82) (.inr (3, [.null, .null, .int 0, .int 0]))) (n + 82) (n + 83)) k (.inr (5, [.ref (E.2.2.2.2.1 + n), .ref (E.2.2.2.2.1 + (n + 16)), .ref (E.2.2.2.2.1 + (n + 82)), .int 0, .null, .null]))) k (.inr (5, [.ref (E.2.2.2.2.1 + n), .ref (E.2.2.2.2.1 + (n + 16)), .ref (E.2.2.2.2.1 + (n + 82)), .int 0, .null, .null]))) (n + 98) (.inr (4, [.null, .int 0, .int 0, .null]))) (n + 98) (n + 99)) k (.inr (5, [.ref (E.2.2.2.2.1 + n), .ref (E.2.2.2.2.1 + (n + 16)), .ref (E.2.2.2.2.1 + (n + 82)), .int 0, .ref (E.2.2.2.2.1 + (n + 98)), .null]))) (n + 101) (.inr (2, [.int 0, .int 0, .int 0, .int 0, .int 0, .int 0, .int 0, .null, .null, .null, .null, .null, .null, .null, .null, .int 0]))) (n + 101) (n + 102)) k (.inr (5, [.ref (E.2.2.2.2.1 + n), .ref (E.2.2.2.2.1 + (n + 16)), .ref (E.2.2.2.2.1 + (n + 82)), .int 0, .ref (E.2.2.2.2.1 + (n + 98)), .ref (E.2.2.2.2.1 + (n + 101))])))
theorem mk_X5_lt {E : Ex} {bf : Nat → va_E} {k n j : Nat} (h : j < n) (hk : j ≠ k) : mk_X5 E bf k n j = bf j := by
  unfold mk_X5
  repeat first | rw [zu_n (by omega)] | rw [mk_X2_lt (by omega) (by omega)] | rw [mk_X3_lt (by omega) (by omega)] | rw [mk_X0_lt (by omega) (by omega)] | rw [mk_X4_lt (by omega) (by omega)]
set_option maxRecDepth 4000 in
theorem c_X5 {E : Ex} {bf : Nat → va_E} {k n : Nat} (hk : k < n) (hb : bf k = .inr (5, [.null, .null, .null, .int 0, .null, .null])) (l : Launch) : Met l yX5_init (yws yX5_init cX5_init 1 none) { frames := 4, cells := 110, slots := 5787, locals := 73 } (va_Pc [.ref (E.2.2.2.2.1 + k)] (zP E bf n)) (zQ E (mk_X5 E bf k n) (n + 110)) 110 5787 (yA E) :=
  z_met (by decide +kernel) rfl (by decide) (fun g C hR hin => by
    refine z_aload_n (m := 1) C dX5_init_0 0 rfl rfl ?_
    refine z_obj (m := 4) C we_17 we_18 we_19 (by decide) (by decide) dX5_init_1 rfl ?_
    refine z_aload_n (m := 5) C dX5_init_4 0 rfl rfl ?_
    refine z_new (m := 8) (ci := 3) (n2 := n + 1) (fs := [.null, .null, .int 0, .int 0]) C in_X3 tyX3 tyX3_ok rfl bl_X3 we_20 we_21 we_2 (by decide) (by decide) dX5_init_5 rfl rfl (fun b1 e1 => ?_)
    have f0 : b1 k = .inr (5, [.null, .null, .null, .int 0, .null, .null]) := by rw [e1, zu_n (by omega)]; exact hb
    have f1 : b1 n = .inr (3, [.null, .null, .int 0, .int 0]) := by rw [e1]; exact zu_s
    refine z_dup (m := 9) C dX5_init_8 rfl rfl ?_
    refine z_callN (m := 12) (n' := n + 16) (st := [.ref (E.2.2.2.2.1 + n), .ref (E.2.2.2.2.1 + k)]) C we_24 we_2 we_23 rfl (by decide +kernel) we_22 (by decide) (by decide) (Nat.le_of_ble_eq_true rfl) (c_X3 (by omega) f1 g.2.1) dX5_init_9 rfl (fun b2 e2 => ?_)
    have f2 : b2 k = .inr (5, [.null, .null, .null, .int 0, .null, .null]) := by rw [e2, mk_X3_lt (by omega) (by omega)]; exact f0
    have f3 : b2 n = .inr (3, fin_X3 E n (n + 1)) := by rw [e2, mk_X3_k]
    refine z_putF (m := 15) (ci := 5) (f := 0) C in_X5 tyX5 tyX5_ok nmX5 (by omega) f2 rfl (by decide) we_180 rfl rfl hin rfl (tyX5_ok 0 (by decide)) rfl rfl (Nat.le_of_ble_eq_true rfl) dX5_init_12 rfl (fun b3 e3 => ?_)
    have f4 : b3 k = .inr (5, [.ref (E.2.2.2.2.1 + n), .null, .null, .int 0, .null, .null]) := by rw [e3]; exact zu_s
    have f5 : b3 n = .inr (3, fin_X3 E n (n + 1)) := by rw [e3, zu_n (by omega)]; exact f3
    refine z_aload_n (m := 16) C dX5_init_15 0 rfl rfl ?_
    refine z_new (m := 19) (ci := 0) (n2 := n + 17) (fs := [.null, .int 0]) C in_X0 tyX0 tyX0_ok rfl bl_X0 we_140 we_141 we_5 (by decide) (by decide) dX5_init_16 rfl rfl (fun b4 e4 => ?_)
    have f6 : b4 k = .inr (5, [.ref (E.2.2.2.2.1 + n), .null, .null, .int 0, .null, .null]) := by rw [e4, zu_n (by omega)]; exact f4
    have f7 : b4 n = .inr (3, fin_X3 E n (n + 1)) := by rw [e4, zu_n (by omega)]; exact f5
    have f8 : b4 (n + 16) = .inr (0, [.null, .int 0]) := by rw [e4]; exact zu_s
    refine z_dup (m := 20) C dX5_init_19 rfl rfl ?_
    refine z_callN (m := 23) (n' := n + 82) (st := [.ref (E.2.2.2.2.1 + (n + 16)), .ref (E.2.2.2.2.1 + k)]) C we_144 we_5 we_143 rfl (by decide +kernel) we_142 (by decide) (by decide) (Nat.le_of_ble_eq_true rfl) (c_X0 (by omega) f8 g.2.1) dX5_init_20 rfl (fun b5 e5 => ?_)
    have f9 : b5 k = .inr (5, [.ref (E.2.2.2.2.1 + n), .null, .null, .int 0, .null, .null]) := by rw [e5, mk_X0_lt (by omega) (by omega)]; exact f6
    have f10 : b5 n = .inr (3, fin_X3 E n (n + 1)) := by rw [e5, mk_X0_lt (by omega) (by omega)]; exact f7
    refine z_putF (m := 26) (ci := 5) (f := 1) C in_X5 tyX5 tyX5_ok nmX5 (by omega) f9 rfl (by decide) we_181 rfl rfl hin rfl (tyX5_ok 1 (by decide)) rfl rfl (Nat.le_of_ble_eq_true rfl) dX5_init_23 rfl (fun b6 e6 => ?_)
    have f11 : b6 k = .inr (5, [.ref (E.2.2.2.2.1 + n), .ref (E.2.2.2.2.1 + (n + 16)), .null, .int 0, .null, .null]) := by rw [e6]; exact zu_s
    have f12 : b6 n = .inr (3, fin_X3 E n (n + 1)) := by rw [e6, zu_n (by omega)]; exact f10
    refine z_aload_n (m := 27) C dX5_init_26 0 rfl rfl ?_
    refine z_new (m := 30) (ci := 3) (n2 := n + 83) (fs := [.null, .null, .int 0, .int 0]) C in_X3 tyX3 tyX3_ok rfl bl_X3 we_20 we_21 we_2 (by decide) (by decide) dX5_init_27 rfl rfl (fun b7 e7 => ?_)
    have f13 : b7 k = .inr (5, [.ref (E.2.2.2.2.1 + n), .ref (E.2.2.2.2.1 + (n + 16)), .null, .int 0, .null, .null]) := by rw [e7, zu_n (by omega)]; exact f11
    have f14 : b7 n = .inr (3, fin_X3 E n (n + 1)) := by rw [e7, zu_n (by omega)]; exact f12
    have f15 : b7 (n + 82) = .inr (3, [.null, .null, .int 0, .int 0]) := by rw [e7]; exact zu_s
    refine z_dup (m := 31) C dX5_init_30 rfl rfl ?_
    refine z_callN (m := 34) (n' := n + 98) (st := [.ref (E.2.2.2.2.1 + (n + 82)), .ref (E.2.2.2.2.1 + k)]) C we_24 we_2 we_23 rfl (by decide +kernel) we_22 (by decide) (by decide) (Nat.le_of_ble_eq_true rfl) (c_X3 (by omega) f15 g.2.1) dX5_init_31 rfl (fun b8 e8 => ?_)
    have f16 : b8 k = .inr (5, [.ref (E.2.2.2.2.1 + n), .ref (E.2.2.2.2.1 + (n + 16)), .null, .int 0, .null, .null]) := by rw [e8, mk_X3_lt (by omega) (by omega)]; exact f13
    have f17 : b8 n = .inr (3, fin_X3 E n (n + 1)) := by rw [e8, mk_X3_lt (by omega) (by omega)]; exact f14
    have f18 : b8 (n + 82) = .inr (3, fin_X3 E (n + 82) (n + 83)) := by rw [e8, mk_X3_k]
    refine z_putF (m := 37) (ci := 5) (f := 2) C in_X5 tyX5 tyX5_ok nmX5 (by omega) f16 rfl (by decide) we_182 rfl rfl hin rfl (tyX5_ok 2 (by decide)) rfl rfl (Nat.le_of_ble_eq_true rfl) dX5_init_34 rfl (fun b9 e9 => ?_)
    have f19 : b9 k = .inr (5, [.ref (E.2.2.2.2.1 + n), .ref (E.2.2.2.2.1 + (n + 16)), .ref (E.2.2.2.2.1 + (n + 82)), .int 0, .null, .null]) := by rw [e9]; exact zu_s
    have f20 : b9 n = .inr (3, fin_X3 E n (n + 1)) := by rw [e9, zu_n (by omega)]; exact f17
    have f21 : b9 (n + 82) = .inr (3, fin_X3 E (n + 82) (n + 83)) := by rw [e9, zu_n (by omega)]; exact f18
    refine z_aload_n (m := 38) C dX5_init_37 0 rfl rfl ?_
    refine z_iconst (m := 39) C (0 : Int32) dX5_init_38 (by decide) rfl ?_
    refine z_put (m := 42) (ci := 5) (f := 3) C in_X5 tyX5 tyX5_ok nmX5 (by omega) f19 rfl (by decide) we_183 rfl rfl (tyX5_ok 3 (by decide)) (by decide) rfl (Nat.le_of_ble_eq_true rfl) dX5_init_39 rfl (fun b10 e10 => ?_)
    have f22 : b10 k = .inr (5, [.ref (E.2.2.2.2.1 + n), .ref (E.2.2.2.2.1 + (n + 16)), .ref (E.2.2.2.2.1 + (n + 82)), .int 0, .null, .null]) := by rw [e10]; exact zu_s
    have f23 : b10 n = .inr (3, fin_X3 E n (n + 1)) := by rw [e10, zu_n (by omega)]; exact f20
    have f24 : b10 (n + 82) = .inr (3, fin_X3 E (n + 82) (n + 83)) := by rw [e10, zu_n (by omega)]; exact f21
    refine z_aload_n (m := 43) C dX5_init_42 0 rfl rfl ?_
    refine z_new (m := 46) (ci := 4) (n2 := n + 99) (fs := [.null, .int 0, .int 0, .null]) C in_X4 tyX4 tyX4_ok rfl bl_X4 we_157 we_158 we_6 (by decide) (by decide) dX5_init_43 rfl rfl (fun b11 e11 => ?_)
    have f25 : b11 k = .inr (5, [.ref (E.2.2.2.2.1 + n), .ref (E.2.2.2.2.1 + (n + 16)), .ref (E.2.2.2.2.1 + (n + 82)), .int 0, .null, .null]) := by rw [e11, zu_n (by omega)]; exact f22
    have f26 : b11 n = .inr (3, fin_X3 E n (n + 1)) := by rw [e11, zu_n (by omega)]; exact f23
    have f27 : b11 (n + 82) = .inr (3, fin_X3 E (n + 82) (n + 83)) := by rw [e11, zu_n (by omega)]; exact f24
    have f28 : b11 (n + 98) = .inr (4, [.null, .int 0, .int 0, .null]) := by rw [e11]; exact zu_s
    refine z_dup (m := 47) C dX5_init_46 rfl rfl ?_
    refine z_callN (m := 50) (n' := n + 101) (st := [.ref (E.2.2.2.2.1 + (n + 98)), .ref (E.2.2.2.2.1 + k)]) C we_161 we_6 we_160 rfl (by decide +kernel) we_159 (by decide) (by decide) (Nat.le_of_ble_eq_true rfl) (c_X4 (by omega) f28 g.2.1) dX5_init_47 rfl (fun b12 e12 => ?_)
    have f29 : b12 k = .inr (5, [.ref (E.2.2.2.2.1 + n), .ref (E.2.2.2.2.1 + (n + 16)), .ref (E.2.2.2.2.1 + (n + 82)), .int 0, .null, .null]) := by rw [e12, mk_X4_lt (by omega) (by omega)]; exact f25
    have f30 : b12 n = .inr (3, fin_X3 E n (n + 1)) := by rw [e12, mk_X4_lt (by omega) (by omega)]; exact f26
    have f31 : b12 (n + 82) = .inr (3, fin_X3 E (n + 82) (n + 83)) := by rw [e12, mk_X4_lt (by omega) (by omega)]; exact f27
    refine z_putF (m := 53) (ci := 5) (f := 4) C in_X5 tyX5 tyX5_ok nmX5 (by omega) f29 rfl (by decide) we_184 rfl rfl hin rfl (tyX5_ok 4 (by decide)) rfl rfl (Nat.le_of_ble_eq_true rfl) dX5_init_50 rfl (fun b13 e13 => ?_)
    have f32 : b13 k = .inr (5, [.ref (E.2.2.2.2.1 + n), .ref (E.2.2.2.2.1 + (n + 16)), .ref (E.2.2.2.2.1 + (n + 82)), .int 0, .ref (E.2.2.2.2.1 + (n + 98)), .null]) := by rw [e13]; exact zu_s
    have f33 : b13 n = .inr (3, fin_X3 E n (n + 1)) := by rw [e13, zu_n (by omega)]; exact f30
    have f34 : b13 (n + 82) = .inr (3, fin_X3 E (n + 82) (n + 83)) := by rw [e13, zu_n (by omega)]; exact f31
    refine z_aload_n (m := 54) C dX5_init_53 0 rfl rfl ?_
    refine z_new (m := 57) (ci := 2) (n2 := n + 102) (fs := [.int 0, .int 0, .int 0, .int 0, .int 0, .int 0, .int 0, .null, .null, .null, .null, .null, .null, .null, .null, .int 0]) C in_X2 tyX2 tyX2_ok rfl bl_X2 we_178 we_62 we_4 (by decide) (by decide) dX5_init_54 rfl rfl (fun b14 e14 => ?_)
    have f35 : b14 k = .inr (5, [.ref (E.2.2.2.2.1 + n), .ref (E.2.2.2.2.1 + (n + 16)), .ref (E.2.2.2.2.1 + (n + 82)), .int 0, .ref (E.2.2.2.2.1 + (n + 98)), .null]) := by rw [e14, zu_n (by omega)]; exact f32
    have f36 : b14 n = .inr (3, fin_X3 E n (n + 1)) := by rw [e14, zu_n (by omega)]; exact f33
    have f37 : b14 (n + 82) = .inr (3, fin_X3 E (n + 82) (n + 83)) := by rw [e14, zu_n (by omega)]; exact f34
    have f38 : b14 (n + 101) = .inr (2, [.int 0, .int 0, .int 0, .int 0, .int 0, .int 0, .int 0, .null, .null, .null, .null, .null, .null, .null, .null, .int 0]) := by rw [e14]; exact zu_s
    refine z_dup (m := 58) C dX5_init_57 rfl rfl ?_
    refine z_callN (m := 61) (n' := n + 110) (st := [.ref (E.2.2.2.2.1 + (n + 101)), .ref (E.2.2.2.2.1 + k)]) C we_65 we_4 we_64 rfl (by decide +kernel) we_179 (by decide) (by decide) (Nat.le_of_ble_eq_true rfl) (c_X2 (by omega) f38 g.2.1) dX5_init_58 rfl (fun b15 e15 => ?_)
    have f39 : b15 k = .inr (5, [.ref (E.2.2.2.2.1 + n), .ref (E.2.2.2.2.1 + (n + 16)), .ref (E.2.2.2.2.1 + (n + 82)), .int 0, .ref (E.2.2.2.2.1 + (n + 98)), .null]) := by rw [e15, mk_X2_lt (by omega) (by omega)]; exact f35
    have f40 : b15 n = .inr (3, fin_X3 E n (n + 1)) := by rw [e15, mk_X2_lt (by omega) (by omega)]; exact f36
    have f41 : b15 (n + 82) = .inr (3, fin_X3 E (n + 82) (n + 83)) := by rw [e15, mk_X2_lt (by omega) (by omega)]; exact f37
    refine z_putF (m := 64) (ci := 5) (f := 5) C in_X5 tyX5 tyX5_ok nmX5 (by omega) f39 rfl (by decide) we_185 rfl rfl hin rfl (tyX5_ok 5 (by decide)) rfl rfl (Nat.le_of_ble_eq_true rfl) dX5_init_61 rfl (fun b16 e16 => ?_)
    have f42 : b16 k = .inr (5, [.ref (E.2.2.2.2.1 + n), .ref (E.2.2.2.2.1 + (n + 16)), .ref (E.2.2.2.2.1 + (n + 82)), .int 0, .ref (E.2.2.2.2.1 + (n + 98)), .ref (E.2.2.2.2.1 + (n + 101))]) := by rw [e16]; exact zu_s
    have f43 : b16 n = .inr (3, fin_X3 E n (n + 1)) := by rw [e16, zu_n (by omega)]; exact f40
    have f44 : b16 (n + 82) = .inr (3, fin_X3 E (n + 82) (n + 83)) := by rw [e16, zu_n (by omega)]; exact f41
    exact z_ret C hR (by subst e16 e15 e14 e13 e12 e11 e10 e9 e8 e7 e6 e5 e4 e3 e2 e1; rfl) rfl dX5_init_64) l
