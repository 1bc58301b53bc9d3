/-! X1_putIn X1_questionSize X1_sizeOf X1_wantedPlaceOf X1_wantedAt X1_wantedSize X1_weightOf X2_allLookUps X2_caughtSize X2_cost X2_isCaught X2_findBounds X2_frontPlaceOf X2_highOf X2_hasRest X2_nextInTurn X2_weighedBounds X2_isOver X2_nextByBounds X2_nextByRest -/
def lX1_putIn_54 (o : Nat) : Nat → Wd → Int32 → Int32 → Int32 → Int32 → Int32 → Int32 → Int32 → Option (Int32 × Wd)
  | 0, _, _, _, _, _, _, _, _ => none
  | n + 1, w, x1, x2, x3, x4, x5, x6, x7 =>
    if x7 ≤ x5 then
      (fX5_put w (o + 2) 240 (x6 + x5) x2).bind fun w5 =>
      (fX5_put w5 (o + 3) 6 x1 (x4 + 1)).bind fun w6 =>
      (fX5_put w6 (o + 1) 360 ((x1 * 60) + x2) x3).bind fun w7 =>
      some (x5, w7)
    else
      (fX5_at w (o + 2) 240 ((x6 + x7) - 1)).bind fun v8 =>
      (fX5_put w (o + 2) 240 (x6 + x7) v8).bind fun w9 =>
      lX1_putIn_54 o n w9 x1 x2 x3 x4 x5 x6 (x7 + (-1))
set_option maxRecDepth 4000 in
theorem clX1_putIn_54 {g : Gx} {E : Ex} (C : CC g E cX1_putIn 8 RX1 4 90) (hR : RT g (some .int)) {o : Nat} (hO : shO E.2.2.2.2.2.1 o)  : ∀ (n : Nat) (w : Wd) (x1 : Int32) (x2 : Int32) (x3 : Int32) (x4 : Int32) (x5 : Int32) (x6 : Int32) (x7 : Int32), YO g E 8 (QI g E) (lX1_putIn_54 o n w x1 x2 x3 x4 x5 x6 x7) w 54 [(0, .ref (E.2.2.2.2.1 + o)), (1, .int x1), (2, .int x2), (3, .int x3), (4, .int x4), (5, .int x5), (6, .int x6), (7, .int x7)] [] := by
  intro n
  induction n with
  | zero => intro w x1 x2 x3 x4 x5 x6 x7; exact y_no
  | succ n ih =>
    intro w x1 x2 x3 x4 x5 x6 x7
    rw [lX1_putIn_54]
    refine y_iload (n := 56) C dX1_putIn_54 7 rfl rfl ?_
    refine y_iload (n := 58) C dX1_putIn_56 5 rfl rfl ?_
    refine y_icmp_le (tgt := 93) (n := 61) C dX1_putIn_58 (by decide) rfl (fun h4 => ?_) (fun h4 => ?_)
    · refine y_aload_n (n := 94) C dX1_putIn_93 0 rfl rfl ?_
      refine y_get (ci := 1) (f := 1) (n := 97) C in_X1 hO.1 rfl (by decide) wd_33 rfl rfl dX1_putIn_94 rfl ?_
      refine y_iload (n := 99) C dX1_putIn_97 6 rfl rfl ?_
      refine y_iload (n := 101) C dX1_putIn_99 5 rfl rfl ?_
      refine y_iadd (n := 102) C dX1_putIn_101 rfl ?_
      refine y_iload_n (n := 103) C dX1_putIn_102 2 rfl rfl ?_
      refine y_cv (n := 106) C (fun r hr H locs la hP hS hl => y_runSN (st := []) C ky_X5_put wd_505 ⟨Nat.le_of_ble_eq_true rfl, Nat.le_of_ble_eq_true rfl⟩ (mX5_put hO.2.2.1 w (x6 + x5) x2 g.2.1 r hr) rfl (Nat.le_of_ble_eq_true rfl) rfl dX1_putIn_103 hP hS hl) rfl (fun w5 hw5 => ?_)
      refine y_aload_n (n := 107) C dX1_putIn_106 0 rfl rfl ?_
      refine y_get (ci := 1) (f := 2) (n := 110) C in_X1 hO.1 rfl (by decide) wd_34 rfl rfl dX1_putIn_107 rfl ?_
      refine y_iload_n (n := 111) C dX1_putIn_110 1 rfl rfl ?_
      refine y_iload (n := 113) C dX1_putIn_111 4 rfl rfl ?_
      refine y_iconst (n := 114) C (1 : Int32) dX1_putIn_113 (by decide) rfl ?_
      refine y_iadd (n := 115) C dX1_putIn_114 rfl ?_
      refine y_cv (n := 118) C (fun r hr H locs la hP hS hl => y_runSN (st := []) C ky_X5_put wd_505 ⟨Nat.le_of_ble_eq_true rfl, Nat.le_of_ble_eq_true rfl⟩ (mX5_put hO.2.2.2.1 w5 x1 (x4 + 1) g.2.1 r hr) rfl (Nat.le_of_ble_eq_true rfl) rfl dX1_putIn_115 hP hS hl) rfl (fun w6 hw6 => ?_)
      refine y_aload_n (n := 119) C dX1_putIn_118 0 rfl rfl ?_
      refine y_get (ci := 1) (f := 0) (n := 122) C in_X1 hO.1 rfl (by decide) wd_32 rfl rfl dX1_putIn_119 rfl ?_
      refine y_iload_n (n := 123) C dX1_putIn_122 1 rfl rfl ?_
      refine y_bipush (n := 125) C (60 : Int32) dX1_putIn_123 (by decide) rfl ?_
      refine y_imul (n := 126) C dX1_putIn_125 rfl ?_
      refine y_iload_n (n := 127) C dX1_putIn_126 2 rfl rfl ?_
      refine y_iadd (n := 128) C dX1_putIn_127 rfl ?_
      refine y_iload_n (n := 129) C dX1_putIn_128 3 rfl rfl ?_
      refine y_cv (n := 132) C (fun r hr H locs la hP hS hl => y_runSN (st := []) C ky_X5_put wd_505 ⟨Nat.le_of_ble_eq_true rfl, Nat.le_of_ble_eq_true rfl⟩ (mX5_put hO.2.1 w6 ((x1 * 60) + x2) x3 g.2.1 r hr) rfl (Nat.le_of_ble_eq_true rfl) rfl dX1_putIn_129 hP hS hl) rfl (fun w7 hw7 => ?_)
      refine y_iload (n := 134) C dX1_putIn_132 5 rfl rfl ?_
      exact y_ri C hR dX1_putIn_134
    · refine y_aload_n (n := 62) C dX1_putIn_61 0 rfl rfl ?_
      refine y_get (ci := 1) (f := 1) (n := 65) C in_X1 hO.1 rfl (by decide) wd_33 rfl rfl dX1_putIn_62 rfl ?_
      refine y_iload (n := 67) C dX1_putIn_65 6 rfl rfl ?_
      refine y_iload (n := 69) C dX1_putIn_67 7 rfl rfl ?_
      refine y_iadd (n := 70) C dX1_putIn_69 rfl ?_
      refine y_aload_n (n := 71) C dX1_putIn_70 0 rfl rfl ?_
      refine y_get (ci := 1) (f := 1) (n := 74) C in_X1 hO.1 rfl (by decide) wd_33 rfl rfl dX1_putIn_71 rfl ?_
      refine y_iload (n := 76) C dX1_putIn_74 6 rfl rfl ?_
      refine y_iload (n := 78) C dX1_putIn_76 7 rfl rfl ?_
      refine y_iadd (n := 79) C dX1_putIn_78 rfl ?_
      refine y_iconst (n := 80) C (1 : Int32) dX1_putIn_79 (by decide) rfl ?_
      refine y_isub (n := 81) C dX1_putIn_80 rfl ?_
      refine y_cp (n := 84) C (fun r hr H locs la hP hS hl => y_runSN (st := [.int (x6 + x7), .ref (E.2.2.2.2.1 + (o + 2))]) C ky_X5_at wd_257 ⟨Nat.le_of_ble_eq_true rfl, Nat.le_of_ble_eq_true rfl⟩ (mX5_at hO.2.2.1 w ((x6 + x7) - 1) g.2.1 r hr) rfl (Nat.le_of_ble_eq_true rfl) rfl dX1_putIn_81 hP hS hl) rfl (fun v8 hv8 => ?_)
      refine y_cv (n := 87) C (fun r hr H locs la hP hS hl => y_runSN (st := []) C ky_X5_put wd_505 ⟨Nat.le_of_ble_eq_true rfl, Nat.le_of_ble_eq_true rfl⟩ (mX5_put hO.2.2.1 w (x6 + x7) v8 g.2.1 r hr) rfl (Nat.le_of_ble_eq_true rfl) rfl dX1_putIn_84 hP hS hl) rfl (fun w9 hw9 => ?_)
      refine y_iinc (n := 90) (v := x7 + (-1)) (ls' := [(7, .int (x7 + (-1))), (0, .ref (E.2.2.2.2.1 + o)), (1, .int x1), (2, .int x2), (3, .int x3), (4, .int x4), (5, .int x5), (6, .int x6)]) C dX1_putIn_87 7 rfl rfl (by decide) rfl rfl ?_
      refine y_goto (tgt := 54) C dX1_putIn_90 (by decide) ?_
      refine y_ls [1, 2, 3, 4, 5, 6, 7, 0] rfl ?_
      exact ih w9 x1 x2 x3 x4 x5 x6 (x7 + (-1))
def lX1_putIn_19 (o : Nat) : Nat → Wd → Int32 → Int32 → Int32 → Int32 → Int32 → Option (Int32 × Wd)
  | 0, _, _, _, _, _, _ => none
  | n + 1, w, x1, x2, x3, x4, x5 =>
    if x4 ≤ x5 then
      lX1_putIn_54 o 4096 w x1 x2 x3 x4 x5 (x1 * 40) x4
    else
      (fX1_standsAhead w o x1 x5 x2 x3).bind fun v10 =>
      if v10 = 0 then
        lX1_putIn_54 o 4096 w x1 x2 x3 x4 x5 (x1 * 40) x4
      else
        lX1_putIn_19 o n w x1 x2 x3 x4 (x5 + 1)
set_option maxRecDepth 4000 in
theorem clX1_putIn_19 {g : Gx} {E : Ex} (C : CC g E cX1_putIn 8 RX1 4 90) (hR : RT g (some .int)) {o : Nat} (hO : shO E.2.2.2.2.2.1 o)  : ∀ (n : Nat) (w : Wd) (x1 : Int32) (x2 : Int32) (x3 : Int32) (x4 : Int32) (x5 : Int32), YO g E 8 (QI g E) (lX1_putIn_19 o n w x1 x2 x3 x4 x5) w 19 [(0, .ref (E.2.2.2.2.1 + o)), (1, .int x1), (2, .int x2), (3, .int x3), (4, .int x4), (5, .int x5)] [] := by
  intro n
  induction n with
  | zero => intro w x1 x2 x3 x4 x5; exact y_no
  | succ n ih =>
    intro w x1 x2 x3 x4 x5
    rw [lX1_putIn_19]
    refine y_iload (n := 21) C dX1_putIn_19 5 rfl rfl ?_
    refine y_iload (n := 23) C dX1_putIn_21 4 rfl rfl ?_
    refine y_icmp_ge (tgt := 44) (n := 26) C dX1_putIn_23 (by decide) rfl (fun h3 => ?_) (fun h3 => ?_)
    · refine y_iload_n (n := 45) C dX1_putIn_44 1 rfl rfl ?_
      refine y_bipush (n := 47) C (40 : Int32) dX1_putIn_45 (by decide) rfl ?_
      refine y_imul (n := 48) C dX1_putIn_47 rfl ?_
      refine y_istore (n := 50) (ls' := [(6, .int (x1 * 40)), (0, .ref (E.2.2.2.2.1 + o)), (1, .int x1), (2, .int x2), (3, .int x3), (4, .int x4), (5, .int x5)]) C dX1_putIn_48 (by decide) rfl rfl ?_
      refine y_iload (n := 52) C dX1_putIn_50 5 rfl rfl ?_
      refine y_istore (n := 54) (ls' := [(7, .int x4), (6, .int (x1 * 40)), (0, .ref (E.2.2.2.2.1 + o)), (1, .int x1), (2, .int x2), (3, .int x3), (4, .int x4), (5, .int x5)]) C dX1_putIn_52 (by decide) rfl rfl ?_
      refine y_ls [2, 3, 4, 5, 6, 7, 1, 0] rfl ?_
      exact clX1_putIn_54 C hR hO 4096 w x1 x2 x3 x4 x5 (x1 * 40) x4
    · refine y_aload_n (n := 27) C dX1_putIn_26 0 rfl rfl ?_
      refine y_iload_n (n := 28) C dX1_putIn_27 1 rfl rfl ?_
      refine y_iload (n := 30) C dX1_putIn_28 5 rfl rfl ?_
      refine y_iload_n (n := 31) C dX1_putIn_30 2 rfl rfl ?_
      refine y_iload_n (n := 32) C dX1_putIn_31 3 rfl rfl ?_
      refine y_cp (n := 35) C (fun r hr H locs la hP hS hl => y_runV (ci := 1) (st := []) C ky_X1_standsAhead wd_506 ⟨Nat.le_of_ble_eq_true rfl, Nat.le_of_ble_eq_true rfl⟩ hO.1 rfl (mX1_standsAhead hO w x1 x5 x2 x3 g.2.1 r hr) rfl (Nat.le_of_ble_eq_true rfl) rfl dX1_putIn_32 hP hS hl) rfl (fun v10 hv10 => ?_)
      refine y_if_eq (tgt := 44) (n := 38) C dX1_putIn_35 (by decide) rfl (fun h11 => ?_) (fun h11 => ?_)
      · refine y_iload_n (n := 45) C dX1_putIn_44 1 rfl rfl ?_
        refine y_bipush (n := 47) C (40 : Int32) dX1_putIn_45 (by decide) rfl ?_
        refine y_imul (n := 48) C dX1_putIn_47 rfl ?_
        refine y_istore (n := 50) (ls' := [(6, .int (x1 * 40)), (0, .ref (E.2.2.2.2.1 + o)), (1, .int x1), (2, .int x2), (3, .int x3), (4, .int x4), (5, .int x5)]) C dX1_putIn_48 (by decide) rfl rfl ?_
        refine y_iload (n := 52) C dX1_putIn_50 5 rfl rfl ?_
        refine y_istore (n := 54) (ls' := [(7, .int x4), (6, .int (x1 * 40)), (0, .ref (E.2.2.2.2.1 + o)), (1, .int x1), (2, .int x2), (3, .int x3), (4, .int x4), (5, .int x5)]) C dX1_putIn_52 (by decide) rfl rfl ?_
        refine y_ls [2, 3, 4, 5, 6, 7, 1, 0] rfl ?_
        exact clX1_putIn_54 C hR hO 4096 w x1 x2 x3 x4 x5 (x1 * 40) x4
      · refine y_iinc (n := 41) (v := x5 + 1) (ls' := [(5, .int (x5 + 1)), (0, .ref (E.2.2.2.2.1 + o)), (1, .int x1), (2, .int x2), (3, .int x3), (4, .int x4)]) C dX1_putIn_38 5 rfl rfl (by decide) rfl rfl ?_
        refine y_goto (tgt := 19) C dX1_putIn_41 (by decide) ?_
        refine y_ls [1, 2, 3, 4, 5, 0] rfl ?_
        exact ih w x1 x2 x3 x4 (x5 + 1)
def fX1_putIn (w : Wd) (o : Nat) (a1 : Int32) (a2 : Int32) (a3 : Int32) : Option (Int32 × Wd) :=
  (fX1_takeOut w o a1 a2).bind fun w1 =>
  (fX5_at w1 (o + 3) 6 a1).bind fun v2 =>
  lX1_putIn_19 o 4096 w1 a1 a2 a3 v2 0
set_option maxRecDepth 4000 in
theorem eX1_putIn {g : Gx} {E : Ex} (C : CC g E cX1_putIn 8 RX1 4 90) (hR : RT g (some .int)) {o : Nat} (hO : shO E.2.2.2.2.2.1 o) (w : Wd) (a1 : Int32) (a2 : Int32) (a3 : Int32) : YO g E 8 (QI g E) (fX1_putIn w o a1 a2 a3) w 0 [(0, .ref (E.2.2.2.2.1 + o)), (1, .int a1), (2, .int a2), (3, .int a3)] [] := by
  unfold fX1_putIn
  refine y_aload_n (n := 1) C dX1_putIn_0 0 rfl rfl ?_
  refine y_iload_n (n := 2) C dX1_putIn_1 1 rfl rfl ?_
  refine y_iload_n (n := 3) C dX1_putIn_2 2 rfl rfl ?_
  refine y_cv (n := 6) C (fun r hr H locs la hP hS hl => y_runV (ci := 1) (st := []) C ky_X1_takeOut wd_501 ⟨Nat.le_of_ble_eq_true rfl, Nat.le_of_ble_eq_true rfl⟩ hO.1 rfl (mX1_takeOut hO w a1 a2 g.2.1 r hr) rfl (Nat.le_of_ble_eq_true rfl) rfl dX1_putIn_3 hP hS hl) rfl (fun w1 hw1 => ?_)
  refine y_aload_n (n := 7) C dX1_putIn_6 0 rfl rfl ?_
  refine y_get (ci := 1) (f := 2) (n := 10) C in_X1 hO.1 rfl (by decide) wd_34 rfl rfl dX1_putIn_7 rfl ?_
  refine y_iload_n (n := 11) C dX1_putIn_10 1 rfl rfl ?_
  refine y_cp (n := 14) C (fun r hr H locs la hP hS hl => y_runSN (st := []) C ky_X5_at wd_257 ⟨Nat.le_of_ble_eq_true rfl, Nat.le_of_ble_eq_true rfl⟩ (mX5_at hO.2.2.2.1 w1 a1 g.2.1 r hr) rfl (Nat.le_of_ble_eq_true rfl) rfl dX1_putIn_11 hP hS hl) rfl (fun v2 hv2 => ?_)
  refine y_istore (n := 16) (ls' := [(4, .int v2), (0, .ref (E.2.2.2.2.1 + o)), (1, .int a1), (2, .int a2), (3, .int a3)]) C dX1_putIn_14 (by decide) rfl rfl ?_
  refine y_iconst (n := 17) C (0 : Int32) dX1_putIn_16 (by decide) rfl ?_
  refine y_istore (n := 19) (ls' := [(5, .int 0), (4, .int v2), (0, .ref (E.2.2.2.2.1 + o)), (1, .int a1), (2, .int a2), (3, .int a3)]) C dX1_putIn_17 (by decide) rfl rfl ?_
  refine y_ls [2, 3, 4, 5, 1, 0] rfl ?_
  exact clX1_putIn_19 C hR hO 4096 w1 a1 a2 a3 v2 0
theorem mX1_putIn {E : Ex} {o : Nat} (hO : shO E.2.2.2.2.2.1 o) (w : Wd) (a1 : Int32) (a2 : Int32) (a3 : Int32) (l : Launch) : MI l yX1_putIn cX1_putIn 8 (some .int) { frames := 4, cells := 0, slots := 0, locals := 90 } E [.ref (E.2.2.2.2.1 + o), .int a1, .int a2, .int a3] w (fX1_putIn w o a1 a2 a3) :=
  y_met (Qc := yQi E) (by decide +kernel) (Nat.le_of_ble_eq_true rfl) (fun g C hR => eX1_putIn C hR hO w a1 a2 a3) l
def lX1_questionSize_4 (o : Nat) : Nat → Wd → Int32 → Int32 → Option (Int32)
  | 0, _, _, _ => none
  | n + 1, w, x1, x2 =>
    if 6 ≤ x2 then
      some x1
    else
      (fX1_isAsked w o x2).bind fun v2 =>
      (fX5_oneIf w v2).bind fun v3 =>
      lX1_questionSize_4 o n w (x1 + v3) (x2 + 1)
set_option maxRecDepth 4000 in
theorem clX1_questionSize_4 {g : Gx} {E : Ex} (C : CC g E cX1_questionSize 3 RX1 2 42) (hR : RT g (some .int)) {o : Nat} (hO : shO E.2.2.2.2.2.1 o) (w : Wd)  : ∀ (n : Nat) (x1 : Int32) (x2 : Int32), YO g E 3 (QP g E w) (lX1_questionSize_4 o n w x1 x2) w 4 [(0, .ref (E.2.2.2.2.1 + o)), (1, .int x1), (2, .int x2)] [] := by
  intro n
  induction n with
  | zero => intro x1 x2; exact y_no
  | succ n ih =>
    intro x1 x2
    rw [lX1_questionSize_4]
    refine y_iload_n (n := 5) C dX1_questionSize_4 2 rfl rfl ?_
    refine y_bipush (n := 7) C (6 : Int32) dX1_questionSize_5 (by decide) rfl ?_
    refine y_icmp_ge (tgt := 27) (n := 10) C dX1_questionSize_7 (by decide) rfl (fun h1 => ?_) (fun h1 => ?_)
    · refine y_iload_n (n := 28) C dX1_questionSize_27 1 rfl rfl ?_
      exact y_rp C hR dX1_questionSize_28
    · refine y_iload_n (n := 11) C dX1_questionSize_10 1 rfl rfl ?_
      refine y_aload_n (n := 12) C dX1_questionSize_11 0 rfl rfl ?_
      refine y_iload_n (n := 13) C dX1_questionSize_12 2 rfl rfl ?_
      refine y_cp (n := 16) C (fun r hr H locs la hP hS hl => y_runV (ci := 1) (st := [.int x1]) C ky_X1_isAsked wd_299 ⟨Nat.le_of_ble_eq_true rfl, Nat.le_of_ble_eq_true rfl⟩ hO.1 rfl (mX1_isAsked hO w x2 g.2.1 r hr) rfl (Nat.le_of_ble_eq_true rfl) rfl dX1_questionSize_13 hP hS hl) rfl (fun v2 hv2 => ?_)
      refine y_cp (n := 19) C (fun r hr H locs la hP hS hl => y_runSN (st := [.int x1]) C ky_X5_oneIf wd_260 ⟨Nat.le_of_ble_eq_true rfl, Nat.le_of_ble_eq_true rfl⟩ (mX5_oneIf w v2 g.2.1 r hr) rfl (Nat.le_of_ble_eq_true rfl) rfl dX1_questionSize_16 hP hS hl) rfl (fun v3 hv3 => ?_)
      refine y_iadd (n := 20) C dX1_questionSize_19 rfl ?_
      refine y_istore_n (n := 21) (ls' := [(1, .int (x1 + v3)), (0, .ref (E.2.2.2.2.1 + o)), (2, .int x2)]) C dX1_questionSize_20 (by decide) rfl rfl ?_
      refine y_iinc (n := 24) (v := x2 + 1) (ls' := [(2, .int (x2 + 1)), (1, .int (x1 + v3)), (0, .ref (E.2.2.2.2.1 + o))]) C dX1_questionSize_21 2 rfl rfl (by decide) rfl rfl ?_
      refine y_goto (tgt := 4) C dX1_questionSize_24 (by decide) ?_
      refine y_ls [2, 1, 0] rfl ?_
      exact ih (x1 + v3) (x2 + 1)
def fX1_questionSize (w : Wd) (o : Nat)  : Option (Int32) :=
  lX1_questionSize_4 o 4096 w 0 0
set_option maxRecDepth 4000 in
theorem eX1_questionSize {g : Gx} {E : Ex} (C : CC g E cX1_questionSize 3 RX1 2 42) (hR : RT g (some .int)) {o : Nat} (hO : shO E.2.2.2.2.2.1 o) (w : Wd)  : YO g E 3 (QP g E w) (fX1_questionSize w o) w 0 [(0, .ref (E.2.2.2.2.1 + o))] [] := by
  unfold fX1_questionSize
  refine y_iconst (n := 1) C (0 : Int32) dX1_questionSize_0 (by decide) rfl ?_
  refine y_istore_n (n := 2) (ls' := [(1, .int 0), (0, .ref (E.2.2.2.2.1 + o))]) C dX1_questionSize_1 (by decide) rfl rfl ?_
  refine y_iconst (n := 3) C (0 : Int32) dX1_questionSize_2 (by decide) rfl ?_
  refine y_istore_n (n := 4) (ls' := [(2, .int 0), (1, .int 0), (0, .ref (E.2.2.2.2.1 + o))]) C dX1_questionSize_3 (by decide) rfl rfl ?_
  refine y_ls [2, 1, 0] rfl ?_
  exact clX1_questionSize_4 C hR hO w 4096 0 0
theorem mX1_questionSize {E : Ex} {o : Nat} (hO : shO E.2.2.2.2.2.1 o) (w : Wd)  (l : Launch) : MP l yX1_questionSize cX1_questionSize 3 (some .int) { frames := 2, cells := 0, slots := 0, locals := 42 } E [.ref (E.2.2.2.2.1 + o)] w (fX1_questionSize w o) :=
  y_met (Qc := fun r => yQi E (r, w)) (by decide +kernel) (Nat.le_of_ble_eq_true rfl) (fun g C hR => eX1_questionSize C hR hO w ) l
def fX1_sizeOf (w : Wd) (o : Nat) (a1 : Int32) : Option (Int32) :=
  (fX5_at w (o + 3) 6 a1).bind fun v1 =>
  some v1
set_option maxRecDepth 4000 in
theorem eX1_sizeOf {g : Gx} {E : Ex} (C : CC g E cX1_sizeOf 2 RX1 1 21) (hR : RT g (some .int)) {o : Nat} (hO : shO E.2.2.2.2.2.1 o) (w : Wd) (a1 : Int32) : YO g E 2 (QP g E w) (fX1_sizeOf w o a1) w 0 [(0, .ref (E.2.2.2.2.1 + o)), (1, .int a1)] [] := by
  unfold fX1_sizeOf
  refine y_aload_n (n := 1) C dX1_sizeOf_0 0 rfl rfl ?_
  refine y_get (ci := 1) (f := 2) (n := 4) C in_X1 hO.1 rfl (by decide) wd_34 rfl rfl dX1_sizeOf_1 rfl ?_
  refine y_iload_n (n := 5) C dX1_sizeOf_4 1 rfl rfl ?_
  refine y_cp (n := 8) C (fun r hr H locs la hP hS hl => y_runSN (st := []) C ky_X5_at wd_257 ⟨Nat.le_of_ble_eq_true rfl, Nat.le_of_ble_eq_true rfl⟩ (mX5_at hO.2.2.2.1 w a1 g.2.1 r hr) rfl (Nat.le_of_ble_eq_true rfl) rfl dX1_sizeOf_5 hP hS hl) rfl (fun v1 hv1 => ?_)
  exact y_rp C hR dX1_sizeOf_8
theorem mX1_sizeOf {E : Ex} {o : Nat} (hO : shO E.2.2.2.2.2.1 o) (w : Wd) (a1 : Int32) (l : Launch) : MP l yX1_sizeOf cX1_sizeOf 2 (some .int) { frames := 1, cells := 0, slots := 0, locals := 21 } E [.ref (E.2.2.2.2.1 + o), .int a1] w (fX1_sizeOf w o a1) :=
  y_met (Qc := fun r => yQi E (r, w)) (by decide +kernel) (Nat.le_of_ble_eq_true rfl) (fun g C hR => eX1_sizeOf C hR hO w a1) l
def lX1_wantedPlaceOf_22 (o : Nat) : Nat → Wd → Int32 → Int32 → Int32 → Int32 → Option (Int32)
  | 0, _, _, _, _, _ => none
  | n + 1, w, x1, x2, x3, x4 =>
    if 60 ≤ x4 then
      if (w.1 o 6) ≤ x3 then
        some (-5)
      else
        some x3
    else
      (fX1_isDeleted w o x4).bind fun v6 =>
      if v6 = 0 then
        (fX1_valueOf w o x4).bind fun v8 =>
        if x2 < v8 then
          lX1_wantedPlaceOf_22 o n w x1 x2 (x3 + 1) (x4 + 1)
        else
          if v8 = x2 then
            if x1 ≤ x4 then
              lX1_wantedPlaceOf_22 o n w x1 x2 x3 (x4 + 1)
            else
              lX1_wantedPlaceOf_22 o n w x1 x2 (x3 + 1) (x4 + 1)
          else
            lX1_wantedPlaceOf_22 o n w x1 x2 x3 (x4 + 1)
      else
        if x2 < 0 then
          lX1_wantedPlaceOf_22 o n w x1 x2 (x3 + 1) (x4 + 1)
        else
          if 0 = x2 then
            if x1 ≤ x4 then
              lX1_wantedPlaceOf_22 o n w x1 x2 x3 (x4 + 1)
            else
              lX1_wantedPlaceOf_22 o n w x1 x2 (x3 + 1) (x4 + 1)
          else
            lX1_wantedPlaceOf_22 o n w x1 x2 x3 (x4 + 1)
set_option maxRecDepth 4000 in
theorem clX1_wantedPlaceOf_22 {g : Gx} {E : Ex} (C : CC g E cX1_wantedPlaceOf 6 RX1 4 87) (hR : RT g (some .int)) {o : Nat} (hO : shO E.2.2.2.2.2.1 o) (w : Wd)  : ∀ (n : Nat) (x1 : Int32) (x2 : Int32) (x3 : Int32) (x4 : Int32), YO g E 6 (QP g E w) (lX1_wantedPlaceOf_22 o n w x1 x2 x3 x4) w 22 [(0, .ref (E.2.2.2.2.1 + o)), (1, .int x1), (2, .int x2), (3, .int x3), (4, .int x4)] [] := by
  intro n
  induction n with
  | zero => intro x1 x2 x3 x4; exact y_no
  | succ n ih =>
    intro x1 x2 x3 x4
    rw [lX1_wantedPlaceOf_22]
    refine y_iload (n := 24) C dX1_wantedPlaceOf_22 4 rfl rfl ?_
    refine y_bipush (n := 26) C (60 : Int32) dX1_wantedPlaceOf_24 (by decide) rfl ?_
    refine y_icmp_ge (tgt := 77) (n := 29) C dX1_wantedPlaceOf_26 (by decide) rfl (fun h4 => ?_) (fun h4 => ?_)
    · refine y_iload_n (n := 78) C dX1_wantedPlaceOf_77 3 rfl rfl ?_
      refine y_aload_n (n := 79) C dX1_wantedPlaceOf_78 0 rfl rfl ?_
      refine y_get (ci := 1) (f := 6) (n := 82) C in_X1 hO.1 rfl (by decide) wd_42 rfl rfl dX1_wantedPlaceOf_79 rfl ?_
      refine y_icmp_ge (tgt := 89) (n := 85) C dX1_wantedPlaceOf_82 (by decide) rfl (fun h5 => ?_) (fun h5 => ?_)
      · refine y_bipush (n := 91) C ((-5) : Int32) dX1_wantedPlaceOf_89 (by decide) rfl ?_
        exact y_rp C hR dX1_wantedPlaceOf_91
      · refine y_iload_n (n := 86) C dX1_wantedPlaceOf_85 3 rfl rfl ?_
        refine y_goto (tgt := 91) C dX1_wantedPlaceOf_86 (by decide) ?_
        exact y_rp C hR dX1_wantedPlaceOf_91
    · refine y_aload_n (n := 30) C dX1_wantedPlaceOf_29 0 rfl rfl ?_
      refine y_iload (n := 32) C dX1_wantedPlaceOf_30 4 rfl rfl ?_
      refine y_cp (n := 35) C (fun r hr H locs la hP hS hl => y_runV (ci := 1) (st := []) C ky_X1_isDeleted wd_377 ⟨Nat.le_of_ble_eq_true rfl, Nat.le_of_ble_eq_true rfl⟩ hO.1 rfl (mX1_isDeleted hO w x4 g.2.1 r hr) rfl (Nat.le_of_ble_eq_true rfl) rfl dX1_wantedPlaceOf_32 hP hS hl) rfl (fun v6 hv6 => ?_)
      refine y_if_eq (tgt := 42) (n := 38) C dX1_wantedPlaceOf_35 (by decide) rfl (fun h7 => ?_) (fun h7 => ?_)
      · refine y_aload_n (n := 43) C dX1_wantedPlaceOf_42 0 rfl rfl ?_
        refine y_iload (n := 45) C dX1_wantedPlaceOf_43 4 rfl rfl ?_
        refine y_cp (n := 48) C (fun r hr H locs la hP hS hl => y_runV (ci := 1) (st := []) C ky_X1_valueOf wd_378 ⟨Nat.le_of_ble_eq_true rfl, Nat.le_of_ble_eq_true rfl⟩ hO.1 rfl (mX1_valueOf hO w x4 g.2.1 r hr) rfl (Nat.le_of_ble_eq_true rfl) rfl dX1_wantedPlaceOf_45 hP hS hl) rfl (fun v8 hv8 => ?_)
        refine y_istore (n := 50) (ls' := [(5, .int v8), (0, .ref (E.2.2.2.2.1 + o)), (1, .int x1), (2, .int x2), (3, .int x3), (4, .int x4)]) C dX1_wantedPlaceOf_48 (by decide) rfl rfl ?_
        refine y_iload (n := 52) C dX1_wantedPlaceOf_50 0 rfl rfl ?_
        refine y_iload_n (n := 53) C dX1_wantedPlaceOf_52 3 rfl rfl ?_
        refine y_icmp_gt (tgt := 68) (n := 56) C dX1_wantedPlaceOf_53 (by decide) rfl (fun h9 => ?_) (fun h9 => ?_)
        · refine y_iinc (n := 71) (v := x3 + 1) (ls' := [(3, .int (x3 + 1)), (5, .int v8), (0, .ref (E.2.2.2.2.1 + o)), (1, .int x1), (2, .int x2), (4, .int x4)]) C dX1_wantedPlaceOf_68 4 rfl rfl (by decide) rfl rfl ?_
          refine y_iinc (n := 74) (v := x4 + 1) (ls' := [(4, .int (x4 + 1)), (3, .int (x3 + 1)), (5, .int v8), (0, .ref (E.2.2.2.2.1 + o)), (1, .int x1), (2, .int x2)]) C dX1_wantedPlaceOf_71 5 rfl rfl (by decide) rfl rfl ?_
          refine y_goto (tgt := 22) C dX1_wantedPlaceOf_74 (by decide) ?_
          refine y_ls [3, 4, 5, 1, 0] rfl ?_
          exact ih x1 x2 (x3 + 1) (x4 + 1)
        · refine y_iload (n := 58) C dX1_wantedPlaceOf_56 0 rfl rfl ?_
          refine y_iload_n (n := 59) C dX1_wantedPlaceOf_58 3 rfl rfl ?_
          refine y_icmp_ne (tgt := 71) (n := 62) C dX1_wantedPlaceOf_59 (by decide) rfl (fun h10 => ?_) (fun h10 => ?_)
          · refine y_iinc (n := 74) (v := x4 + 1) (ls' := [(4, .int (x4 + 1)), (5, .int v8), (0, .ref (E.2.2.2.2.1 + o)), (1, .int x1), (2, .int x2), (3, .int x3)]) C dX1_wantedPlaceOf_71 5 rfl rfl (by decide) rfl rfl ?_
            refine y_goto (tgt := 22) C dX1_wantedPlaceOf_74 (by decide) ?_
            refine y_ls [2, 3, 4, 5, 0] rfl ?_
            exact ih x1 x2 x3 (x4 + 1)
          · refine y_iload (n := 64) C dX1_wantedPlaceOf_62 5 rfl rfl ?_
            refine y_iload_n (n := 65) C dX1_wantedPlaceOf_64 2 rfl rfl ?_
            refine y_icmp_ge (tgt := 71) (n := 68) C dX1_wantedPlaceOf_65 (by decide) rfl (fun h11 => ?_) (fun h11 => ?_)
            · refine y_iinc (n := 74) (v := x4 + 1) (ls' := [(4, .int (x4 + 1)), (5, .int v8), (0, .ref (E.2.2.2.2.1 + o)), (1, .int x1), (2, .int x2), (3, .int x3)]) C dX1_wantedPlaceOf_71 5 rfl rfl (by decide) rfl rfl ?_
              refine y_goto (tgt := 22) C dX1_wantedPlaceOf_74 (by decide) ?_
              refine y_ls [2, 3, 4, 5, 0] rfl ?_
              exact ih x1 x2 x3 (x4 + 1)
            · refine y_iinc (n := 71) (v := x3 + 1) (ls' := [(3, .int (x3 + 1)), (5, .int v8), (0, .ref (E.2.2.2.2.1 + o)), (1, .int x1), (2, .int x2), (4, .int x4)]) C dX1_wantedPlaceOf_68 4 rfl rfl (by decide) rfl rfl ?_
              refine y_iinc (n := 74) (v := x4 + 1) (ls' := [(4, .int (x4 + 1)), (3, .int (x3 + 1)), (5, .int v8), (0, .ref (E.2.2.2.2.1 + o)), (1, .int x1), (2, .int x2)]) C dX1_wantedPlaceOf_71 5 rfl rfl (by decide) rfl rfl ?_
              refine y_goto (tgt := 22) C dX1_wantedPlaceOf_74 (by decide) ?_
              refine y_ls [3, 4, 5, 1, 0] rfl ?_
              exact ih x1 x2 (x3 + 1) (x4 + 1)
      · refine y_iconst (n := 39) C (0 : Int32) dX1_wantedPlaceOf_38 (by decide) rfl ?_
        refine y_goto (tgt := 48) C dX1_wantedPlaceOf_39 (by decide) ?_
        refine y_istore (n := 50) (ls' := [(5, .int 0), (0, .ref (E.2.2.2.2.1 + o)), (1, .int x1), (2, .int x2), (3, .int x3), (4, .int x4)]) C dX1_wantedPlaceOf_48 (by decide) rfl rfl ?_
        refine y_iload (n := 52) C dX1_wantedPlaceOf_50 0 rfl rfl ?_
        refine y_iload_n (n := 53) C dX1_wantedPlaceOf_52 3 rfl rfl ?_
        refine y_icmp_gt (tgt := 68) (n := 56) C dX1_wantedPlaceOf_53 (by decide) rfl (fun h12 => ?_) (fun h12 => ?_)
        · refine y_iinc (n := 71) (v := x3 + 1) (ls' := [(3, .int (x3 + 1)), (5, .int 0), (0, .ref (E.2.2.2.2.1 + o)), (1, .int x1), (2, .int x2), (4, .int x4)]) C dX1_wantedPlaceOf_68 4 rfl rfl (by decide) rfl rfl ?_
          refine y_iinc (n := 74) (v := x4 + 1) (ls' := [(4, .int (x4 + 1)), (3, .int (x3 + 1)), (5, .int 0), (0, .ref (E.2.2.2.2.1 + o)), (1, .int x1), (2, .int x2)]) C dX1_wantedPlaceOf_71 5 rfl rfl (by decide) rfl rfl ?_
          refine y_goto (tgt := 22) C dX1_wantedPlaceOf_74 (by decide) ?_
          refine y_ls [3, 4, 5, 1, 0] rfl ?_
          exact ih x1 x2 (x3 + 1) (x4 + 1)
        · refine y_iload (n := 58) C dX1_wantedPlaceOf_56 0 rfl rfl ?_
          refine y_iload_n (n := 59) C dX1_wantedPlaceOf_58 3 rfl rfl ?_
          refine y_icmp_ne (tgt := 71) (n := 62) C dX1_wantedPlaceOf_59 (by decide) rfl (fun h13 => ?_) (fun h13 => ?_)
          · refine y_iinc (n := 74) (v := x4 + 1) (ls' := [(4, .int (x4 + 1)), (5, .int 0), (0, .ref (E.2.2.2.2.1 + o)), (1, .int x1), (2, .int x2), (3, .int x3)]) C dX1_wantedPlaceOf_71 5 rfl rfl (by decide) rfl rfl ?_
            refine y_goto (tgt := 22) C dX1_wantedPlaceOf_74 (by decide) ?_
            refine y_ls [2, 3, 4, 5, 0] rfl ?_
            exact ih x1 x2 x3 (x4 + 1)
          · refine y_iload (n := 64) C dX1_wantedPlaceOf_62 5 rfl rfl ?_
            refine y_iload_n (n := 65) C dX1_wantedPlaceOf_64 2 rfl rfl ?_
            refine y_icmp_ge (tgt := 71) (n := 68) C dX1_wantedPlaceOf_65 (by decide) rfl (fun h14 => ?_) (fun h14 => ?_)
            · refine y_iinc (n := 74) (v := x4 + 1) (ls' := [(4, .int (x4 + 1)), (5, .int 0), (0, .ref (E.2.2.2.2.1 + o)), (1, .int x1), (2, .int x2), (3, .int x3)]) C dX1_wantedPlaceOf_71 5 rfl rfl (by decide) rfl rfl ?_
              refine y_goto (tgt := 22) C dX1_wantedPlaceOf_74 (by decide) ?_
              refine y_ls [2, 3, 4, 5, 0] rfl ?_
              exact ih x1 x2 x3 (x4 + 1)
            · refine y_iinc (n := 71) (v := x3 + 1) (ls' := [(3, .int (x3 + 1)), (5, .int 0), (0, .ref (E.2.2.2.2.1 + o)), (1, .int x1), (2, .int x2), (4, .int x4)]) C dX1_wantedPlaceOf_68 4 rfl rfl (by decide) rfl rfl ?_
              refine y_iinc (n := 74) (v := x4 + 1) (ls' := [(4, .int (x4 + 1)), (3, .int (x3 + 1)), (5, .int 0), (0, .ref (E.2.2.2.2.1 + o)), (1, .int x1), (2, .int x2)]) C dX1_wantedPlaceOf_71 5 rfl rfl (by decide) rfl rfl ?_
              refine y_goto (tgt := 22) C dX1_wantedPlaceOf_74 (by decide) ?_
              refine y_ls [3, 4, 5, 1, 0] rfl ?_
              exact ih x1 x2 (x3 + 1) (x4 + 1)
def fX1_wantedPlaceOf (w : Wd) (o : Nat) (a1 : Int32) : Option (Int32) :=
  (fX1_isAnswer w o a1).bind fun v1 =>
  if v1 = 0 then
    some (-5)
  else
    (fX1_valueOf w o a1).bind fun v3 =>
    lX1_wantedPlaceOf_22 o 4096 w a1 v3 0 0
set_option maxRecDepth 4000 in
theorem eX1_wantedPlaceOf {g : Gx} {E : Ex} (C : CC g E cX1_wantedPlaceOf 6 RX1 4 87) (hR : RT g (some .int)) {o : Nat} (hO : shO E.2.2.2.2.2.1 o) (w : Wd) (a1 : Int32) : YO g E 6 (QP g E w) (fX1_wantedPlaceOf w o a1) w 0 [(0, .ref (E.2.2.2.2.1 + o)), (1, .int a1)] [] := by
  unfold fX1_wantedPlaceOf
  refine y_aload_n (n := 1) C dX1_wantedPlaceOf_0 0 rfl rfl ?_
  refine y_iload_n (n := 2) C dX1_wantedPlaceOf_1 1 rfl rfl ?_
  refine y_cp (n := 5) C (fun r hr H locs la hP hS hl => y_runV (ci := 1) (st := []) C ky_X1_isAnswer wd_373 ⟨Nat.le_of_ble_eq_true rfl, Nat.le_of_ble_eq_true rfl⟩ hO.1 rfl (mX1_isAnswer hO w a1 g.2.1 r hr) rfl (Nat.le_of_ble_eq_true rfl) rfl dX1_wantedPlaceOf_2 hP hS hl) rfl (fun v1 hv1 => ?_)
  refine y_if_ne (tgt := 11) (n := 8) C dX1_wantedPlaceOf_5 (by decide) rfl (fun h2 => ?_) (fun h2 => ?_)
  · refine y_aload_n (n := 12) C dX1_wantedPlaceOf_11 0 rfl rfl ?_
    refine y_iload_n (n := 13) C dX1_wantedPlaceOf_12 1 rfl rfl ?_
    refine y_cp (n := 16) C (fun r hr H locs la hP hS hl => y_runV (ci := 1) (st := []) C ky_X1_valueOf wd_378 ⟨Nat.le_of_ble_eq_true rfl, Nat.le_of_ble_eq_true rfl⟩ hO.1 rfl (mX1_valueOf hO w a1 g.2.1 r hr) rfl (Nat.le_of_ble_eq_true rfl) rfl dX1_wantedPlaceOf_13 hP hS hl) rfl (fun v3 hv3 => ?_)
    refine y_istore_n (n := 17) (ls' := [(2, .int v3), (0, .ref (E.2.2.2.2.1 + o)), (1, .int a1)]) C dX1_wantedPlaceOf_16 (by decide) rfl rfl ?_
    refine y_iconst (n := 18) C (0 : Int32) dX1_wantedPlaceOf_17 (by decide) rfl ?_
    refine y_istore_n (n := 19) (ls' := [(3, .int 0), (2, .int v3), (0, .ref (E.2.2.2.2.1 + o)), (1, .int a1)]) C dX1_wantedPlaceOf_18 (by decide) rfl rfl ?_
    refine y_iconst (n := 20) C (0 : Int32) dX1_wantedPlaceOf_19 (by decide) rfl ?_
    refine y_istore (n := 22) (ls' := [(4, .int 0), (3, .int 0), (2, .int v3), (0, .ref (E.2.2.2.2.1 + o)), (1, .int a1)]) C dX1_wantedPlaceOf_20 (by decide) rfl rfl ?_
    refine y_ls [3, 4, 2, 1, 0] rfl ?_
    exact clX1_wantedPlaceOf_22 C hR hO w 4096 a1 v3 0 0
  · refine y_bipush (n := 10) C ((-5) : Int32) dX1_wantedPlaceOf_8 (by decide) rfl ?_
    exact y_rp C hR dX1_wantedPlaceOf_10
theorem mX1_wantedPlaceOf {E : Ex} {o : Nat} (hO : shO E.2.2.2.2.2.1 o) (w : Wd) (a1 : Int32) (l : Launch) : MP l yX1_wantedPlaceOf cX1_wantedPlaceOf 6 (some .int) { frames := 4, cells := 0, slots := 0, locals := 87 } E [.ref (E.2.2.2.2.1 + o), .int a1] w (fX1_wantedPlaceOf w o a1) :=
  y_met (Qc := fun r => yQi E (r, w)) (by decide +kernel) (Nat.le_of_ble_eq_true rfl) (fun g C hR => eX1_wantedPlaceOf C hR hO w a1) l
def lX1_wantedAt_2 (o : Nat) : Nat → Wd → Int32 → Int32 → Option (Int32)
  | 0, _, _, _ => none
  | n + 1, w, x1, x2 =>
    if 60 ≤ x2 then
      some (-5)
    else
      (fX1_wantedPlaceOf w o x2).bind fun v2 =>
      if v2 = x1 then
        some x2
      else
        lX1_wantedAt_2 o n w x1 (x2 + 1)
set_option maxRecDepth 4000 in
theorem clX1_wantedAt_2 {g : Gx} {E : Ex} (C : CC g E cX1_wantedAt 3 RX1 5 112) (hR : RT g (some .int)) {o : Nat} (hO : shO E.2.2.2.2.2.1 o) (w : Wd)  : ∀ (n : Nat) (x1 : Int32) (x2 : Int32), YO g E 3 (QP g E w) (lX1_wantedAt_2 o n w x1 x2) w 2 [(0, .ref (E.2.2.2.2.1 + o)), (1, .int x1), (2, .int x2)] [] := by
  intro n
  induction n with
  | zero => intro x1 x2; exact y_no
  | succ n ih =>
    intro x1 x2
    rw [lX1_wantedAt_2]
    refine y_iload_n (n := 3) C dX1_wantedAt_2 2 rfl rfl ?_
    refine y_bipush (n := 5) C (60 : Int32) dX1_wantedAt_3 (by decide) rfl ?_
    refine y_icmp_ge (tgt := 25) (n := 8) C dX1_wantedAt_5 (by decide) rfl (fun h1 => ?_) (fun h1 => ?_)
    · refine y_bipush (n := 27) C ((-5) : Int32) dX1_wantedAt_25 (by decide) rfl ?_
      exact y_rp C hR dX1_wantedAt_27
    · refine y_aload_n (n := 9) C dX1_wantedAt_8 0 rfl rfl ?_
      refine y_iload_n (n := 10) C dX1_wantedAt_9 2 rfl rfl ?_
      refine y_cp (n := 13) C (fun r hr H locs la hP hS hl => y_runV (ci := 1) (st := []) C ky_X1_wantedPlaceOf wd_533 ⟨Nat.le_of_ble_eq_true rfl, Nat.le_of_ble_eq_true rfl⟩ hO.1 rfl (mX1_wantedPlaceOf hO w x2 g.2.1 r hr) rfl (Nat.le_of_ble_eq_true rfl) rfl dX1_wantedAt_10 hP hS hl) rfl (fun v2 hv2 => ?_)
      refine y_iload_n (n := 14) C dX1_wantedAt_13 1 rfl rfl ?_
      refine y_icmp_ne (tgt := 19) (n := 17) C dX1_wantedAt_14 (by decide) rfl (fun h3 => ?_) (fun h3 => ?_)
      · refine y_iinc (n := 22) (v := x2 + 1) (ls' := [(2, .int (x2 + 1)), (0, .ref (E.2.2.2.2.1 + o)), (1, .int x1)]) C dX1_wantedAt_19 2 rfl rfl (by decide) rfl rfl ?_
        refine y_goto (tgt := 2) C dX1_wantedAt_22 (by decide) ?_
        refine y_ls [1, 2, 0] rfl ?_
        exact ih x1 (x2 + 1)
      · refine y_iload_n (n := 18) C dX1_wantedAt_17 2 rfl rfl ?_
        exact y_rp C hR dX1_wantedAt_18
def fX1_wantedAt (w : Wd) (o : Nat) (a1 : Int32) : Option (Int32) :=
  lX1_wantedAt_2 o 4096 w a1 0
set_option maxRecDepth 4000 in
theorem eX1_wantedAt {g : Gx} {E : Ex} (C : CC g E cX1_wantedAt 3 RX1 5 112) (hR : RT g (some .int)) {o : Nat} (hO : shO E.2.2.2.2.2.1 o) (w : Wd) (a1 : Int32) : YO g E 3 (QP g E w) (fX1_wantedAt w o a1) w 0 [(0, .ref (E.2.2.2.2.1 + o)), (1, .int a1)] [] := by
  unfold fX1_wantedAt
  refine y_iconst (n := 1) C (0 : Int32) dX1_wantedAt_0 (by decide) rfl ?_
  refine y_istore_n (n := 2) (ls' := [(2, .int 0), (0, .ref (E.2.2.2.2.1 + o)), (1, .int a1)]) C dX1_wantedAt_1 (by decide) rfl rfl ?_
  refine y_ls [1, 2, 0] rfl ?_
  exact clX1_wantedAt_2 C hR hO w 4096 a1 0
theorem mX1_wantedAt {E : Ex} {o : Nat} (hO : shO E.2.2.2.2.2.1 o) (w : Wd) (a1 : Int32) (l : Launch) : MP l yX1_wantedAt cX1_wantedAt 3 (some .int) { frames := 5, cells := 0, slots := 0, locals := 112 } E [.ref (E.2.2.2.2.1 + o), .int a1] w (fX1_wantedAt w o a1) :=
  y_met (Qc := fun r => yQi E (r, w)) (by decide +kernel) (Nat.le_of_ble_eq_true rfl) (fun g C hR => eX1_wantedAt C hR hO w a1) l
def lX1_wantedSize_4 (o : Nat) : Nat → Wd → Int32 → Int32 → Option (Int32)
  | 0, _, _, _ => none
  | n + 1, w, x1, x2 =>
    if 60 ≤ x2 then
      some (imin x1 (w.1 o 6))
    else
      (fX1_isAnswer w o x2).bind fun v2 =>
      (fX5_oneIf w v2).bind fun v3 =>
      lX1_wantedSize_4 o n w (x1 + v3) (x2 + 1)
set_option maxRecDepth 4000 in
theorem clX1_wantedSize_4 {g : Gx} {E : Ex} (C : CC g E cX1_wantedSize 3 RX1 4 87) (hR : RT g (some .int)) {o : Nat} (hO : shO E.2.2.2.2.2.1 o) (w : Wd)  : ∀ (n : Nat) (x1 : Int32) (x2 : Int32), YO g E 3 (QP g E w) (lX1_wantedSize_4 o n w x1 x2) w 4 [(0, .ref (E.2.2.2.2.1 + o)), (1, .int x1), (2, .int x2)] [] := by
  intro n
  induction n with
  | zero => intro x1 x2; exact y_no
  | succ n ih =>
    intro x1 x2
    rw [lX1_wantedSize_4]
    refine y_iload_n (n := 5) C dX1_wantedSize_4 2 rfl rfl ?_
    refine y_bipush (n := 7) C (60 : Int32) dX1_wantedSize_5 (by decide) rfl ?_
    refine y_icmp_ge (tgt := 27) (n := 10) C dX1_wantedSize_7 (by decide) rfl (fun h1 => ?_) (fun h1 => ?_)
    · refine y_iload_n (n := 28) C dX1_wantedSize_27 1 rfl rfl ?_
      refine y_aload_n (n := 29) C dX1_wantedSize_28 0 rfl rfl ?_
      refine y_get (ci := 1) (f := 6) (n := 32) C in_X1 hO.1 rfl (by decide) wd_42 rfl rfl dX1_wantedSize_29 rfl ?_
      refine y_mmin (n := 35) C wd_457 wd_238 wd_7 wd_239 (by decide) (Nat.le_of_ble_eq_true rfl) dX1_wantedSize_32 rfl ?_
      exact y_rp C hR dX1_wantedSize_35
    · refine y_iload_n (n := 11) C dX1_wantedSize_10 1 rfl rfl ?_
      refine y_aload_n (n := 12) C dX1_wantedSize_11 0 rfl rfl ?_
      refine y_iload_n (n := 13) C dX1_wantedSize_12 2 rfl rfl ?_
      refine y_cp (n := 16) C (fun r hr H locs la hP hS hl => y_runV (ci := 1) (st := [.int x1]) C ky_X1_isAnswer wd_373 ⟨Nat.le_of_ble_eq_true rfl, Nat.le_of_ble_eq_true rfl⟩ hO.1 rfl (mX1_isAnswer hO w x2 g.2.1 r hr) rfl (Nat.le_of_ble_eq_true rfl) rfl dX1_wantedSize_13 hP hS hl) rfl (fun v2 hv2 => ?_)
      refine y_cp (n := 19) C (fun r hr H locs la hP hS hl => y_runSN (st := [.int x1]) C ky_X5_oneIf wd_260 ⟨Nat.le_of_ble_eq_true rfl, Nat.le_of_ble_eq_true rfl⟩ (mX5_oneIf w v2 g.2.1 r hr) rfl (Nat.le_of_ble_eq_true rfl) rfl dX1_wantedSize_16 hP hS hl) rfl (fun v3 hv3 => ?_)
      refine y_iadd (n := 20) C dX1_wantedSize_19 rfl ?_
      refine y_istore_n (n := 21) (ls' := [(1, .int (x1 + v3)), (0, .ref (E.2.2.2.2.1 + o)), (2, .int x2)]) C dX1_wantedSize_20 (by decide) rfl rfl ?_
      refine y_iinc (n := 24) (v := x2 + 1) (ls' := [(2, .int (x2 + 1)), (1, .int (x1 + v3)), (0, .ref (E.2.2.2.2.1 + o))]) C dX1_wantedSize_21 2 rfl rfl (by decide) rfl rfl ?_
      refine y_goto (tgt := 4) C dX1_wantedSize_24 (by decide) ?_
      refine y_ls [2, 1, 0] rfl ?_
      exact ih (x1 + v3) (x2 + 1)
def fX1_wantedSize (w : Wd) (o : Nat)  : Option (Int32) :=
  lX1_wantedSize_4 o 4096 w 0 0
set_option maxRecDepth 4000 in
theorem eX1_wantedSize {g : Gx} {E : Ex} (C : CC g E cX1_wantedSize 3 RX1 4 87) (hR : RT g (some .int)) {o : Nat} (hO : shO E.2.2.2.2.2.1 o) (w : Wd)  : YO g E 3 (QP g E w) (fX1_wantedSize w o) w 0 [(0, .ref (E.2.2.2.2.1 + o))] [] := by
  unfold fX1_wantedSize
  refine y_iconst (n := 1) C (0 : Int32) dX1_wantedSize_0 (by decide) rfl ?_
  refine y_istore_n (n := 2) (ls' := [(1, .int 0), (0, .ref (E.2.2.2.2.1 + o))]) C dX1_wantedSize_1 (by decide) rfl rfl ?_
  refine y_iconst (n := 3) C (0 : Int32) dX1_wantedSize_2 (by decide) rfl ?_
  refine y_istore_n (n := 4) (ls' := [(2, .int 0), (1, .int 0), (0, .ref (E.2.2.2.2.1 + o))]) C dX1_wantedSize_3 (by decide) rfl rfl ?_
  refine y_ls [2, 1, 0] rfl ?_
  exact clX1_wantedSize_4 C hR hO w 4096 0 0
theorem mX1_wantedSize {E : Ex} {o : Nat} (hO : shO E.2.2.2.2.2.1 o) (w : Wd)  (l : Launch) : MP l yX1_wantedSize cX1_wantedSize 3 (some .int) { frames := 4, cells := 0, slots := 0, locals := 87 } E [.ref (E.2.2.2.2.1 + o)] w (fX1_wantedSize w o) :=
  y_met (Qc := fun r => yQi E (r, w)) (by decide +kernel) (Nat.le_of_ble_eq_true rfl) (fun g C hR => eX1_wantedSize C hR hO w ) l
def fX1_weightOf (w : Wd) (o : Nat) (a1 : Int32) : Option (Int32) :=
  (fX5_at w (o + 4) 6 a1).bind fun v1 =>
  some v1
set_option maxRecDepth 4000 in
theorem eX1_weightOf {g : Gx} {E : Ex} (C : CC g E cX1_weightOf 2 RX1 1 21) (hR : RT g (some .int)) {o : Nat} (hO : shO E.2.2.2.2.2.1 o) (w : Wd) (a1 : Int32) : YO g E 2 (QP g E w) (fX1_weightOf w o a1) w 0 [(0, .ref (E.2.2.2.2.1 + o)), (1, .int a1)] [] := by
  unfold fX1_weightOf
  refine y_aload_n (n := 1) C dX1_weightOf_0 0 rfl rfl ?_
  refine y_get (ci := 1) (f := 3) (n := 4) C in_X1 hO.1 rfl (by decide) wd_35 rfl rfl dX1_weightOf_1 rfl ?_
  refine y_iload_n (n := 5) C dX1_weightOf_4 1 rfl rfl ?_
  refine y_cp (n := 8) C (fun r hr H locs la hP hS hl => y_runSN (st := []) C ky_X5_at wd_257 ⟨Nat.le_of_ble_eq_true rfl, Nat.le_of_ble_eq_true rfl⟩ (mX5_at hO.2.2.2.2.1 w a1 g.2.1 r hr) rfl (Nat.le_of_ble_eq_true rfl) rfl dX1_weightOf_5 hP hS hl) rfl (fun v1 hv1 => ?_)
  exact y_rp C hR dX1_weightOf_8
theorem mX1_weightOf {E : Ex} {o : Nat} (hO : shO E.2.2.2.2.2.1 o) (w : Wd) (a1 : Int32) (l : Launch) : MP l yX1_weightOf cX1_weightOf 2 (some .int) { frames := 1, cells := 0, slots := 0, locals := 21 } E [.ref (E.2.2.2.2.1 + o), .int a1] w (fX1_weightOf w o a1) :=
  y_met (Qc := fun r => yQi E (r, w)) (by decide +kernel) (Nat.le_of_ble_eq_true rfl) (fun g C hR => eX1_weightOf C hR hO w a1) l
def lX2_allLookUps_4 (o : Nat) : Nat → Wd → Int32 → Int32 → Option (Int32)
  | 0, _, _, _ => none
  | n + 1, w, x1, x2 =>
    if 6 ≤ x2 then
      some x1
    else
      (fX5_at w (o + 2) 6 x2).bind fun v2 =>
      lX2_allLookUps_4 o n w (x1 + v2) (x2 + 1)
set_option maxRecDepth 4000 in
theorem clX2_allLookUps_4 {g : Gx} {E : Ex} (C : CC g E cX2_allLookUps 3 RX2 1 21) (hR : RT g (some .int)) {o : Nat} (hO : shR E.2.2.2.2.2.1 o) (w : Wd)  : ∀ (n : Nat) (x1 : Int32) (x2 : Int32), YO g E 3 (QP g E w) (lX2_allLookUps_4 o n w x1 x2) w 4 [(0, .ref (E.2.2.2.2.1 + o)), (1, .int x1), (2, .int x2)] [] := by
  intro n
  induction n with
  | zero => intro x1 x2; exact y_no
  | succ n ih =>
    intro x1 x2
    rw [lX2_allLookUps_4]
    refine y_iload_n (n := 5) C dX2_allLookUps_4 2 rfl rfl ?_
    refine y_bipush (n := 7) C (6 : Int32) dX2_allLookUps_5 (by decide) rfl ?_
    refine y_icmp_ge (tgt := 27) (n := 10) C dX2_allLookUps_7 (by decide) rfl (fun h1 => ?_) (fun h1 => ?_)
    · refine y_iload_n (n := 28) C dX2_allLookUps_27 1 rfl rfl ?_
      exact y_rp C hR dX2_allLookUps_28
    · refine y_iload_n (n := 11) C dX2_allLookUps_10 1 rfl rfl ?_
      refine y_aload_n (n := 12) C dX2_allLookUps_11 0 rfl rfl ?_
      refine y_get (ci := 2) (f := 8) (n := 15) C in_X2 hO.1 rfl (by decide) wd_78 rfl rfl dX2_allLookUps_12 rfl ?_
      refine y_iload_n (n := 16) C dX2_allLookUps_15 2 rfl rfl ?_
      refine y_cp (n := 19) C (fun r hr H locs la hP hS hl => y_runSN (st := [.int x1]) C ky_X5_at wd_314 ⟨Nat.le_of_ble_eq_true rfl, Nat.le_of_ble_eq_true rfl⟩ (mX5_at hO.2.2.1 w x2 g.2.1 r hr) rfl (Nat.le_of_ble_eq_true rfl) rfl dX2_allLookUps_16 hP hS hl) rfl (fun v2 hv2 => ?_)
      refine y_iadd (n := 20) C dX2_allLookUps_19 rfl ?_
      refine y_istore_n (n := 21) (ls' := [(1, .int (x1 + v2)), (0, .ref (E.2.2.2.2.1 + o)), (2, .int x2)]) C dX2_allLookUps_20 (by decide) rfl rfl ?_
      refine y_iinc (n := 24) (v := x2 + 1) (ls' := [(2, .int (x2 + 1)), (1, .int (x1 + v2)), (0, .ref (E.2.2.2.2.1 + o))]) C dX2_allLookUps_21 2 rfl rfl (by decide) rfl rfl ?_
      refine y_goto (tgt := 4) C dX2_allLookUps_24 (by decide) ?_
      refine y_ls [2, 1, 0] rfl ?_
      exact ih (x1 + v2) (x2 + 1)
def fX2_allLookUps (w : Wd) (o : Nat)  : Option (Int32) :=
  lX2_allLookUps_4 o 4096 w 0 0
set_option maxRecDepth 4000 in
theorem eX2_allLookUps {g : Gx} {E : Ex} (C : CC g E cX2_allLookUps 3 RX2 1 21) (hR : RT g (some .int)) {o : Nat} (hO : shR E.2.2.2.2.2.1 o) (w : Wd)  : YO g E 3 (QP g E w) (fX2_allLookUps w o) w 0 [(0, .ref (E.2.2.2.2.1 + o))] [] := by
  unfold fX2_allLookUps
  refine y_iconst (n := 1) C (0 : Int32) dX2_allLookUps_0 (by decide) rfl ?_
  refine y_istore_n (n := 2) (ls' := [(1, .int 0), (0, .ref (E.2.2.2.2.1 + o))]) C dX2_allLookUps_1 (by decide) rfl rfl ?_
  refine y_iconst (n := 3) C (0 : Int32) dX2_allLookUps_2 (by decide) rfl ?_
  refine y_istore_n (n := 4) (ls' := [(2, .int 0), (1, .int 0), (0, .ref (E.2.2.2.2.1 + o))]) C dX2_allLookUps_3 (by decide) rfl rfl ?_
  refine y_ls [2, 1, 0] rfl ?_
  exact clX2_allLookUps_4 C hR hO w 4096 0 0
theorem mX2_allLookUps {E : Ex} {o : Nat} (hO : shR E.2.2.2.2.2.1 o) (w : Wd)  (l : Launch) : MP l yX2_allLookUps cX2_allLookUps 3 (some .int) { frames := 1, cells := 0, slots := 0, locals := 21 } E [.ref (E.2.2.2.2.1 + o)] w (fX2_allLookUps w o) :=
  y_met (Qc := fun r => yQi E (r, w)) (by decide +kernel) (Nat.le_of_ble_eq_true rfl) (fun g C hR => eX2_allLookUps C hR hO w ) l
def fX2_caughtSize (w : Wd) (o : Nat)  : Option (Int32) :=
  (fJ6_bitCount_0f7a4 w (w.1 o 6)).bind fun v1 =>
  some v1
set_option maxRecDepth 4000 in
theorem eX2_caughtSize {g : Gx} {E : Ex} (C : CC g E cX2_caughtSize 1 RX2 1 20) (hR : RT g (some .int)) {o : Nat} (hO : shR E.2.2.2.2.2.1 o) (w : Wd)  : YO g E 1 (QP g E w) (fX2_caughtSize w o) w 0 [(0, .ref (E.2.2.2.2.1 + o))] [] := by
  unfold fX2_caughtSize
  refine y_aload_n (n := 1) C dX2_caughtSize_0 0 rfl rfl ?_
  refine y_get (ci := 2) (f := 6) (n := 4) C in_X2 hO.1 rfl (by decide) wd_76 rfl rfl dX2_caughtSize_1 rfl ?_
  refine y_cp (n := 7) C (fun r hr H locs la hP hS hl => y_runS (st := []) C ky_J6_bitCount_0f7a4 wd_545 ⟨Nat.le_of_ble_eq_true rfl, Nat.le_of_ble_eq_true rfl⟩ (mJ6_bitCount_0f7a4 w (w.1 o 6) g.2.1 r hr) rfl (Nat.le_of_ble_eq_true rfl) rfl dX2_caughtSize_4 hP hS hl) rfl (fun v1 hv1 => ?_)
  exact y_rp C hR dX2_caughtSize_7
theorem mX2_caughtSize {E : Ex} {o : Nat} (hO : shR E.2.2.2.2.2.1 o) (w : Wd)  (l : Launch) : MP l yX2_caughtSize cX2_caughtSize 1 (some .int) { frames := 1, cells := 0, slots := 0, locals := 20 } E [.ref (E.2.2.2.2.1 + o)] w (fX2_caughtSize w o) :=
  y_met (Qc := fun r => yQi E (r, w)) (by decide +kernel) (Nat.le_of_ble_eq_true rfl) (fun g C hR => eX2_caughtSize C hR hO w ) l
def fX2_cost (w : Wd) (o : Nat)  : Option (Int32) :=
  (fX2_allLookUps w o).bind fun v1 =>
  some ((w.1 o 4) + (3 * v1))
set_option maxRecDepth 4000 in
theorem eX2_cost {g : Gx} {E : Ex} (C : CC g E cX2_cost 1 RX2 2 43) (hR : RT g (some .int)) {o : Nat} (hO : shR E.2.2.2.2.2.1 o) (w : Wd)  : YO g E 1 (QP g E w) (fX2_cost w o) w 0 [(0, .ref (E.2.2.2.2.1 + o))] [] := by
  unfold fX2_cost
  refine y_aload_n (n := 1) C dX2_cost_0 0 rfl rfl ?_
  refine y_get (ci := 2) (f := 4) (n := 4) C in_X2 hO.1 rfl (by decide) wd_72 rfl rfl dX2_cost_1 rfl ?_
  refine y_iconst (n := 5) C (3 : Int32) dX2_cost_4 (by decide) rfl ?_
  refine y_aload_n (n := 6) C dX2_cost_5 0 rfl rfl ?_
  refine y_cp (n := 9) C (fun r hr H locs la hP hS hl => y_runV (ci := 2) (st := [.int 3, .int (w.1 o 4)]) C ky_X2_allLookUps wd_435 ⟨Nat.le_of_ble_eq_true rfl, Nat.le_of_ble_eq_true rfl⟩ hO.1 rfl (mX2_allLookUps hO w g.2.1 r hr) rfl (Nat.le_of_ble_eq_true rfl) rfl dX2_cost_6 hP hS hl) rfl (fun v1 hv1 => ?_)
  refine y_imul (n := 10) C dX2_cost_9 rfl ?_
  refine y_iadd (n := 11) C dX2_cost_10 rfl ?_
  exact y_rp C hR dX2_cost_11
theorem mX2_cost {E : Ex} {o : Nat} (hO : shR E.2.2.2.2.2.1 o) (w : Wd)  (l : Launch) : MP l yX2_cost cX2_cost 1 (some .int) { frames := 2, cells := 0, slots := 0, locals := 43 } E [.ref (E.2.2.2.2.1 + o)] w (fX2_cost w o) :=
  y_met (Qc := fun r => yQi E (r, w)) (by decide +kernel) (Nat.le_of_ble_eq_true rfl) (fun g C hR => eX2_cost C hR hO w ) l
def fX2_isCaught (w : Wd) (o : Nat) (a1 : Int32) : Option (Int32) :=
  if (((w.1 o 6) >>> (a1 &&& 31)) &&& 1) = 1 then
    rtZ 1
  else
    rtZ 0
set_option maxRecDepth 4000 in
theorem eX2_isCaught {g : Gx} {E : Ex} (C : CC g E cX2_isCaught 2 RX2 0 0) (hR : RT g (some .boolean)) {o : Nat} (hO : shR E.2.2.2.2.2.1 o) (w : Wd) (a1 : Int32) : YO g E 2 (QP g E w) (fX2_isCaught w o a1) w 0 [(0, .ref (E.2.2.2.2.1 + o)), (1, .int a1)] [] := by
  unfold fX2_isCaught
  refine y_aload_n (n := 1) C dX2_isCaught_0 0 rfl rfl ?_
  refine y_get (ci := 2) (f := 6) (n := 4) C in_X2 hO.1 rfl (by decide) wd_76 rfl rfl dX2_isCaught_1 rfl ?_
  refine y_iload_n (n := 5) C dX2_isCaught_4 1 rfl rfl ?_
  refine y_ishr (n := 6) C dX2_isCaught_5 rfl ?_
  refine y_iconst (n := 7) C (1 : Int32) dX2_isCaught_6 (by decide) rfl ?_
  refine y_iand (n := 8) C dX2_isCaught_7 rfl ?_
  refine y_iconst (n := 9) C (1 : Int32) dX2_isCaught_8 (by decide) rfl ?_
  refine y_icmp_ne (tgt := 16) (n := 12) C dX2_isCaught_9 (by decide) rfl (fun h1 => ?_) (fun h1 => ?_)
  · refine y_iconst (n := 17) C (0 : Int32) dX2_isCaught_16 (by decide) rfl ?_
    exact y_rz C hR dX2_isCaught_17
  · refine y_iconst (n := 13) C (1 : Int32) dX2_isCaught_12 (by decide) rfl ?_
    refine y_goto (tgt := 17) C dX2_isCaught_13 (by decide) ?_
    exact y_rz C hR dX2_isCaught_17
theorem mX2_isCaught {E : Ex} {o : Nat} (hO : shR E.2.2.2.2.2.1 o) (w : Wd) (a1 : Int32) (l : Launch) : MP l yX2_isCaught cX2_isCaught 2 (some .boolean) { frames := 0, cells := 0, slots := 0, locals := 0 } E [.ref (E.2.2.2.2.1 + o), .int a1] w (fX2_isCaught w o a1) :=
  y_met (Qc := fun r => yQi E (r, w)) (by decide +kernel) (Nat.le_of_ble_eq_true rfl) (fun g C hR => eX2_isCaught C hR hO w a1) l
def fX2_findBounds (w : Wd) (o o1 : Nat) (a2 : Int32) : Option (Wd) :=
  (fX5_at w (o + 1) 6 a2).bind fun v1 =>
  (fX1_scoreAt w o1 a2 v1).bind fun v2 =>
  (fX2_isCaught w o a2).bind fun v3 =>
  if v3 = 0 then
    (fX5_at w (o1 + 5) 6 a2).bind fun v5 =>
    (fX5_put w (o + 3) 6 a2 v2).bind fun w6 =>
    (fX5_put w6 (o + 4) 6 a2 (imax 0 (v2 - v5))).bind fun w7 =>
    some w7
  else
    (fX5_put w (o + 3) 6 a2 v2).bind fun w8 =>
    (fX5_put w8 (o + 4) 6 a2 (imax 0 (v2 - 0))).bind fun w9 =>
    some w9
set_option maxRecDepth 4000 in
theorem eX2_findBounds {g : Gx} {E : Ex} (C : CC g E cX2_findBounds 5 RX2 3 65) (hR : RT g none) {o o1 : Nat} (hO : shR E.2.2.2.2.2.1 o) (hO1 : shO E.2.2.2.2.2.1 o1) (w : Wd) (a2 : Int32) : YO g E 5 (QV g E) (fX2_findBounds w o o1 a2) w 0 [(0, .ref (E.2.2.2.2.1 + o)), (1, .ref (E.2.2.2.2.1 + o1)), (2, .int a2)] [] := by
  unfold fX2_findBounds
  refine y_aload_n (n := 1) C dX2_findBounds_0 1 rfl rfl ?_
  refine y_iload_n (n := 2) C dX2_findBounds_1 2 rfl rfl ?_
  refine y_aload_n (n := 3) C dX2_findBounds_2 0 rfl rfl ?_
  refine y_get (ci := 2) (f := 7) (n := 6) C in_X2 hO.1 rfl (by decide) wd_77 rfl rfl dX2_findBounds_3 rfl ?_
  refine y_iload_n (n := 7) C dX2_findBounds_6 2 rfl rfl ?_
  refine y_cp (n := 10) C (fun r hr H locs la hP hS hl => y_runSN (st := [.int a2, .ref (E.2.2.2.2.1 + o1)]) C ky_X5_at wd_314 ⟨Nat.le_of_ble_eq_true rfl, Nat.le_of_ble_eq_true rfl⟩ (mX5_at hO.2.1 w a2 g.2.1 r hr) rfl (Nat.le_of_ble_eq_true rfl) rfl dX2_findBounds_7 hP hS hl) rfl (fun v1 hv1 => ?_)
  refine y_cp (n := 13) C (fun r hr H locs la hP hS hl => y_runVN (ci := 1) (st := []) C ky_X1_scoreAt wd_315 ⟨Nat.le_of_ble_eq_true rfl, Nat.le_of_ble_eq_true rfl⟩ hO1.1 rfl (mX1_scoreAt hO1 w a2 v1 g.2.1 r hr) rfl (Nat.le_of_ble_eq_true rfl) rfl dX2_findBounds_10 hP hS hl) rfl (fun v2 hv2 => ?_)
  refine y_istore_n (n := 14) (ls' := [(3, .int v2), (0, .ref (E.2.2.2.2.1 + o)), (1, .ref (E.2.2.2.2.1 + o1)), (2, .int a2)]) C dX2_findBounds_13 (by decide) rfl rfl ?_
  refine y_aload_n (n := 15) C dX2_findBounds_14 1 rfl rfl ?_
  refine y_iload_n (n := 16) C dX2_findBounds_15 3 rfl rfl ?_
  refine y_cp (n := 19) C (fun r hr H locs la hP hS hl => y_runV (ci := 2) (st := []) C ky_X2_isCaught wd_323 ⟨Nat.le_of_ble_eq_true rfl, Nat.le_of_ble_eq_true rfl⟩ hO.1 rfl (mX2_isCaught hO w a2 g.2.1 r hr) rfl (Nat.le_of_ble_eq_true rfl) rfl dX2_findBounds_16 hP hS hl) rfl (fun v3 hv3 => ?_)
  refine y_if_eq (tgt := 26) (n := 22) C dX2_findBounds_19 (by decide) rfl (fun h4 => ?_) (fun h4 => ?_)
  · refine y_aload_n (n := 27) C dX2_findBounds_26 2 rfl rfl ?_
    refine y_getN (ci := 1) (f := 4) (n := 30) C in_X1 hO1.1 rfl (by decide) wd_38 rfl rfl dX2_findBounds_27 rfl ?_
    refine y_iload_n (n := 31) C dX2_findBounds_30 3 rfl rfl ?_
    refine y_cp (n := 34) C (fun r hr H locs la hP hS hl => y_runSN (st := []) C ky_X5_at wd_314 ⟨Nat.le_of_ble_eq_true rfl, Nat.le_of_ble_eq_true rfl⟩ (mX5_at hO1.2.2.2.2.2 w a2 g.2.1 r hr) rfl (Nat.le_of_ble_eq_true rfl) rfl dX2_findBounds_31 hP hS hl) rfl (fun v5 hv5 => ?_)
    refine y_istore (n := 36) (ls' := [(4, .int v5), (3, .int v2), (0, .ref (E.2.2.2.2.1 + o)), (1, .ref (E.2.2.2.2.1 + o1)), (2, .int a2)]) C dX2_findBounds_34 (by decide) rfl rfl ?_
    refine y_aload_n (n := 37) C dX2_findBounds_36 2 rfl rfl ?_
    refine y_get (ci := 2) (f := 9) (n := 40) C in_X2 hO.1 rfl (by decide) wd_79 rfl rfl dX2_findBounds_37 rfl ?_
    refine y_iload_n (n := 41) C dX2_findBounds_40 4 rfl rfl ?_
    refine y_iload_n (n := 42) C dX2_findBounds_41 1 rfl rfl ?_
    refine y_cv (n := 45) C (fun r hr H locs la hP hS hl => y_runSN (st := []) C ky_X5_put wd_327 ⟨Nat.le_of_ble_eq_true rfl, Nat.le_of_ble_eq_true rfl⟩ (mX5_put hO.2.2.2.1 w a2 v2 g.2.1 r hr) rfl (Nat.le_of_ble_eq_true rfl) rfl dX2_findBounds_42 hP hS hl) rfl (fun w6 hw6 => ?_)
    refine y_aload_n (n := 46) C dX2_findBounds_45 2 rfl rfl ?_
    refine y_get (ci := 2) (f := 10) (n := 49) C in_X2 hO.1 rfl (by decide) wd_80 rfl rfl dX2_findBounds_46 rfl ?_
    refine y_iload_n (n := 50) C dX2_findBounds_49 4 rfl rfl ?_
    refine y_iconst (n := 51) C (0 : Int32) dX2_findBounds_50 (by decide) rfl ?_
    refine y_iload_n (n := 52) C dX2_findBounds_51 1 rfl rfl ?_
    refine y_iload (n := 54) C dX2_findBounds_52 0 rfl rfl ?_
    refine y_isub (n := 55) C dX2_findBounds_54 rfl ?_
    refine y_mmax (n := 58) C wd_328 wd_329 wd_7 wd_330 (by decide) (Nat.le_of_ble_eq_true rfl) dX2_findBounds_55 rfl ?_
    refine y_cv (n := 61) C (fun r hr H locs la hP hS hl => y_runSN (st := []) C ky_X5_put wd_327 ⟨Nat.le_of_ble_eq_true rfl, Nat.le_of_ble_eq_true rfl⟩ (mX5_put hO.2.2.2.2.1 w6 a2 (imax 0 (v2 - v5)) g.2.1 r hr) rfl (Nat.le_of_ble_eq_true rfl) rfl dX2_findBounds_58 hP hS hl) rfl (fun w7 hw7 => ?_)
    exact y_rv C hR dX2_findBounds_61
  · refine y_iconst (n := 23) C (0 : Int32) dX2_findBounds_22 (by decide) rfl ?_
    refine y_goto (tgt := 34) C dX2_findBounds_23 (by decide) ?_
    refine y_istore (n := 36) (ls' := [(4, .int 0), (3, .int v2), (0, .ref (E.2.2.2.2.1 + o)), (1, .ref (E.2.2.2.2.1 + o1)), (2, .int a2)]) C dX2_findBounds_34 (by decide) rfl rfl ?_
    refine y_aload_n (n := 37) C dX2_findBounds_36 2 rfl rfl ?_
    refine y_get (ci := 2) (f := 9) (n := 40) C in_X2 hO.1 rfl (by decide) wd_79 rfl rfl dX2_findBounds_37 rfl ?_
    refine y_iload_n (n := 41) C dX2_findBounds_40 4 rfl rfl ?_
    refine y_iload_n (n := 42) C dX2_findBounds_41 1 rfl rfl ?_
    refine y_cv (n := 45) C (fun r hr H locs la hP hS hl => y_runSN (st := []) C ky_X5_put wd_327 ⟨Nat.le_of_ble_eq_true rfl, Nat.le_of_ble_eq_true rfl⟩ (mX5_put hO.2.2.2.1 w a2 v2 g.2.1 r hr) rfl (Nat.le_of_ble_eq_true rfl) rfl dX2_findBounds_42 hP hS hl) rfl (fun w8 hw8 => ?_)
    refine y_aload_n (n := 46) C dX2_findBounds_45 2 rfl rfl ?_
    refine y_get (ci := 2) (f := 10) (n := 49) C in_X2 hO.1 rfl (by decide) wd_80 rfl rfl dX2_findBounds_46 rfl ?_
    refine y_iload_n (n := 50) C dX2_findBounds_49 4 rfl rfl ?_
    refine y_iconst (n := 51) C (0 : Int32) dX2_findBounds_50 (by decide) rfl ?_
    refine y_iload_n (n := 52) C dX2_findBounds_51 1 rfl rfl ?_
    refine y_iload (n := 54) C dX2_findBounds_52 0 rfl rfl ?_
    refine y_isub (n := 55) C dX2_findBounds_54 rfl ?_
    refine y_mmax (n := 58) C wd_328 wd_329 wd_7 wd_330 (by decide) (Nat.le_of_ble_eq_true rfl) dX2_findBounds_55 rfl ?_
    refine y_cv (n := 61) C (fun r hr H locs la hP hS hl => y_runSN (st := []) C ky_X5_put wd_327 ⟨Nat.le_of_ble_eq_true rfl, Nat.le_of_ble_eq_true rfl⟩ (mX5_put hO.2.2.2.2.1 w8 a2 (imax 0 (v2 - 0)) g.2.1 r hr) rfl (Nat.le_of_ble_eq_true rfl) rfl dX2_findBounds_58 hP hS hl) rfl (fun w9 hw9 => ?_)
    exact y_rv C hR dX2_findBounds_61
theorem mX2_findBounds {E : Ex} {o o1 : Nat} (hO : shR E.2.2.2.2.2.1 o) (hO1 : shO E.2.2.2.2.2.1 o1) (w : Wd) (a2 : Int32) (l : Launch) : MV l yX2_findBounds cX2_findBounds 5 none { frames := 3, cells := 0, slots := 0, locals := 65 } E [.ref (E.2.2.2.2.1 + o), .ref (E.2.2.2.2.1 + o1), .int a2] w (fX2_findBounds w o o1 a2) :=
  y_met (Qc := yQv E) (by decide +kernel) (Nat.le_of_ble_eq_true rfl) (fun g C hR => eX2_findBounds C hR hO hO1 w a2) l
def lX2_frontPlaceOf_2 (o : Nat) : Nat → Wd → Int32 → Int32 → Option (Int32)
  | 0, _, _, _ => none
  | n + 1, w, x1, x2 =>
    if (w.1 o 15) ≤ x2 then
      some (-5)
    else
      (fX5_at w (o + 8) 60 x2).bind fun v2 =>
      if v2 = x1 then
        some x2
      else
        lX2_frontPlaceOf_2 o n w x1 (x2 + 1)
set_option maxRecDepth 4000 in
theorem clX2_frontPlaceOf_2 {g : Gx} {E : Ex} (C : CC g E cX2_frontPlaceOf 3 RX2 1 21) (hR : RT g (some .int)) {o : Nat} (hO : shR E.2.2.2.2.2.1 o) (w : Wd)  : ∀ (n : Nat) (x1 : Int32) (x2 : Int32), YO g E 3 (QP g E w) (lX2_frontPlaceOf_2 o n w x1 x2) w 2 [(0, .ref (E.2.2.2.2.1 + o)), (1, .int x1), (2, .int x2)] [] := by
  intro n
  induction n with
  | zero => intro x1 x2; exact y_no
  | succ n ih =>
    intro x1 x2
    rw [lX2_frontPlaceOf_2]
    refine y_iload_n (n := 3) C dX2_frontPlaceOf_2 2 rfl rfl ?_
    refine y_aload_n (n := 4) C dX2_frontPlaceOf_3 0 rfl rfl ?_
    refine y_get (ci := 2) (f := 15) (n := 7) C in_X2 hO.1 rfl (by decide) wd_88 rfl rfl dX2_frontPlaceOf_4 rfl ?_
    refine y_icmp_ge (tgt := 30) (n := 10) C dX2_frontPlaceOf_7 (by decide) rfl (fun h1 => ?_) (fun h1 => ?_)
    · refine y_bipush (n := 32) C ((-5) : Int32) dX2_frontPlaceOf_30 (by decide) rfl ?_
      exact y_rp C hR dX2_frontPlaceOf_32
    · refine y_aload_n (n := 11) C dX2_frontPlaceOf_10 0 rfl rfl ?_
      refine y_get (ci := 2) (f := 14) (n := 14) C in_X2 hO.1 rfl (by decide) wd_86 rfl rfl dX2_frontPlaceOf_11 rfl ?_
      refine y_iload_n (n := 15) C dX2_frontPlaceOf_14 2 rfl rfl ?_
      refine y_cp (n := 18) C (fun r hr H locs la hP hS hl => y_runSN (st := []) C ky_X5_at wd_314 ⟨Nat.le_of_ble_eq_true rfl, Nat.le_of_ble_eq_true rfl⟩ (mX5_at hO.2.2.2.2.2.2.2.2 w x2 g.2.1 r hr) rfl (Nat.le_of_ble_eq_true rfl) rfl dX2_frontPlaceOf_15 hP hS hl) rfl (fun v2 hv2 => ?_)
      refine y_iload_n (n := 19) C dX2_frontPlaceOf_18 1 rfl rfl ?_
      refine y_icmp_ne (tgt := 24) (n := 22) C dX2_frontPlaceOf_19 (by decide) rfl (fun h3 => ?_) (fun h3 => ?_)
      · refine y_iinc (n := 27) (v := x2 + 1) (ls' := [(2, .int (x2 + 1)), (0, .ref (E.2.2.2.2.1 + o)), (1, .int x1)]) C dX2_frontPlaceOf_24 2 rfl rfl (by decide) rfl rfl ?_
        refine y_goto (tgt := 2) C dX2_frontPlaceOf_27 (by decide) ?_
        refine y_ls [1, 2, 0] rfl ?_
        exact ih x1 (x2 + 1)
      · refine y_iload_n (n := 23) C dX2_frontPlaceOf_22 2 rfl rfl ?_
        exact y_rp C hR dX2_frontPlaceOf_23
def fX2_frontPlaceOf (w : Wd) (o : Nat) (a1 : Int32) : Option (Int32) :=
  lX2_frontPlaceOf_2 o 4096 w a1 0
set_option maxRecDepth 4000 in
theorem eX2_frontPlaceOf {g : Gx} {E : Ex} (C : CC g E cX2_frontPlaceOf 3 RX2 1 21) (hR : RT g (some .int)) {o : Nat} (hO : shR E.2.2.2.2.2.1 o) (w : Wd) (a1 : Int32) : YO g E 3 (QP g E w) (fX2_frontPlaceOf w o a1) w 0 [(0, .ref (E.2.2.2.2.1 + o)), (1, .int a1)] [] := by
  unfold fX2_frontPlaceOf
  refine y_iconst (n := 1) C (0 : Int32) dX2_frontPlaceOf_0 (by decide) rfl ?_
  refine y_istore_n (n := 2) (ls' := [(2, .int 0), (0, .ref (E.2.2.2.2.1 + o)), (1, .int a1)]) C dX2_frontPlaceOf_1 (by decide) rfl rfl ?_
  refine y_ls [1, 2, 0] rfl ?_
  exact clX2_frontPlaceOf_2 C hR hO w 4096 a1 0
theorem mX2_frontPlaceOf {E : Ex} {o : Nat} (hO : shR E.2.2.2.2.2.1 o) (w : Wd) (a1 : Int32) (l : Launch) : MP l yX2_frontPlaceOf cX2_frontPlaceOf 3 (some .int) { frames := 1, cells := 0, slots := 0, locals := 21 } E [.ref (E.2.2.2.2.1 + o), .int a1] w (fX2_frontPlaceOf w o a1) :=
  y_met (Qc := fun r => yQi E (r, w)) (by decide +kernel) (Nat.le_of_ble_eq_true rfl) (fun g C hR => eX2_frontPlaceOf C hR hO w a1) l
def lX2_highOf_22 (o o1 : Nat) : Nat → Wd → Int32 → Int32 → Int32 → Option (Int32)
  | 0, _, _, _, _ => none
  | n + 1, w, x3, x4, x5 =>
    if 6 ≤ x5 then
      some x3
    else
      if ((x4 >>> (x5 &&& 31)) &&& 1) = 0 then
        (fX1_weightOf w o1 x5).bind fun v5 =>
        (fX5_at w (o + 4) 6 x5).bind fun v6 =>
        lX2_highOf_22 o o1 n w (x3 + (v5 * v6)) x4 (x5 + 1)
      else
        lX2_highOf_22 o o1 n w x3 x4 (x5 + 1)
set_option maxRecDepth 4000 in
theorem clX2_highOf_22 {g : Gx} {E : Ex} (C : CC g E cX2_highOf 6 RX2 2 42) (hR : RT g (some .int)) {o o1 : Nat} (hO : shR E.2.2.2.2.2.1 o) (hO1 : shO E.2.2.2.2.2.1 o1) (w : Wd)  : ∀ (n : Nat) (x3 : Int32) (x4 : Int32) (x5 : Int32), YO g E 6 (QP g E w) (lX2_highOf_22 o o1 n w x3 x4 x5) w 22 [(0, .ref (E.2.2.2.2.1 + o)), (1, .ref (E.2.2.2.2.1 + o1)), (3, .int x3), (4, .int x4), (5, .int x5)] [] := by
  intro n
  induction n with
  | zero => intro x3 x4 x5; exact y_no
  | succ n ih =>
    intro x3 x4 x5
    rw [lX2_highOf_22]
    refine y_iload (n := 24) C dX2_highOf_22 4 rfl rfl ?_
    refine y_bipush (n := 26) C (6 : Int32) dX2_highOf_24 (by decide) rfl ?_
    refine y_icmp_ge (tgt := 64) (n := 29) C dX2_highOf_26 (by decide) rfl (fun h3 => ?_) (fun h3 => ?_)
    · refine y_iload_n (n := 65) C dX2_highOf_64 2 rfl rfl ?_
      exact y_rp C hR dX2_highOf_65
    · refine y_iload (n := 31) C dX2_highOf_29 3 rfl rfl ?_
      refine y_iload (n := 33) C dX2_highOf_31 4 rfl rfl ?_
      refine y_ishr (n := 34) C dX2_highOf_33 rfl ?_
      refine y_iconst (n := 35) C (1 : Int32) dX2_highOf_34 (by decide) rfl ?_
      refine y_iand (n := 36) C dX2_highOf_35 rfl ?_
      refine y_if_ne (tgt := 58) (n := 39) C dX2_highOf_36 (by decide) rfl (fun h4 => ?_) (fun h4 => ?_)
      · refine y_iinc (n := 61) (v := x5 + 1) (ls' := [(5, .int (x5 + 1)), (0, .ref (E.2.2.2.2.1 + o)), (1, .ref (E.2.2.2.2.1 + o1)), (3, .int x3), (4, .int x4)]) C dX2_highOf_58 4 rfl rfl (by decide) rfl rfl ?_
        refine y_goto (tgt := 22) C dX2_highOf_61 (by decide) ?_
        refine y_ls [1, 2, 3, 4, 0] rfl ?_
        exact ih x3 x4 (x5 + 1)
      · refine y_iload_n (n := 40) C dX2_highOf_39 2 rfl rfl ?_
        refine y_aload_n (n := 41) C dX2_highOf_40 1 rfl rfl ?_
        refine y_iload (n := 43) C dX2_highOf_41 4 rfl rfl ?_
        refine y_cp (n := 46) C (fun r hr H locs la hP hS hl => y_runVN (ci := 1) (st := [.int x3]) C ky_X1_weightOf wd_352 ⟨Nat.le_of_ble_eq_true rfl, Nat.le_of_ble_eq_true rfl⟩ hO1.1 rfl (mX1_weightOf hO1 w x5 g.2.1 r hr) rfl (Nat.le_of_ble_eq_true rfl) rfl dX2_highOf_43 hP hS hl) rfl (fun v5 hv5 => ?_)
        refine y_aload_n (n := 47) C dX2_highOf_46 0 rfl rfl ?_
        refine y_get (ci := 2) (f := 10) (n := 50) C in_X2 hO.1 rfl (by decide) wd_80 rfl rfl dX2_highOf_47 rfl ?_
        refine y_iload (n := 52) C dX2_highOf_50 4 rfl rfl ?_
        refine y_cp (n := 55) C (fun r hr H locs la hP hS hl => y_runSN (st := [.int v5, .int x3]) C ky_X5_at wd_314 ⟨Nat.le_of_ble_eq_true rfl, Nat.le_of_ble_eq_true rfl⟩ (mX5_at hO.2.2.2.2.1 w x5 g.2.1 r hr) rfl (Nat.le_of_ble_eq_true rfl) rfl dX2_highOf_52 hP hS hl) rfl (fun v6 hv6 => ?_)
        refine y_imul (n := 56) C dX2_highOf_55 rfl ?_
        refine y_iadd (n := 57) C dX2_highOf_56 rfl ?_
        refine y_istore_n (n := 58) (ls' := [(3, .int (x3 + (v5 * v6))), (0, .ref (E.2.2.2.2.1 + o)), (1, .ref (E.2.2.2.2.1 + o1)), (4, .int x4), (5, .int x5)]) C dX2_highOf_57 (by decide) rfl rfl ?_
        refine y_iinc (n := 61) (v := x5 + 1) (ls' := [(5, .int (x5 + 1)), (3, .int (x3 + (v5 * v6))), (0, .ref (E.2.2.2.2.1 + o)), (1, .ref (E.2.2.2.2.1 + o1)), (4, .int x4)]) C dX2_highOf_58 4 rfl rfl (by decide) rfl rfl ?_
        refine y_goto (tgt := 22) C dX2_highOf_61 (by decide) ?_
        refine y_ls [2, 3, 1, 4, 0] rfl ?_
        exact ih (x3 + (v5 * v6)) x4 (x5 + 1)
def fX2_highOf (w : Wd) (o o1 : Nat) (a2 : Int32) : Option (Int32) :=
  (fX5_at w (o + 6) 60 a2).bind fun v1 =>
  (fX5_at w (o + 5) 60 a2).bind fun v2 =>
  lX2_highOf_22 o o1 4096 w v1 v2 0
set_option maxRecDepth 4000 in
theorem eX2_highOf {g : Gx} {E : Ex} (C : CC g E cX2_highOf 6 RX2 2 42) (hR : RT g (some .int)) {o o1 : Nat} (hO : shR E.2.2.2.2.2.1 o) (hO1 : shO E.2.2.2.2.2.1 o1) (w : Wd) (a2 : Int32) : YO g E 6 (QP g E w) (fX2_highOf w o o1 a2) w 0 [(0, .ref (E.2.2.2.2.1 + o)), (1, .ref (E.2.2.2.2.1 + o1)), (2, .int a2)] [] := by
  unfold fX2_highOf
  refine y_aload_n (n := 1) C dX2_highOf_0 0 rfl rfl ?_
  refine y_get (ci := 2) (f := 12) (n := 4) C in_X2 hO.1 rfl (by decide) wd_82 rfl rfl dX2_highOf_1 rfl ?_
  refine y_iload_n (n := 5) C dX2_highOf_4 2 rfl rfl ?_
  refine y_cp (n := 8) C (fun r hr H locs la hP hS hl => y_runSN (st := []) C ky_X5_at wd_314 ⟨Nat.le_of_ble_eq_true rfl, Nat.le_of_ble_eq_true rfl⟩ (mX5_at hO.2.2.2.2.2.2.1 w a2 g.2.1 r hr) rfl (Nat.le_of_ble_eq_true rfl) rfl dX2_highOf_5 hP hS hl) rfl (fun v1 hv1 => ?_)
  refine y_istore_n (n := 9) (ls' := [(3, .int v1), (0, .ref (E.2.2.2.2.1 + o)), (1, .ref (E.2.2.2.2.1 + o1)), (2, .int a2)]) C dX2_highOf_8 (by decide) rfl rfl ?_
  refine y_aload_n (n := 10) C dX2_highOf_9 1 rfl rfl ?_
  refine y_get (ci := 2) (f := 11) (n := 13) C in_X2 hO.1 rfl (by decide) wd_81 rfl rfl dX2_highOf_10 rfl ?_
  refine y_iload_n (n := 14) C dX2_highOf_13 3 rfl rfl ?_
  refine y_cp (n := 17) C (fun r hr H locs la hP hS hl => y_runSN (st := []) C ky_X5_at wd_314 ⟨Nat.le_of_ble_eq_true rfl, Nat.le_of_ble_eq_true rfl⟩ (mX5_at hO.2.2.2.2.2.1 w a2 g.2.1 r hr) rfl (Nat.le_of_ble_eq_true rfl) rfl dX2_highOf_14 hP hS hl) rfl (fun v2 hv2 => ?_)
  refine y_istore (n := 19) (ls' := [(4, .int v2), (3, .int v1), (0, .ref (E.2.2.2.2.1 + o)), (1, .ref (E.2.2.2.2.1 + o1)), (2, .int a2)]) C dX2_highOf_17 (by decide) rfl rfl ?_
  refine y_iconst (n := 20) C (0 : Int32) dX2_highOf_19 (by decide) rfl ?_
  refine y_istore (n := 22) (ls' := [(5, .int 0), (4, .int v2), (3, .int v1), (0, .ref (E.2.2.2.2.1 + o)), (1, .ref (E.2.2.2.2.1 + o1)), (2, .int a2)]) C dX2_highOf_20 (by decide) rfl rfl ?_
  refine y_ls [3, 4, 2, 1, 0] rfl ?_
  exact clX2_highOf_22 C hR hO hO1 w 4096 v1 v2 0
theorem mX2_highOf {E : Ex} {o o1 : Nat} (hO : shR E.2.2.2.2.2.1 o) (hO1 : shO E.2.2.2.2.2.1 o1) (w : Wd) (a2 : Int32) (l : Launch) : MP l yX2_highOf cX2_highOf 6 (some .int) { frames := 2, cells := 0, slots := 0, locals := 42 } E [.ref (E.2.2.2.2.1 + o), .ref (E.2.2.2.2.1 + o1), .int a2] w (fX2_highOf w o o1 a2) :=
  y_met (Qc := fun r => yQi E (r, w)) (by decide +kernel) (Nat.le_of_ble_eq_true rfl) (fun g C hR => eX2_highOf C hR hO hO1 w a2) l
def fX2_hasRest (w : Wd) (o o1 : Nat) (a2 : Int32) : Option (Int32) :=
  (fX1_isAsked w o1 a2).bind fun v1 =>
  if v1 = 0 then
    rtZ 0
  else
    (fX5_at w (o + 1) 6 a2).bind fun v3 =>
    (fX1_sizeOf w o1 a2).bind fun v4 =>
    if v4 ≤ v3 then
      rtZ 0
    else
      rtZ 1
set_option maxRecDepth 4000 in
theorem eX2_hasRest {g : Gx} {E : Ex} (C : CC g E cX2_hasRest 3 RX2 2 42) (hR : RT g (some .boolean)) {o o1 : Nat} (hO : shR E.2.2.2.2.2.1 o) (hO1 : shO E.2.2.2.2.2.1 o1) (w : Wd) (a2 : Int32) : YO g E 3 (QP g E w) (fX2_hasRest w o o1 a2) w 0 [(0, .ref (E.2.2.2.2.1 + o)), (1, .ref (E.2.2.2.2.1 + o1)), (2, .int a2)] [] := by
  unfold fX2_hasRest
  refine y_aload_n (n := 1) C dX2_hasRest_0 1 rfl rfl ?_
  refine y_iload_n (n := 2) C dX2_hasRest_1 2 rfl rfl ?_
  refine y_cp (n := 5) C (fun r hr H locs la hP hS hl => y_runVN (ci := 1) (st := []) C ky_X1_isAsked wd_343 ⟨Nat.le_of_ble_eq_true rfl, Nat.le_of_ble_eq_true rfl⟩ hO1.1 rfl (mX1_isAsked hO1 w a2 g.2.1 r hr) rfl (Nat.le_of_ble_eq_true rfl) rfl dX2_hasRest_2 hP hS hl) rfl (fun v1 hv1 => ?_)
  refine y_if_eq (tgt := 28) (n := 8) C dX2_hasRest_5 (by decide) rfl (fun h2 => ?_) (fun h2 => ?_)
  · refine y_iconst (n := 29) C (0 : Int32) dX2_hasRest_28 (by decide) rfl ?_
    exact y_rz C hR dX2_hasRest_29
  · refine y_aload_n (n := 9) C dX2_hasRest_8 0 rfl rfl ?_
    refine y_get (ci := 2) (f := 7) (n := 12) C in_X2 hO.1 rfl (by decide) wd_77 rfl rfl dX2_hasRest_9 rfl ?_
    refine y_iload_n (n := 13) C dX2_hasRest_12 2 rfl rfl ?_
    refine y_cp (n := 16) C (fun r hr H locs la hP hS hl => y_runSN (st := []) C ky_X5_at wd_314 ⟨Nat.le_of_ble_eq_true rfl, Nat.le_of_ble_eq_true rfl⟩ (mX5_at hO.2.1 w a2 g.2.1 r hr) rfl (Nat.le_of_ble_eq_true rfl) rfl dX2_hasRest_13 hP hS hl) rfl (fun v3 hv3 => ?_)
    refine y_aload_n (n := 17) C dX2_hasRest_16 1 rfl rfl ?_
    refine y_iload_n (n := 18) C dX2_hasRest_17 2 rfl rfl ?_
    refine y_cp (n := 21) C (fun r hr H locs la hP hS hl => y_runVN (ci := 1) (st := [.int v3]) C ky_X1_sizeOf wd_344 ⟨Nat.le_of_ble_eq_true rfl, Nat.le_of_ble_eq_true rfl⟩ hO1.1 rfl (mX1_sizeOf hO1 w a2 g.2.1 r hr) rfl (Nat.le_of_ble_eq_true rfl) rfl dX2_hasRest_18 hP hS hl) rfl (fun v4 hv4 => ?_)
    refine y_icmp_ge (tgt := 28) (n := 24) C dX2_hasRest_21 (by decide) rfl (fun h5 => ?_) (fun h5 => ?_)
    · refine y_iconst (n := 29) C (0 : Int32) dX2_hasRest_28 (by decide) rfl ?_
      exact y_rz C hR dX2_hasRest_29
    · refine y_iconst (n := 25) C (1 : Int32) dX2_hasRest_24 (by decide) rfl ?_
      refine y_goto (tgt := 29) C dX2_hasRest_25 (by decide) ?_
      exact y_rz C hR dX2_hasRest_29
theorem mX2_hasRest {E : Ex} {o o1 : Nat} (hO : shR E.2.2.2.2.2.1 o) (hO1 : shO E.2.2.2.2.2.1 o1) (w : Wd) (a2 : Int32) (l : Launch) : MP l yX2_hasRest cX2_hasRest 3 (some .boolean) { frames := 2, cells := 0, slots := 0, locals := 42 } E [.ref (E.2.2.2.2.1 + o), .ref (E.2.2.2.2.1 + o1), .int a2] w (fX2_hasRest w o o1 a2) :=
  y_met (Qc := fun r => yQi E (r, w)) (by decide +kernel) (Nat.le_of_ble_eq_true rfl) (fun g C hR => eX2_hasRest C hR hO hO1 w a2) l
def lX2_nextInTurn_2 (o o1 : Nat) : Nat → Wd → Int32 → Option (Int32)
  | 0, _, _ => none
  | n + 1, w, x2 =>
    if 6 < x2 then
      some (-5)
    else
      (fX2_hasRest w o o1 (((w.1 o 3) + x2) - ((w.1 o 3) + x2) / 6 * 6)).bind fun v2 =>
      if v2 = 0 then
        lX2_nextInTurn_2 o o1 n w (x2 + 1)
      else
        some (((w.1 o 3) + x2) - ((w.1 o 3) + x2) / 6 * 6)
set_option maxRecDepth 4000 in
theorem clX2_nextInTurn_2 {g : Gx} {E : Ex} (C : CC g E cX2_nextInTurn 4 RX2 3 64) (hR : RT g (some .int)) {o o1 : Nat} (hO : shR E.2.2.2.2.2.1 o) (hO1 : shO E.2.2.2.2.2.1 o1) (w : Wd)  : ∀ (n : Nat) (x2 : Int32), YO g E 4 (QP g E w) (lX2_nextInTurn_2 o o1 n w x2) w 2 [(0, .ref (E.2.2.2.2.1 + o)), (1, .ref (E.2.2.2.2.1 + o1)), (2, .int x2)] [] := by
  intro n
  induction n with
  | zero => intro x2; exact y_no
  | succ n ih =>
    intro x2
    rw [lX2_nextInTurn_2]
    refine y_iload_n (n := 3) C dX2_nextInTurn_2 2 rfl rfl ?_
    refine y_bipush (n := 5) C (6 : Int32) dX2_nextInTurn_3 (by decide) rfl ?_
    refine y_icmp_gt (tgt := 35) (n := 8) C dX2_nextInTurn_5 (by decide) rfl (fun h1 => ?_) (fun h1 => ?_)
    · refine y_bipush (n := 37) C ((-5) : Int32) dX2_nextInTurn_35 (by decide) rfl ?_
      exact y_rp C hR dX2_nextInTurn_37
    · refine y_aload_n (n := 9) C dX2_nextInTurn_8 0 rfl rfl ?_
      refine y_get (ci := 2) (f := 3) (n := 12) C in_X2 hO.1 rfl (by decide) wd_71 rfl rfl dX2_nextInTurn_9 rfl ?_
      refine y_iload_n (n := 13) C dX2_nextInTurn_12 2 rfl rfl ?_
      refine y_iadd (n := 14) C dX2_nextInTurn_13 rfl ?_
      refine y_bipush (n := 16) C (6 : Int32) dX2_nextInTurn_14 (by decide) rfl ?_
      refine y_irem (n := 17) C dX2_nextInTurn_16 (by decide) rfl ?_
      refine y_istore_n (n := 18) (ls' := [(3, .int (((w.1 o 3) + x2) - ((w.1 o 3) + x2) / 6 * 6)), (0, .ref (E.2.2.2.2.1 + o)), (1, .ref (E.2.2.2.2.1 + o1)), (2, .int x2)]) C dX2_nextInTurn_17 (by decide) rfl rfl ?_
      refine y_aload_n (n := 19) C dX2_nextInTurn_18 1 rfl rfl ?_
      refine y_aload_n (n := 20) C dX2_nextInTurn_19 2 rfl rfl ?_
      refine y_iload_n (n := 21) C dX2_nextInTurn_20 0 rfl rfl ?_
      refine y_cp (n := 24) C (fun r hr H locs la hP hS hl => y_runV (ci := 2) (st := []) C ky_X2_hasRest wd_339 ⟨Nat.le_of_ble_eq_true rfl, Nat.le_of_ble_eq_true rfl⟩ hO.1 rfl (mX2_hasRest hO hO1 w (((w.1 o 3) + x2) - ((w.1 o 3) + x2) / 6 * 6) g.2.1 r hr) rfl (Nat.le_of_ble_eq_true rfl) rfl dX2_nextInTurn_21 hP hS hl) rfl (fun v2 hv2 => ?_)
      refine y_if_eq (tgt := 29) (n := 27) C dX2_nextInTurn_24 (by decide) rfl (fun h3 => ?_) (fun h3 => ?_)
      · refine y_iinc (n := 32) (v := x2 + 1) (ls' := [(2, .int (x2 + 1)), (3, .int (((w.1 o 3) + x2) - ((w.1 o 3) + x2) / 6 * 6)), (0, .ref (E.2.2.2.2.1 + o)), (1, .ref (E.2.2.2.2.1 + o1))]) C dX2_nextInTurn_29 3 rfl rfl (by decide) rfl rfl ?_
        refine y_goto (tgt := 2) C dX2_nextInTurn_32 (by decide) ?_
        refine y_ls [2, 3, 0] rfl ?_
        exact ih (x2 + 1)
      · refine y_iload_n (n := 28) C dX2_nextInTurn_27 0 rfl rfl ?_
        exact y_rp C hR dX2_nextInTurn_28
def fX2_nextInTurn (w : Wd) (o o1 : Nat)  : Option (Int32) :=
  lX2_nextInTurn_2 o o1 4096 w 1
set_option maxRecDepth 4000 in
theorem eX2_nextInTurn {g : Gx} {E : Ex} (C : CC g E cX2_nextInTurn 4 RX2 3 64) (hR : RT g (some .int)) {o o1 : Nat} (hO : shR E.2.2.2.2.2.1 o) (hO1 : shO E.2.2.2.2.2.1 o1) (w : Wd)  : YO g E 4 (QP g E w) (fX2_nextInTurn w o o1) w 0 [(0, .ref (E.2.2.2.2.1 + o)), (1, .ref (E.2.2.2.2.1 + o1))] [] := by
  unfold fX2_nextInTurn
  refine y_iconst (n := 1) C (1 : Int32) dX2_nextInTurn_0 (by decide) rfl ?_
  refine y_istore_n (n := 2) (ls' := [(2, .int 1), (0, .ref (E.2.2.2.2.1 + o)), (1, .ref (E.2.2.2.2.1 + o1))]) C dX2_nextInTurn_1 (by decide) rfl rfl ?_
  refine y_ls [1, 2, 0] rfl ?_
  exact clX2_nextInTurn_2 C hR hO hO1 w 4096 1
theorem mX2_nextInTurn {E : Ex} {o o1 : Nat} (hO : shR E.2.2.2.2.2.1 o) (hO1 : shO E.2.2.2.2.2.1 o1) (w : Wd)  (l : Launch) : MP l yX2_nextInTurn cX2_nextInTurn 4 (some .int) { frames := 3, cells := 0, slots := 0, locals := 64 } E [.ref (E.2.2.2.2.1 + o), .ref (E.2.2.2.2.1 + o1)] w (fX2_nextInTurn w o o1) :=
  y_met (Qc := fun r => yQi E (r, w)) (by decide +kernel) (Nat.le_of_ble_eq_true rfl) (fun g C hR => eX2_nextInTurn C hR hO hO1 w ) l
def lX2_weighedBounds_4 (o o1 : Nat) : Nat → Wd → Int32 → Int32 → Option (Int32)
  | 0, _, _, _ => none
  | n + 1, w, x2, x3 =>
    if 6 ≤ x3 then
      some x2
    else
      (fX1_weightOf w o1 x3).bind fun v2 =>
      (fX5_at w (o + 4) 6 x3).bind fun v3 =>
      lX2_weighedBounds_4 o o1 n w (x2 + (v2 * v3)) (x3 + 1)
set_option maxRecDepth 4000 in
theorem clX2_weighedBounds_4 {g : Gx} {E : Ex} (C : CC g E cX2_weighedBounds 4 RX2 2 42) (hR : RT g (some .int)) {o o1 : Nat} (hO : shR E.2.2.2.2.2.1 o) (hO1 : shO E.2.2.2.2.2.1 o1) (w : Wd)  : ∀ (n : Nat) (x2 : Int32) (x3 : Int32), YO g E 4 (QP g E w) (lX2_weighedBounds_4 o o1 n w x2 x3) w 4 [(0, .ref (E.2.2.2.2.1 + o)), (1, .ref (E.2.2.2.2.1 + o1)), (2, .int x2), (3, .int x3)] [] := by
  intro n
  induction n with
  | zero => intro x2 x3; exact y_no
  | succ n ih =>
    intro x2 x3
    rw [lX2_weighedBounds_4]
    refine y_iload_n (n := 5) C dX2_weighedBounds_4 3 rfl rfl ?_
    refine y_bipush (n := 7) C (6 : Int32) dX2_weighedBounds_5 (by decide) rfl ?_
    refine y_icmp_ge (tgt := 33) (n := 10) C dX2_weighedBounds_7 (by decide) rfl (fun h1 => ?_) (fun h1 => ?_)
    · refine y_iload_n (n := 34) C dX2_weighedBounds_33 2 rfl rfl ?_
      exact y_rp C hR dX2_weighedBounds_34
    · refine y_iload_n (n := 11) C dX2_weighedBounds_10 2 rfl rfl ?_
      refine y_aload_n (n := 12) C dX2_weighedBounds_11 1 rfl rfl ?_
      refine y_iload_n (n := 13) C dX2_weighedBounds_12 3 rfl rfl ?_
      refine y_cp (n := 16) C (fun r hr H locs la hP hS hl => y_runVN (ci := 1) (st := [.int x2]) C ky_X1_weightOf wd_352 ⟨Nat.le_of_ble_eq_true rfl, Nat.le_of_ble_eq_true rfl⟩ hO1.1 rfl (mX1_weightOf hO1 w x3 g.2.1 r hr) rfl (Nat.le_of_ble_eq_true rfl) rfl dX2_weighedBounds_13 hP hS hl) rfl (fun v2 hv2 => ?_)
      refine y_aload_n (n := 17) C dX2_weighedBounds_16 0 rfl rfl ?_
      refine y_get (ci := 2) (f := 10) (n := 20) C in_X2 hO.1 rfl (by decide) wd_80 rfl rfl dX2_weighedBounds_17 rfl ?_
      refine y_iload_n (n := 21) C dX2_weighedBounds_20 3 rfl rfl ?_
      refine y_cp (n := 24) C (fun r hr H locs la hP hS hl => y_runSN (st := [.int v2, .int x2]) C ky_X5_at wd_314 ⟨Nat.le_of_ble_eq_true rfl, Nat.le_of_ble_eq_true rfl⟩ (mX5_at hO.2.2.2.2.1 w x3 g.2.1 r hr) rfl (Nat.le_of_ble_eq_true rfl) rfl dX2_weighedBounds_21 hP hS hl) rfl (fun v3 hv3 => ?_)
      refine y_imul (n := 25) C dX2_weighedBounds_24 rfl ?_
      refine y_iadd (n := 26) C dX2_weighedBounds_25 rfl ?_
      refine y_istore_n (n := 27) (ls' := [(2, .int (x2 + (v2 * v3))), (0, .ref (E.2.2.2.2.1 + o)), (1, .ref (E.2.2.2.2.1 + o1)), (3, .int x3)]) C dX2_weighedBounds_26 (by decide) rfl rfl ?_
      refine y_iinc (n := 30) (v := x3 + 1) (ls' := [(3, .int (x3 + 1)), (2, .int (x2 + (v2 * v3))), (0, .ref (E.2.2.2.2.1 + o)), (1, .ref (E.2.2.2.2.1 + o1))]) C dX2_weighedBounds_27 3 rfl rfl (by decide) rfl rfl ?_
      refine y_goto (tgt := 4) C dX2_weighedBounds_30 (by decide) ?_
      refine y_ls [2, 3, 1, 0] rfl ?_
      exact ih (x2 + (v2 * v3)) (x3 + 1)
def fX2_weighedBounds (w : Wd) (o o1 : Nat)  : Option (Int32) :=
  lX2_weighedBounds_4 o o1 4096 w 0 0
set_option maxRecDepth 4000 in
theorem eX2_weighedBounds {g : Gx} {E : Ex} (C : CC g E cX2_weighedBounds 4 RX2 2 42) (hR : RT g (some .int)) {o o1 : Nat} (hO : shR E.2.2.2.2.2.1 o) (hO1 : shO E.2.2.2.2.2.1 o1) (w : Wd)  : YO g E 4 (QP g E w) (fX2_weighedBounds w o o1) w 0 [(0, .ref (E.2.2.2.2.1 + o)), (1, .ref (E.2.2.2.2.1 + o1))] [] := by
  unfold fX2_weighedBounds
  refine y_iconst (n := 1) C (0 : Int32) dX2_weighedBounds_0 (by decide) rfl ?_
  refine y_istore_n (n := 2) (ls' := [(2, .int 0), (0, .ref (E.2.2.2.2.1 + o)), (1, .ref (E.2.2.2.2.1 + o1))]) C dX2_weighedBounds_1 (by decide) rfl rfl ?_
  refine y_iconst (n := 3) C (0 : Int32) dX2_weighedBounds_2 (by decide) rfl ?_
  refine y_istore_n (n := 4) (ls' := [(3, .int 0), (2, .int 0), (0, .ref (E.2.2.2.2.1 + o)), (1, .ref (E.2.2.2.2.1 + o1))]) C dX2_weighedBounds_3 (by decide) rfl rfl ?_
  refine y_ls [2, 3, 1, 0] rfl ?_
  exact clX2_weighedBounds_4 C hR hO hO1 w 4096 0 0
theorem mX2_weighedBounds {E : Ex} {o o1 : Nat} (hO : shR E.2.2.2.2.2.1 o) (hO1 : shO E.2.2.2.2.2.1 o1) (w : Wd)  (l : Launch) : MP l yX2_weighedBounds cX2_weighedBounds 4 (some .int) { frames := 2, cells := 0, slots := 0, locals := 42 } E [.ref (E.2.2.2.2.1 + o), .ref (E.2.2.2.2.1 + o1)] w (fX2_weighedBounds w o o1) :=
  y_met (Qc := fun r => yQi E (r, w)) (by decide +kernel) (Nat.le_of_ble_eq_true rfl) (fun g C hR => eX2_weighedBounds C hR hO hO1 w ) l
def lX2_isOver_65 (o o1 : Nat) : Nat → Wd → Int32 → Int32 → Int32 → Option (Int32)
  | 0, _, _, _, _ => none
  | n + 1, w, x2, x3, x4 =>
    if (w.1 o 15) ≤ x4 then
      rtZ 1
    else
      (fX5_at w (o + 8) 60 x4).bind fun v9 =>
      (fX2_highOf w o o1 v9).bind fun v10 =>
      if x3 < v10 then
        rtZ 0
      else
        if v10 = x3 then
          if x2 ≤ v9 then
            lX2_isOver_65 o o1 n w x2 x3 (x4 + 1)
          else
            rtZ 0
        else
          lX2_isOver_65 o o1 n w x2 x3 (x4 + 1)
set_option maxRecDepth 4000 in
theorem clX2_isOver_65 {g : Gx} {E : Ex} (C : CC g E cX2_isOver 7 RX2 4 87) (hR : RT g (some .boolean)) {o o1 : Nat} (hO : shR E.2.2.2.2.2.1 o) (hO1 : shO E.2.2.2.2.2.1 o1) (w : Wd)  : ∀ (n : Nat) (x2 : Int32) (x3 : Int32) (x4 : Int32), YO g E 7 (QP g E w) (lX2_isOver_65 o o1 n w x2 x3 x4) w 65 [(0, .ref (E.2.2.2.2.1 + o)), (1, .ref (E.2.2.2.2.1 + o1)), (2, .int x2), (3, .int x3), (4, .int x4)] [] := by
  intro n
  induction n with
  | zero => intro x2 x3 x4; exact y_no
  | succ n ih =>
    intro x2 x3 x4
    rw [lX2_isOver_65]
    refine y_iload (n := 67) C dX2_isOver_65 4 rfl rfl ?_
    refine y_aload_n (n := 68) C dX2_isOver_67 0 rfl rfl ?_
    refine y_get (ci := 2) (f := 15) (n := 71) C in_X2 hO.1 rfl (by decide) wd_88 rfl rfl dX2_isOver_68 rfl ?_
    refine y_icmp_ge (tgt := 120) (n := 74) C dX2_isOver_71 (by decide) rfl (fun h8 => ?_) (fun h8 => ?_)
    · refine y_iconst (n := 121) C (1 : Int32) dX2_isOver_120 (by decide) rfl ?_
      exact y_rz C hR dX2_isOver_121
    · refine y_aload_n (n := 75) C dX2_isOver_74 0 rfl rfl ?_
      refine y_get (ci := 2) (f := 14) (n := 78) C in_X2 hO.1 rfl (by decide) wd_86 rfl rfl dX2_isOver_75 rfl ?_
      refine y_iload (n := 80) C dX2_isOver_78 4 rfl rfl ?_
      refine y_cp (n := 83) C (fun r hr H locs la hP hS hl => y_runSN (st := []) C ky_X5_at wd_314 ⟨Nat.le_of_ble_eq_true rfl, Nat.le_of_ble_eq_true rfl⟩ (mX5_at hO.2.2.2.2.2.2.2.2 w x4 g.2.1 r hr) rfl (Nat.le_of_ble_eq_true rfl) rfl dX2_isOver_80 hP hS hl) rfl (fun v9 hv9 => ?_)
      refine y_istore (n := 85) (ls' := [(5, .int v9), (0, .ref (E.2.2.2.2.1 + o)), (1, .ref (E.2.2.2.2.1 + o1)), (2, .int x2), (3, .int x3), (4, .int x4)]) C dX2_isOver_83 (by decide) rfl rfl ?_
      refine y_aload_n (n := 86) C dX2_isOver_85 1 rfl rfl ?_
      refine y_aload_n (n := 87) C dX2_isOver_86 2 rfl rfl ?_
      refine y_iload (n := 89) C dX2_isOver_87 0 rfl rfl ?_
      refine y_cp (n := 92) C (fun r hr H locs la hP hS hl => y_runV (ci := 2) (st := []) C ky_X2_highOf wd_356 ⟨Nat.le_of_ble_eq_true rfl, Nat.le_of_ble_eq_true rfl⟩ hO.1 rfl (mX2_highOf hO hO1 w v9 g.2.1 r hr) rfl (Nat.le_of_ble_eq_true rfl) rfl dX2_isOver_89 hP hS hl) rfl (fun v10 hv10 => ?_)
      refine y_istore (n := 94) (ls' := [(6, .int v10), (5, .int v9), (0, .ref (E.2.2.2.2.1 + o)), (1, .ref (E.2.2.2.2.1 + o1)), (2, .int x2), (3, .int x3), (4, .int x4)]) C dX2_isOver_92 (by decide) rfl rfl ?_
      refine y_iload (n := 96) C dX2_isOver_94 0 rfl rfl ?_
      refine y_iload_n (n := 97) C dX2_isOver_96 5 rfl rfl ?_
      refine y_icmp_gt (tgt := 112) (n := 100) C dX2_isOver_97 (by decide) rfl (fun h11 => ?_) (fun h11 => ?_)
      · refine y_iconst (n := 113) C (0 : Int32) dX2_isOver_112 (by decide) rfl ?_
        exact y_rz C hR dX2_isOver_113
      · refine y_iload (n := 102) C dX2_isOver_100 0 rfl rfl ?_
        refine y_iload_n (n := 103) C dX2_isOver_102 5 rfl rfl ?_
        refine y_icmp_ne (tgt := 114) (n := 106) C dX2_isOver_103 (by decide) rfl (fun h12 => ?_) (fun h12 => ?_)
        · refine y_iinc (n := 117) (v := x4 + 1) (ls' := [(4, .int (x4 + 1)), (6, .int v10), (5, .int v9), (0, .ref (E.2.2.2.2.1 + o)), (1, .ref (E.2.2.2.2.1 + o1)), (2, .int x2), (3, .int x3)]) C dX2_isOver_114 6 rfl rfl (by decide) rfl rfl ?_
          refine y_goto (tgt := 65) C dX2_isOver_117 (by decide) ?_
          refine y_ls [3, 4, 5, 6, 0] rfl ?_
          exact ih x2 x3 (x4 + 1)
        · refine y_iload (n := 108) C dX2_isOver_106 1 rfl rfl ?_
          refine y_iload_n (n := 109) C dX2_isOver_108 4 rfl rfl ?_
          refine y_icmp_ge (tgt := 114) (n := 112) C dX2_isOver_109 (by decide) rfl (fun h13 => ?_) (fun h13 => ?_)
          · refine y_iinc (n := 117) (v := x4 + 1) (ls' := [(4, .int (x4 + 1)), (6, .int v10), (5, .int v9), (0, .ref (E.2.2.2.2.1 + o)), (1, .ref (E.2.2.2.2.1 + o1)), (2, .int x2), (3, .int x3)]) C dX2_isOver_114 6 rfl rfl (by decide) rfl rfl ?_
            refine y_goto (tgt := 65) C dX2_isOver_117 (by decide) ?_
            refine y_ls [3, 4, 5, 6, 0] rfl ?_
            exact ih x2 x3 (x4 + 1)
          · refine y_iconst (n := 113) C (0 : Int32) dX2_isOver_112 (by decide) rfl ?_
            exact y_rz C hR dX2_isOver_113
def fX2_isOver (w : Wd) (o o1 : Nat)  : Option (Int32) :=
  (fX2_nextInTurn w o o1).bind fun v1 =>
  if v1 = (-5) then
    rtZ 1
  else
    if (w.1 o1 6) ≤ (w.1 o 15) then
      (fX5_at w (o + 8) 60 ((w.1 o1 6) - 1)).bind fun v4 =>
      (fX5_at w (o + 6) 60 v4).bind fun v5 =>
      (fX2_weighedBounds w o o1).bind fun v6 =>
      if v6 < v5 then
        lX2_isOver_65 o o1 4096 w v4 v5 (w.1 o1 6)
      else
        rtZ 0
    else
      rtZ 0
set_option maxRecDepth 4000 in
theorem eX2_isOver {g : Gx} {E : Ex} (C : CC g E cX2_isOver 7 RX2 4 87) (hR : RT g (some .boolean)) {o o1 : Nat} (hO : shR E.2.2.2.2.2.1 o) (hO1 : shO E.2.2.2.2.2.1 o1) (w : Wd)  : YO g E 7 (QP g E w) (fX2_isOver w o o1) w 0 [(0, .ref (E.2.2.2.2.1 + o)), (1, .ref (E.2.2.2.2.1 + o1))] [] := by
  unfold fX2_isOver
  refine y_aload_n (n := 1) C dX2_isOver_0 0 rfl rfl ?_
  refine y_aload_n (n := 2) C dX2_isOver_1 1 rfl rfl ?_
  refine y_cp (n := 5) C (fun r hr H locs la hP hS hl => y_runV (ci := 2) (st := []) C ky_X2_nextInTurn wd_335 ⟨Nat.le_of_ble_eq_true rfl, Nat.le_of_ble_eq_true rfl⟩ hO.1 rfl (mX2_nextInTurn hO hO1 w g.2.1 r hr) rfl (Nat.le_of_ble_eq_true rfl) rfl dX2_isOver_2 hP hS hl) rfl (fun v1 hv1 => ?_)
  refine y_bipush (n := 7) C ((-5) : Int32) dX2_isOver_5 (by decide) rfl ?_
  refine y_icmp_ne (tgt := 12) (n := 10) C dX2_isOver_7 (by decide) rfl (fun h2 => ?_) (fun h2 => ?_)
  · refine y_aload_n (n := 13) C dX2_isOver_12 0 rfl rfl ?_
    refine y_get (ci := 2) (f := 15) (n := 16) C in_X2 hO.1 rfl (by decide) wd_88 rfl rfl dX2_isOver_13 rfl ?_
    refine y_aload_n (n := 17) C dX2_isOver_16 1 rfl rfl ?_
    refine y_getN (ci := 1) (f := 6) (n := 20) C in_X1 hO1.1 rfl (by decide) wd_44 rfl rfl dX2_isOver_17 rfl ?_
    refine y_icmp_ge (tgt := 25) (n := 23) C dX2_isOver_20 (by decide) rfl (fun h3 => ?_) (fun h3 => ?_)
    · refine y_aload_n (n := 26) C dX2_isOver_25 0 rfl rfl ?_
      refine y_get (ci := 2) (f := 14) (n := 29) C in_X2 hO.1 rfl (by decide) wd_86 rfl rfl dX2_isOver_26 rfl ?_
      refine y_aload_n (n := 30) C dX2_isOver_29 1 rfl rfl ?_
      refine y_getN (ci := 1) (f := 6) (n := 33) C in_X1 hO1.1 rfl (by decide) wd_44 rfl rfl dX2_isOver_30 rfl ?_
      refine y_iconst (n := 34) C (1 : Int32) dX2_isOver_33 (by decide) rfl ?_
      refine y_isub (n := 35) C dX2_isOver_34 rfl ?_
      refine y_cp (n := 38) C (fun r hr H locs la hP hS hl => y_runSN (st := []) C ky_X5_at wd_314 ⟨Nat.le_of_ble_eq_true rfl, Nat.le_of_ble_eq_true rfl⟩ (mX5_at hO.2.2.2.2.2.2.2.2 w ((w.1 o1 6) - 1) g.2.1 r hr) rfl (Nat.le_of_ble_eq_true rfl) rfl dX2_isOver_35 hP hS hl) rfl (fun v4 hv4 => ?_)
      refine y_istore_n (n := 39) (ls' := [(2, .int v4), (0, .ref (E.2.2.2.2.1 + o)), (1, .ref (E.2.2.2.2.1 + o1))]) C dX2_isOver_38 (by decide) rfl rfl ?_
      refine y_aload_n (n := 40) C dX2_isOver_39 1 rfl rfl ?_
      refine y_get (ci := 2) (f := 12) (n := 43) C in_X2 hO.1 rfl (by decide) wd_82 rfl rfl dX2_isOver_40 rfl ?_
      refine y_iload_n (n := 44) C dX2_isOver_43 0 rfl rfl ?_
      refine y_cp (n := 47) C (fun r hr H locs la hP hS hl => y_runSN (st := []) C ky_X5_at wd_314 ⟨Nat.le_of_ble_eq_true rfl, Nat.le_of_ble_eq_true rfl⟩ (mX5_at hO.2.2.2.2.2.2.1 w v4 g.2.1 r hr) rfl (Nat.le_of_ble_eq_true rfl) rfl dX2_isOver_44 hP hS hl) rfl (fun v5 hv5 => ?_)
      refine y_istore_n (n := 48) (ls' := [(3, .int v5), (2, .int v4), (0, .ref (E.2.2.2.2.1 + o)), (1, .ref (E.2.2.2.2.1 + o1))]) C dX2_isOver_47 (by decide) rfl rfl ?_
      refine y_aload_n (n := 49) C dX2_isOver_48 2 rfl rfl ?_
      refine y_aload_n (n := 50) C dX2_isOver_49 3 rfl rfl ?_
      refine y_cp (n := 53) C (fun r hr H locs la hP hS hl => y_runV (ci := 2) (st := []) C ky_X2_weighedBounds wd_348 ⟨Nat.le_of_ble_eq_true rfl, Nat.le_of_ble_eq_true rfl⟩ hO.1 rfl (mX2_weighedBounds hO hO1 w g.2.1 r hr) rfl (Nat.le_of_ble_eq_true rfl) rfl dX2_isOver_50 hP hS hl) rfl (fun v6 hv6 => ?_)
      refine y_iload_n (n := 54) C dX2_isOver_53 0 rfl rfl ?_
      refine y_icmp_lt (tgt := 59) (n := 57) C dX2_isOver_54 (by decide) rfl (fun h7 => ?_) (fun h7 => ?_)
      · refine y_aload_n (n := 60) C dX2_isOver_59 3 rfl rfl ?_
        refine y_getN (ci := 1) (f := 6) (n := 63) C in_X1 hO1.1 rfl (by decide) wd_44 rfl rfl dX2_isOver_60 rfl ?_
        refine y_istore (n := 65) (ls' := [(4, .int (w.1 o1 6)), (3, .int v5), (2, .int v4), (0, .ref (E.2.2.2.2.1 + o)), (1, .ref (E.2.2.2.2.1 + o1))]) C dX2_isOver_63 (by decide) rfl rfl ?_
        refine y_ls [3, 4, 2, 1, 0] rfl ?_
        exact clX2_isOver_65 C hR hO hO1 w 4096 v4 v5 (w.1 o1 6)
      · refine y_iconst (n := 58) C (0 : Int32) dX2_isOver_57 (by decide) rfl ?_
        exact y_rz C hR dX2_isOver_58
    · refine y_iconst (n := 24) C (0 : Int32) dX2_isOver_23 (by decide) rfl ?_
      exact y_rz C hR dX2_isOver_24
  · refine y_iconst (n := 11) C (1 : Int32) dX2_isOver_10 (by decide) rfl ?_
    exact y_rz C hR dX2_isOver_11
theorem mX2_isOver {E : Ex} {o o1 : Nat} (hO : shR E.2.2.2.2.2.1 o) (hO1 : shO E.2.2.2.2.2.1 o1) (w : Wd)  (l : Launch) : MP l yX2_isOver cX2_isOver 7 (some .boolean) { frames := 4, cells := 0, slots := 0, locals := 87 } E [.ref (E.2.2.2.2.1 + o), .ref (E.2.2.2.2.1 + o1)] w (fX2_isOver w o o1) :=
  y_met (Qc := fun r => yQi E (r, w)) (by decide +kernel) (Nat.le_of_ble_eq_true rfl) (fun g C hR => eX2_isOver C hR hO hO1 w ) l
def lX2_nextByBounds_8 (o o1 : Nat) : Nat → Wd → Int32 → Int32 → Int32 → Option (Int32)
  | 0, _, _, _, _ => none
  | n + 1, w, x2, x3, x4 =>
    if 6 ≤ x4 then
      some x2
    else
      (fX1_weightOf w o1 x4).bind fun v2 =>
      (fX5_at w (o + 4) 6 x4).bind fun v3 =>
      (fX2_hasRest w o o1 x4).bind fun v4 =>
      if v4 = 0 then
        lX2_nextByBounds_8 o o1 n w x2 x3 (x4 + 1)
      else
        if (v2 * v3) ≤ x3 then
          lX2_nextByBounds_8 o o1 n w x2 x3 (x4 + 1)
        else
          lX2_nextByBounds_8 o o1 n w x4 (v2 * v3) (x4 + 1)
set_option maxRecDepth 4000 in
theorem clX2_nextByBounds_8 {g : Gx} {E : Ex} (C : CC g E cX2_nextByBounds 6 RX2 3 64) (hR : RT g (some .int)) {o o1 : Nat} (hO : shR E.2.2.2.2.2.1 o) (hO1 : shO E.2.2.2.2.2.1 o1) (w : Wd)  : ∀ (n : Nat) (x2 : Int32) (x3 : Int32) (x4 : Int32), YO g E 6 (QP g E w) (lX2_nextByBounds_8 o o1 n w x2 x3 x4) w 8 [(0, .ref (E.2.2.2.2.1 + o)), (1, .ref (E.2.2.2.2.1 + o1)), (2, .int x2), (3, .int x3), (4, .int x4)] [] := by
  intro n
  induction n with
  | zero => intro x2 x3 x4; exact y_no
  | succ n ih =>
    intro x2 x3 x4
    rw [lX2_nextByBounds_8]
    refine y_iload (n := 10) C dX2_nextByBounds_8 4 rfl rfl ?_
    refine y_bipush (n := 12) C (6 : Int32) dX2_nextByBounds_10 (by decide) rfl ?_
    refine y_icmp_ge (tgt := 61) (n := 15) C dX2_nextByBounds_12 (by decide) rfl (fun h1 => ?_) (fun h1 => ?_)
    · refine y_iload_n (n := 62) C dX2_nextByBounds_61 2 rfl rfl ?_
      exact y_rp C hR dX2_nextByBounds_62
    · refine y_aload_n (n := 16) C dX2_nextByBounds_15 1 rfl rfl ?_
      refine y_iload (n := 18) C dX2_nextByBounds_16 4 rfl rfl ?_
      refine y_cp (n := 21) C (fun r hr H locs la hP hS hl => y_runVN (ci := 1) (st := []) C ky_X1_weightOf wd_352 ⟨Nat.le_of_ble_eq_true rfl, Nat.le_of_ble_eq_true rfl⟩ hO1.1 rfl (mX1_weightOf hO1 w x4 g.2.1 r hr) rfl (Nat.le_of_ble_eq_true rfl) rfl dX2_nextByBounds_18 hP hS hl) rfl (fun v2 hv2 => ?_)
      refine y_aload_n (n := 22) C dX2_nextByBounds_21 0 rfl rfl ?_
      refine y_get (ci := 2) (f := 10) (n := 25) C in_X2 hO.1 rfl (by decide) wd_80 rfl rfl dX2_nextByBounds_22 rfl ?_
      refine y_iload (n := 27) C dX2_nextByBounds_25 4 rfl rfl ?_
      refine y_cp (n := 30) C (fun r hr H locs la hP hS hl => y_runSN (st := [.int v2]) C ky_X5_at wd_314 ⟨Nat.le_of_ble_eq_true rfl, Nat.le_of_ble_eq_true rfl⟩ (mX5_at hO.2.2.2.2.1 w x4 g.2.1 r hr) rfl (Nat.le_of_ble_eq_true rfl) rfl dX2_nextByBounds_27 hP hS hl) rfl (fun v3 hv3 => ?_)
      refine y_imul (n := 31) C dX2_nextByBounds_30 rfl ?_
      refine y_istore (n := 33) (ls' := [(5, .int (v2 * v3)), (0, .ref (E.2.2.2.2.1 + o)), (1, .ref (E.2.2.2.2.1 + o1)), (2, .int x2), (3, .int x3), (4, .int x4)]) C dX2_nextByBounds_31 (by decide) rfl rfl ?_
      refine y_aload_n (n := 34) C dX2_nextByBounds_33 1 rfl rfl ?_
      refine y_aload_n (n := 35) C dX2_nextByBounds_34 2 rfl rfl ?_
      refine y_iload (n := 37) C dX2_nextByBounds_35 5 rfl rfl ?_
      refine y_cp (n := 40) C (fun r hr H locs la hP hS hl => y_runV (ci := 2) (st := []) C ky_X2_hasRest wd_339 ⟨Nat.le_of_ble_eq_true rfl, Nat.le_of_ble_eq_true rfl⟩ hO.1 rfl (mX2_hasRest hO hO1 w x4 g.2.1 r hr) rfl (Nat.le_of_ble_eq_true rfl) rfl dX2_nextByBounds_37 hP hS hl) rfl (fun v4 hv4 => ?_)
      refine y_if_eq (tgt := 55) (n := 43) C dX2_nextByBounds_40 (by decide) rfl (fun h5 => ?_) (fun h5 => ?_)
      · refine y_iinc (n := 58) (v := x4 + 1) (ls' := [(4, .int (x4 + 1)), (5, .int (v2 * v3)), (0, .ref (E.2.2.2.2.1 + o)), (1, .ref (E.2.2.2.2.1 + o1)), (2, .int x2), (3, .int x3)]) C dX2_nextByBounds_55 5 rfl rfl (by decide) rfl rfl ?_
        refine y_goto (tgt := 8) C dX2_nextByBounds_58 (by decide) ?_
        refine y_ls [2, 3, 4, 5, 0] rfl ?_
        exact ih x2 x3 (x4 + 1)
      · refine y_iload (n := 45) C dX2_nextByBounds_43 0 rfl rfl ?_
        refine y_iload_n (n := 46) C dX2_nextByBounds_45 4 rfl rfl ?_
        refine y_icmp_le (tgt := 55) (n := 49) C dX2_nextByBounds_46 (by decide) rfl (fun h6 => ?_) (fun h6 => ?_)
        · refine y_iinc (n := 58) (v := x4 + 1) (ls' := [(4, .int (x4 + 1)), (5, .int (v2 * v3)), (0, .ref (E.2.2.2.2.1 + o)), (1, .ref (E.2.2.2.2.1 + o1)), (2, .int x2), (3, .int x3)]) C dX2_nextByBounds_55 5 rfl rfl (by decide) rfl rfl ?_
          refine y_goto (tgt := 8) C dX2_nextByBounds_58 (by decide) ?_
          refine y_ls [2, 3, 4, 5, 0] rfl ?_
          exact ih x2 x3 (x4 + 1)
        · refine y_iload (n := 51) C dX2_nextByBounds_49 5 rfl rfl ?_
          refine y_istore_n (n := 52) (ls' := [(2, .int x4), (5, .int (v2 * v3)), (0, .ref (E.2.2.2.2.1 + o)), (1, .ref (E.2.2.2.2.1 + o1)), (3, .int x3), (4, .int x4)]) C dX2_nextByBounds_51 (by decide) rfl rfl ?_
          refine y_iload (n := 54) C dX2_nextByBounds_52 1 rfl rfl ?_
          refine y_istore_n (n := 55) (ls' := [(3, .int (v2 * v3)), (2, .int x4), (5, .int (v2 * v3)), (0, .ref (E.2.2.2.2.1 + o)), (1, .ref (E.2.2.2.2.1 + o1)), (4, .int x4)]) C dX2_nextByBounds_54 (by decide) rfl rfl ?_
          refine y_iinc (n := 58) (v := x4 + 1) (ls' := [(4, .int (x4 + 1)), (3, .int (v2 * v3)), (2, .int x4), (5, .int (v2 * v3)), (0, .ref (E.2.2.2.2.1 + o)), (1, .ref (E.2.2.2.2.1 + o1))]) C dX2_nextByBounds_55 5 rfl rfl (by decide) rfl rfl ?_
          refine y_goto (tgt := 8) C dX2_nextByBounds_58 (by decide) ?_
          refine y_ls [4, 5, 2, 1, 0] rfl ?_
          exact ih x4 (v2 * v3) (x4 + 1)
def fX2_nextByBounds (w : Wd) (o o1 : Nat)  : Option (Int32) :=
  lX2_nextByBounds_8 o o1 4096 w (-5) (-1) 0
set_option maxRecDepth 4000 in
theorem eX2_nextByBounds {g : Gx} {E : Ex} (C : CC g E cX2_nextByBounds 6 RX2 3 64) (hR : RT g (some .int)) {o o1 : Nat} (hO : shR E.2.2.2.2.2.1 o) (hO1 : shO E.2.2.2.2.2.1 o1) (w : Wd)  : YO g E 6 (QP g E w) (fX2_nextByBounds w o o1) w 0 [(0, .ref (E.2.2.2.2.1 + o)), (1, .ref (E.2.2.2.2.1 + o1))] [] := by
  unfold fX2_nextByBounds
  refine y_bipush (n := 2) C ((-5) : Int32) dX2_nextByBounds_0 (by decide) rfl ?_
  refine y_istore_n (n := 3) (ls' := [(2, .int (-5)), (0, .ref (E.2.2.2.2.1 + o)), (1, .ref (E.2.2.2.2.1 + o1))]) C dX2_nextByBounds_2 (by decide) rfl rfl ?_
  refine y_iconst (n := 4) C ((-1) : Int32) dX2_nextByBounds_3 (by decide) rfl ?_
  refine y_istore_n (n := 5) (ls' := [(3, .int (-1)), (2, .int (-5)), (0, .ref (E.2.2.2.2.1 + o)), (1, .ref (E.2.2.2.2.1 + o1))]) C dX2_nextByBounds_4 (by decide) rfl rfl ?_
  refine y_iconst (n := 6) C (0 : Int32) dX2_nextByBounds_5 (by decide) rfl ?_
  refine y_istore (n := 8) (ls' := [(4, .int 0), (3, .int (-1)), (2, .int (-5)), (0, .ref (E.2.2.2.2.1 + o)), (1, .ref (E.2.2.2.2.1 + o1))]) C dX2_nextByBounds_6 (by decide) rfl rfl ?_
  refine y_ls [3, 4, 2, 1, 0] rfl ?_
  exact clX2_nextByBounds_8 C hR hO hO1 w 4096 (-5) (-1) 0
theorem mX2_nextByBounds {E : Ex} {o o1 : Nat} (hO : shR E.2.2.2.2.2.1 o) (hO1 : shO E.2.2.2.2.2.1 o1) (w : Wd)  (l : Launch) : MP l yX2_nextByBounds cX2_nextByBounds 6 (some .int) { frames := 3, cells := 0, slots := 0, locals := 64 } E [.ref (E.2.2.2.2.1 + o), .ref (E.2.2.2.2.1 + o1)] w (fX2_nextByBounds w o o1) :=
  y_met (Qc := fun r => yQi E (r, w)) (by decide +kernel) (Nat.le_of_ble_eq_true rfl) (fun g C hR => eX2_nextByBounds C hR hO hO1 w ) l
def lX2_nextByRest_9 (o o1 : Nat) : Nat → Wd → Int32 → Int32 → Int32 → Option (Int32)
  | 0, _, _, _, _ => none
  | n + 1, w, x2, x3, x4 =>
    if 6 ≤ x4 then
      some x2
    else
      (fX1_sizeOf w o1 x4).bind fun v2 =>
      (fX5_at w (o + 1) 6 x4).bind fun v3 =>
      (fX2_hasRest w o o1 x4).bind fun v4 =>
      if v4 = 0 then
        lX2_nextByRest_9 o o1 n w x2 x3 (x4 + 1)
      else
        if x3 ≤ (v2 - v3) then
          lX2_nextByRest_9 o o1 n w x2 x3 (x4 + 1)
        else
          lX2_nextByRest_9 o o1 n w x4 (v2 - v3) (x4 + 1)
set_option maxRecDepth 4000 in
theorem clX2_nextByRest_9 {g : Gx} {E : Ex} (C : CC g E cX2_nextByRest 6 RX2 3 64) (hR : RT g (some .int)) {o o1 : Nat} (hO : shR E.2.2.2.2.2.1 o) (hO1 : shO E.2.2.2.2.2.1 o1) (w : Wd)  : ∀ (n : Nat) (x2 : Int32) (x3 : Int32) (x4 : Int32), YO g E 6 (QP g E w) (lX2_nextByRest_9 o o1 n w x2 x3 x4) w 9 [(0, .ref (E.2.2.2.2.1 + o)), (1, .ref (E.2.2.2.2.1 + o1)), (2, .int x2), (3, .int x3), (4, .int x4)] [] := by
  intro n
  induction n with
  | zero => intro x2 x3 x4; exact y_no
  | succ n ih =>
    intro x2 x3 x4
    rw [lX2_nextByRest_9]
    refine y_iload (n := 11) C dX2_nextByRest_9 4 rfl rfl ?_
    refine y_bipush (n := 13) C (6 : Int32) dX2_nextByRest_11 (by decide) rfl ?_
    refine y_icmp_ge (tgt := 62) (n := 16) C dX2_nextByRest_13 (by decide) rfl (fun h1 => ?_) (fun h1 => ?_)
    · refine y_iload_n (n := 63) C dX2_nextByRest_62 2 rfl rfl ?_
      exact y_rp C hR dX2_nextByRest_63
    · refine y_aload_n (n := 17) C dX2_nextByRest_16 1 rfl rfl ?_
      refine y_iload (n := 19) C dX2_nextByRest_17 4 rfl rfl ?_
      refine y_cp (n := 22) C (fun r hr H locs la hP hS hl => y_runVN (ci := 1) (st := []) C ky_X1_sizeOf wd_344 ⟨Nat.le_of_ble_eq_true rfl, Nat.le_of_ble_eq_true rfl⟩ hO1.1 rfl (mX1_sizeOf hO1 w x4 g.2.1 r hr) rfl (Nat.le_of_ble_eq_true rfl) rfl dX2_nextByRest_19 hP hS hl) rfl (fun v2 hv2 => ?_)
      refine y_aload_n (n := 23) C dX2_nextByRest_22 0 rfl rfl ?_
      refine y_get (ci := 2) (f := 7) (n := 26) C in_X2 hO.1 rfl (by decide) wd_77 rfl rfl dX2_nextByRest_23 rfl ?_
      refine y_iload (n := 28) C dX2_nextByRest_26 4 rfl rfl ?_
      refine y_cp (n := 31) C (fun r hr H locs la hP hS hl => y_runSN (st := [.int v2]) C ky_X5_at wd_314 ⟨Nat.le_of_ble_eq_true rfl, Nat.le_of_ble_eq_true rfl⟩ (mX5_at hO.2.1 w x4 g.2.1 r hr) rfl (Nat.le_of_ble_eq_true rfl) rfl dX2_nextByRest_28 hP hS hl) rfl (fun v3 hv3 => ?_)
      refine y_isub (n := 32) C dX2_nextByRest_31 rfl ?_
      refine y_istore (n := 34) (ls' := [(5, .int (v2 - v3)), (0, .ref (E.2.2.2.2.1 + o)), (1, .ref (E.2.2.2.2.1 + o1)), (2, .int x2), (3, .int x3), (4, .int x4)]) C dX2_nextByRest_32 (by decide) rfl rfl ?_
      refine y_aload_n (n := 35) C dX2_nextByRest_34 1 rfl rfl ?_
      refine y_aload_n (n := 36) C dX2_nextByRest_35 2 rfl rfl ?_
      refine y_iload (n := 38) C dX2_nextByRest_36 5 rfl rfl ?_
      refine y_cp (n := 41) C (fun r hr H locs la hP hS hl => y_runV (ci := 2) (st := []) C ky_X2_hasRest wd_339 ⟨Nat.le_of_ble_eq_true rfl, Nat.le_of_ble_eq_true rfl⟩ hO.1 rfl (mX2_hasRest hO hO1 w x4 g.2.1 r hr) rfl (Nat.le_of_ble_eq_true rfl) rfl dX2_nextByRest_38 hP hS hl) rfl (fun v4 hv4 => ?_)
      refine y_if_eq (tgt := 56) (n := 44) C dX2_nextByRest_41 (by decide) rfl (fun h5 => ?_) (fun h5 => ?_)
      · refine y_iinc (n := 59) (v := x4 + 1) (ls' := [(4, .int (x4 + 1)), (5, .int (v2 - v3)), (0, .ref (E.2.2.2.2.1 + o)), (1, .ref (E.2.2.2.2.1 + o1)), (2, .int x2), (3, .int x3)]) C dX2_nextByRest_56 5 rfl rfl (by decide) rfl rfl ?_
        refine y_goto (tgt := 9) C dX2_nextByRest_59 (by decide) ?_
        refine y_ls [2, 3, 4, 5, 0] rfl ?_
        exact ih x2 x3 (x4 + 1)
      · refine y_iload (n := 46) C dX2_nextByRest_44 0 rfl rfl ?_
        refine y_iload_n (n := 47) C dX2_nextByRest_46 4 rfl rfl ?_
        refine y_icmp_ge (tgt := 56) (n := 50) C dX2_nextByRest_47 (by decide) rfl (fun h6 => ?_) (fun h6 => ?_)
        · refine y_iinc (n := 59) (v := x4 + 1) (ls' := [(4, .int (x4 + 1)), (5, .int (v2 - v3)), (0, .ref (E.2.2.2.2.1 + o)), (1, .ref (E.2.2.2.2.1 + o1)), (2, .int x2), (3, .int x3)]) C dX2_nextByRest_56 5 rfl rfl (by decide) rfl rfl ?_
          refine y_goto (tgt := 9) C dX2_nextByRest_59 (by decide) ?_
          refine y_ls [2, 3, 4, 5, 0] rfl ?_
          exact ih x2 x3 (x4 + 1)
        · refine y_iload (n := 52) C dX2_nextByRest_50 5 rfl rfl ?_
          refine y_istore_n (n := 53) (ls' := [(2, .int x4), (5, .int (v2 - v3)), (0, .ref (E.2.2.2.2.1 + o)), (1, .ref (E.2.2.2.2.1 + o1)), (3, .int x3), (4, .int x4)]) C dX2_nextByRest_52 (by decide) rfl rfl ?_
          refine y_iload (n := 55) C dX2_nextByRest_53 1 rfl rfl ?_
          refine y_istore_n (n := 56) (ls' := [(3, .int (v2 - v3)), (2, .int x4), (5, .int (v2 - v3)), (0, .ref (E.2.2.2.2.1 + o)), (1, .ref (E.2.2.2.2.1 + o1)), (4, .int x4)]) C dX2_nextByRest_55 (by decide) rfl rfl ?_
          refine y_iinc (n := 59) (v := x4 + 1) (ls' := [(4, .int (x4 + 1)), (3, .int (v2 - v3)), (2, .int x4), (5, .int (v2 - v3)), (0, .ref (E.2.2.2.2.1 + o)), (1, .ref (E.2.2.2.2.1 + o1))]) C dX2_nextByRest_56 5 rfl rfl (by decide) rfl rfl ?_
          refine y_goto (tgt := 9) C dX2_nextByRest_59 (by decide) ?_
          refine y_ls [4, 5, 2, 1, 0] rfl ?_
          exact ih x4 (v2 - v3) (x4 + 1)
def fX2_nextByRest (w : Wd) (o o1 : Nat)  : Option (Int32) :=
  lX2_nextByRest_9 o o1 4096 w (-5) 41 0
set_option maxRecDepth 4000 in
theorem eX2_nextByRest {g : Gx} {E : Ex} (C : CC g E cX2_nextByRest 6 RX2 3 64) (hR : RT g (some .int)) {o o1 : Nat} (hO : shR E.2.2.2.2.2.1 o) (hO1 : shO E.2.2.2.2.2.1 o1) (w : Wd)  : YO g E 6 (QP g E w) (fX2_nextByRest w o o1) w 0 [(0, .ref (E.2.2.2.2.1 + o)), (1, .ref (E.2.2.2.2.1 + o1))] [] := by
  unfold fX2_nextByRest
  refine y_bipush (n := 2) C ((-5) : Int32) dX2_nextByRest_0 (by decide) rfl ?_
  refine y_istore_n (n := 3) (ls' := [(2, .int (-5)), (0, .ref (E.2.2.2.2.1 + o)), (1, .ref (E.2.2.2.2.1 + o1))]) C dX2_nextByRest_2 (by decide) rfl rfl ?_
  refine y_bipush (n := 5) C (41 : Int32) dX2_nextByRest_3 (by decide) rfl ?_
  refine y_istore_n (n := 6) (ls' := [(3, .int 41), (2, .int (-5)), (0, .ref (E.2.2.2.2.1 + o)), (1, .ref (E.2.2.2.2.1 + o1))]) C dX2_nextByRest_5 (by decide) rfl rfl ?_
  refine y_iconst (n := 7) C (0 : Int32) dX2_nextByRest_6 (by decide) rfl ?_
  refine y_istore (n := 9) (ls' := [(4, .int 0), (3, .int 41), (2, .int (-5)), (0, .ref (E.2.2.2.2.1 + o)), (1, .ref (E.2.2.2.2.1 + o1))]) C dX2_nextByRest_7 (by decide) rfl rfl ?_
  refine y_ls [3, 4, 2, 1, 0] rfl ?_
  exact clX2_nextByRest_9 C hR hO hO1 w 4096 (-5) 41 0
theorem mX2_nextByRest {E : Ex} {o o1 : Nat} (hO : shR E.2.2.2.2.2.1 o) (hO1 : shO E.2.2.2.2.2.1 o1) (w : Wd)  (l : Launch) : MP l yX2_nextByRest cX2_nextByRest 6 (some .int) { frames := 3, cells := 0, slots := 0, locals := 64 } E [.ref (E.2.2.2.2.1 + o), .ref (E.2.2.2.2.1 + o1)] w (fX2_nextByRest w o o1) :=
  y_met (Qc := fun r => yQi E (r, w)) (by decide +kernel) (Nat.le_of_ble_eq_true rfl) (fun g C hR => eX2_nextByRest C hR hO hO1 w ) l
