/-! X6_record X6_takeOut X6_add X6_isAsked X6_asked X6_left X6_bound X6_toldBound X6_boundsTogether X6_canBeRead X6_isSeen X6_frontPlace X6_frontAt X6_isKnown X6_high X6_scoreOf -/
def lX6_record_51 (o : Nat) : Nat → Wd → Int32 → Option (Wd)
  | 0, _, _ => none
  | n + 1, w, x1 =>
    if 706 ≤ x1 then
      (pI w o 5 ((w.1 o 5) + 1)).bind fun w3 =>
      some w3
    else
      (ldI 706 w (o + 1) x1).bind fun v4 =>
      (stI 2824 w (o + 2) (((w.1 o 5) * 706) + x1) v4).bind fun w5 =>
      lX6_record_51 o n w5 (x1 + 1)
set_option maxRecDepth 4000 in
theorem clX6_record_51 {g : Gx} {E : Ex} (C : CC g E cX6_record 2 RX6 0 0) (hR : RT g none) {o : Nat} (hO : shM E.2.2.2.2.2.1 o) : ∀ (n : Nat) (w : Wd) (x1 : Int32), YO g E 2 (QV g E) (lX6_record_51 o n w x1) w 51 [(0, .ref (E.2.2.2.2.1 + o)), (1, .int x1)] [] := by
  intro n
  induction n with
  | zero => intro w x1; exact y_no
  | succ n ih =>
    intro w x1
    rw [lX6_record_51]
    refine y_iload_n (n := 52) C dX6_record_51 1 rfl rfl ?_
    refine y_sipush (n := 55) C (706 : Int32) dX6_record_52 (by decide) rfl ?_
    refine y_icmp_ge (tgt := 85) (n := 58) C dX6_record_55 (by decide) rfl (fun h2 => ?_) (fun h2 => ?_)
    · refine y_aload_n (n := 86) C dX6_record_85 0 rfl rfl ?_
      refine y_dup (n := 87) C dX6_record_86 rfl rfl ?_
      refine y_get (ci := 6) (f := 5) (n := 90) C in_X6 hO.1 rfl (by decide) wd_736 rfl rfl dX6_record_87 rfl ?_
      refine y_iconst (n := 91) C (1 : Int32) dX6_record_90 (by decide) rfl ?_
      refine y_iadd (n := 92) C dX6_record_91 rfl ?_
      refine y_putI (ci := 6) (f := 5) (n := 95) C in_X6 tyX6 tyX6_ok nmX6 hO.1 rfl (by decide) wd_736 rfl rfl (by decide +kernel) (Nat.le_of_ble_eq_true rfl) st_X6_5 dX6_record_92 rfl (fun w3 hw3 => ?_)
      exact y_rv C hR dX6_record_95
    · refine y_aload_n (n := 59) C dX6_record_58 0 rfl rfl ?_
      refine y_get (ci := 6) (f := 1) (n := 62) C in_X6 hO.1 rfl (by decide) wd_732 rfl rfl dX6_record_59 rfl ?_
      refine y_aload_n (n := 63) C dX6_record_62 0 rfl rfl ?_
      refine y_get (ci := 6) (f := 5) (n := 66) C in_X6 hO.1 rfl (by decide) wd_736 rfl rfl dX6_record_63 rfl ?_
      refine y_sipush (n := 69) C (706 : Int32) dX6_record_66 (by decide) rfl ?_
      refine y_imul (n := 70) C dX6_record_69 rfl ?_
      refine y_iload_n (n := 71) C dX6_record_70 1 rfl rfl ?_
      refine y_iadd (n := 72) C dX6_record_71 rfl ?_
      refine y_aload_n (n := 73) C dX6_record_72 0 rfl rfl ?_
      refine y_get (ci := 6) (f := 0) (n := 76) C in_X6 hO.1 rfl (by decide) wd_731 rfl rfl dX6_record_73 rfl ?_
      refine y_iload_n (n := 77) C dX6_record_76 1 rfl rfl ?_
      refine y_iald (n := 78) C hO.2.1 dX6_record_77 rfl (fun v4 hv4 => ?_)
      refine y_iast (n := 79) C hO.2.2.1 dX6_record_78 rfl (fun w5 hw5 => ?_)
      refine y_iinc (n := 82) (v := x1 + 1) (ls' := [(1, .int (x1 + 1)), (0, .ref (E.2.2.2.2.1 + o))]) C dX6_record_79 1 rfl rfl (by decide) rfl rfl ?_
      refine y_goto (tgt := 51) C dX6_record_82 (by decide) ?_
      refine y_ls [1, 0] rfl ?_
      exact ih w5 (x1 + 1)
def lX6_record_10 (o : Nat) : Nat → Wd → Int32 → Option (Wd)
  | 0, _, _ => none
  | n + 1, w, x1 =>
    if 2118 ≤ x1 then
      (pI w o 5 ((w.1 o 5) - 1)).bind fun w7 =>
      lX6_record_51 o 4096 w7 0
    else
      (ldI 2824 w (o + 2) (x1 + 706)).bind fun v8 =>
      (stI 2824 w (o + 2) x1 v8).bind fun w9 =>
      lX6_record_10 o n w9 (x1 + 1)
set_option maxRecDepth 4000 in
theorem clX6_record_10 {g : Gx} {E : Ex} (C : CC g E cX6_record 2 RX6 0 0) (hR : RT g none) {o : Nat} (hO : shM E.2.2.2.2.2.1 o) : ∀ (n : Nat) (w : Wd) (x1 : Int32), YO g E 2 (QV g E) (lX6_record_10 o n w x1) w 10 [(0, .ref (E.2.2.2.2.1 + o)), (1, .int x1)] [] := by
  intro n
  induction n with
  | zero => intro w x1; exact y_no
  | succ n ih =>
    intro w x1
    rw [lX6_record_10]
    refine y_iload_n (n := 11) C dX6_record_10 1 rfl rfl ?_
    refine y_sipush (n := 14) C (2118 : Int32) dX6_record_11 (by decide) rfl ?_
    refine y_icmp_ge (tgt := 39) (n := 17) C dX6_record_14 (by decide) rfl (fun h6 => ?_) (fun h6 => ?_)
    · refine y_aload_n (n := 40) C dX6_record_39 0 rfl rfl ?_
      refine y_dup (n := 41) C dX6_record_40 rfl rfl ?_
      refine y_get (ci := 6) (f := 5) (n := 44) C in_X6 hO.1 rfl (by decide) wd_736 rfl rfl dX6_record_41 rfl ?_
      refine y_iconst (n := 45) C (1 : Int32) dX6_record_44 (by decide) rfl ?_
      refine y_isub (n := 46) C dX6_record_45 rfl ?_
      refine y_putI (ci := 6) (f := 5) (n := 49) C in_X6 tyX6 tyX6_ok nmX6 hO.1 rfl (by decide) wd_736 rfl rfl (by decide +kernel) (Nat.le_of_ble_eq_true rfl) st_X6_5 dX6_record_46 rfl (fun w7 hw7 => ?_)
      refine y_iconst (n := 50) C (0 : Int32) dX6_record_49 (by decide) rfl ?_
      refine y_istore_n (n := 51) (ls' := [(1, .int 0), (0, .ref (E.2.2.2.2.1 + o))]) C dX6_record_50 (by decide) rfl rfl ?_
      refine y_ls [1, 0] rfl ?_
      exact clX6_record_51 C hR hO 4096 w7 0
    · refine y_aload_n (n := 18) C dX6_record_17 0 rfl rfl ?_
      refine y_get (ci := 6) (f := 1) (n := 21) C in_X6 hO.1 rfl (by decide) wd_732 rfl rfl dX6_record_18 rfl ?_
      refine y_iload_n (n := 22) C dX6_record_21 1 rfl rfl ?_
      refine y_aload_n (n := 23) C dX6_record_22 0 rfl rfl ?_
      refine y_get (ci := 6) (f := 1) (n := 26) C in_X6 hO.1 rfl (by decide) wd_732 rfl rfl dX6_record_23 rfl ?_
      refine y_iload_n (n := 27) C dX6_record_26 1 rfl rfl ?_
      refine y_sipush (n := 30) C (706 : Int32) dX6_record_27 (by decide) rfl ?_
      refine y_iadd (n := 31) C dX6_record_30 rfl ?_
      refine y_iald (n := 32) C hO.2.2.1 dX6_record_31 rfl (fun v8 hv8 => ?_)
      refine y_iast (n := 33) C hO.2.2.1 dX6_record_32 rfl (fun w9 hw9 => ?_)
      refine y_iinc (n := 36) (v := x1 + 1) (ls' := [(1, .int (x1 + 1)), (0, .ref (E.2.2.2.2.1 + o))]) C dX6_record_33 1 rfl rfl (by decide) rfl rfl ?_
      refine y_goto (tgt := 10) C dX6_record_36 (by decide) ?_
      refine y_ls [1, 0] rfl ?_
      exact ih w9 (x1 + 1)
def fX6_record (w : Wd) (o : Nat)  : Option (Wd) :=
  if (w.1 o 5) = 4 then
    lX6_record_10 o 4096 w 0
  else
    lX6_record_51 o 4096 w 0
set_option maxRecDepth 4000 in
theorem eX6_record {g : Gx} {E : Ex} (C : CC g E cX6_record 2 RX6 0 0) (hR : RT g none) {o : Nat} (hO : shM E.2.2.2.2.2.1 o) (w : Wd)  : YO g E 2 (QV g E) (fX6_record w o) w 0 [(0, .ref (E.2.2.2.2.1 + o))] [] := by
  unfold fX6_record
  refine y_aload_n (n := 1) C dX6_record_0 0 rfl rfl ?_
  refine y_get (ci := 6) (f := 5) (n := 4) C in_X6 hO.1 rfl (by decide) wd_736 rfl rfl dX6_record_1 rfl ?_
  refine y_iconst (n := 5) C (4 : Int32) dX6_record_4 (by decide) rfl ?_
  refine y_icmp_ne (tgt := 49) (n := 8) C dX6_record_5 (by decide) rfl (fun h1 => ?_) (fun h1 => ?_)
  · refine y_iconst (n := 50) C (0 : Int32) dX6_record_49 (by decide) rfl ?_
    refine y_istore_n (n := 51) (ls' := [(1, .int 0), (0, .ref (E.2.2.2.2.1 + o))]) C dX6_record_50 (by decide) rfl rfl ?_
    refine y_ls [1, 0] rfl ?_
    exact clX6_record_51 C hR hO 4096 w 0
  · refine y_iconst (n := 9) C (0 : Int32) dX6_record_8 (by decide) rfl ?_
    refine y_istore_n (n := 10) (ls' := [(1, .int 0), (0, .ref (E.2.2.2.2.1 + o))]) C dX6_record_9 (by decide) rfl rfl ?_
    refine y_ls [1, 0] rfl ?_
    exact clX6_record_10 C hR hO 4096 w 0
theorem mX6_record {E : Ex} {o : Nat} (hO : shM E.2.2.2.2.2.1 o) (w : Wd)  (l : Launch) : MV l yX6_record cX6_record 2 none { frames := 0, cells := 0, slots := 0, locals := 0 } E [.ref (E.2.2.2.2.1 + o)] w (fX6_record w o) :=
  y_met (Qc := yQv E) (by decide +kernel) (Nat.le_of_ble_eq_true rfl) (fun g C hR => eX6_record C hR hO w ) l
def lX6_takeOut_16 (o : Nat) : Nat → Wd → Int32 → Int32 → Option (Wd)
  | 0, _, _, _ => none
  | n + 1, w, x1, x3 =>
    (ldI 706 w (o + 1) (480 + x1)).bind fun v3 =>
    if v3 ≤ x3 then
      (ldI 706 w (o + 1) (480 + x1)).bind fun v5 =>
      (stI 706 w (o + 1) ((0 + (40 * x1)) + v5) 0).bind fun w6 =>
      (ldI 706 w6 (o + 1) (480 + x1)).bind fun v7 =>
      (stI 706 w6 (o + 1) ((240 + (40 * x1)) + v7) 0).bind fun w8 =>
      some w8
    else
      (ldI 706 w (o + 1) (((0 + (40 * x1)) + x3) + 1)).bind fun v9 =>
      (stI 706 w (o + 1) ((0 + (40 * x1)) + x3) v9).bind fun w10 =>
      (ldI 706 w10 (o + 1) (((240 + (40 * x1)) + x3) + 1)).bind fun v11 =>
      (stI 706 w10 (o + 1) ((240 + (40 * x1)) + x3) v11).bind fun w12 =>
      lX6_takeOut_16 o n w12 x1 (x3 + 1)
set_option maxRecDepth 4000 in
theorem clX6_takeOut_16 {g : Gx} {E : Ex} (C : CC g E cX6_takeOut 4 RX6 0 0) (hR : RT g none) {o : Nat} (hO : shM E.2.2.2.2.2.1 o) : ∀ (n : Nat) (w : Wd) (x1 : Int32) (x3 : Int32), YO g E 4 (QV g E) (lX6_takeOut_16 o n w x1 x3) w 16 [(0, .ref (E.2.2.2.2.1 + o)), (1, .int x1), (3, .int x3)] [] := by
  intro n
  induction n with
  | zero => intro w x1 x3; exact y_no
  | succ n ih =>
    intro w x1 x3
    rw [lX6_takeOut_16]
    refine y_iload_n (n := 17) C dX6_takeOut_16 2 rfl rfl ?_
    refine y_aload_n (n := 18) C dX6_takeOut_17 0 rfl rfl ?_
    refine y_get (ci := 6) (f := 0) (n := 21) C in_X6 hO.1 rfl (by decide) wd_731 rfl rfl dX6_takeOut_18 rfl ?_
    refine y_sipush (n := 24) C (480 : Int32) dX6_takeOut_21 (by decide) rfl ?_
    refine y_iload_n (n := 25) C dX6_takeOut_24 1 rfl rfl ?_
    refine y_iadd (n := 26) C dX6_takeOut_25 rfl ?_
    refine y_iald (n := 27) C hO.2.1 dX6_takeOut_26 rfl (fun v3 hv3 => ?_)
    refine y_icmp_ge (tgt := 96) (n := 30) C dX6_takeOut_27 (by decide) rfl (fun h4 => ?_) (fun h4 => ?_)
    · refine y_aload_n (n := 97) C dX6_takeOut_96 0 rfl rfl ?_
      refine y_get (ci := 6) (f := 0) (n := 100) C in_X6 hO.1 rfl (by decide) wd_731 rfl rfl dX6_takeOut_97 rfl ?_
      refine y_iconst (n := 101) C (0 : Int32) dX6_takeOut_100 (by decide) rfl ?_
      refine y_bipush (n := 103) C (40 : Int32) dX6_takeOut_101 (by decide) rfl ?_
      refine y_iload_n (n := 104) C dX6_takeOut_103 1 rfl rfl ?_
      refine y_imul (n := 105) C dX6_takeOut_104 rfl ?_
      refine y_iadd (n := 106) C dX6_takeOut_105 rfl ?_
      refine y_aload_n (n := 107) C dX6_takeOut_106 0 rfl rfl ?_
      refine y_get (ci := 6) (f := 0) (n := 110) C in_X6 hO.1 rfl (by decide) wd_731 rfl rfl dX6_takeOut_107 rfl ?_
      refine y_sipush (n := 113) C (480 : Int32) dX6_takeOut_110 (by decide) rfl ?_
      refine y_iload_n (n := 114) C dX6_takeOut_113 1 rfl rfl ?_
      refine y_iadd (n := 115) C dX6_takeOut_114 rfl ?_
      refine y_iald (n := 116) C hO.2.1 dX6_takeOut_115 rfl (fun v5 hv5 => ?_)
      refine y_iadd (n := 117) C dX6_takeOut_116 rfl ?_
      refine y_iconst (n := 118) C (0 : Int32) dX6_takeOut_117 (by decide) rfl ?_
      refine y_iast (n := 119) C hO.2.1 dX6_takeOut_118 rfl (fun w6 hw6 => ?_)
      refine y_aload_n (n := 120) C dX6_takeOut_119 0 rfl rfl ?_
      refine y_get (ci := 6) (f := 0) (n := 123) C in_X6 hO.1 rfl (by decide) wd_731 rfl rfl dX6_takeOut_120 rfl ?_
      refine y_sipush (n := 126) C (240 : Int32) dX6_takeOut_123 (by decide) rfl ?_
      refine y_bipush (n := 128) C (40 : Int32) dX6_takeOut_126 (by decide) rfl ?_
      refine y_iload_n (n := 129) C dX6_takeOut_128 1 rfl rfl ?_
      refine y_imul (n := 130) C dX6_takeOut_129 rfl ?_
      refine y_iadd (n := 131) C dX6_takeOut_130 rfl ?_
      refine y_aload_n (n := 132) C dX6_takeOut_131 0 rfl rfl ?_
      refine y_get (ci := 6) (f := 0) (n := 135) C in_X6 hO.1 rfl (by decide) wd_731 rfl rfl dX6_takeOut_132 rfl ?_
      refine y_sipush (n := 138) C (480 : Int32) dX6_takeOut_135 (by decide) rfl ?_
      refine y_iload_n (n := 139) C dX6_takeOut_138 1 rfl rfl ?_
      refine y_iadd (n := 140) C dX6_takeOut_139 rfl ?_
      refine y_iald (n := 141) C hO.2.1 dX6_takeOut_140 rfl (fun v7 hv7 => ?_)
      refine y_iadd (n := 142) C dX6_takeOut_141 rfl ?_
      refine y_iconst (n := 143) C (0 : Int32) dX6_takeOut_142 (by decide) rfl ?_
      refine y_iast (n := 144) C hO.2.1 dX6_takeOut_143 rfl (fun w8 hw8 => ?_)
      exact y_rv C hR dX6_takeOut_144
    · refine y_aload_n (n := 31) C dX6_takeOut_30 0 rfl rfl ?_
      refine y_get (ci := 6) (f := 0) (n := 34) C in_X6 hO.1 rfl (by decide) wd_731 rfl rfl dX6_takeOut_31 rfl ?_
      refine y_iconst (n := 35) C (0 : Int32) dX6_takeOut_34 (by decide) rfl ?_
      refine y_bipush (n := 37) C (40 : Int32) dX6_takeOut_35 (by decide) rfl ?_
      refine y_iload_n (n := 38) C dX6_takeOut_37 1 rfl rfl ?_
      refine y_imul (n := 39) C dX6_takeOut_38 rfl ?_
      refine y_iadd (n := 40) C dX6_takeOut_39 rfl ?_
      refine y_iload_n (n := 41) C dX6_takeOut_40 2 rfl rfl ?_
      refine y_iadd (n := 42) C dX6_takeOut_41 rfl ?_
      refine y_aload_n (n := 43) C dX6_takeOut_42 0 rfl rfl ?_
      refine y_get (ci := 6) (f := 0) (n := 46) C in_X6 hO.1 rfl (by decide) wd_731 rfl rfl dX6_takeOut_43 rfl ?_
      refine y_iconst (n := 47) C (0 : Int32) dX6_takeOut_46 (by decide) rfl ?_
      refine y_bipush (n := 49) C (40 : Int32) dX6_takeOut_47 (by decide) rfl ?_
      refine y_iload_n (n := 50) C dX6_takeOut_49 1 rfl rfl ?_
      refine y_imul (n := 51) C dX6_takeOut_50 rfl ?_
      refine y_iadd (n := 52) C dX6_takeOut_51 rfl ?_
      refine y_iload_n (n := 53) C dX6_takeOut_52 2 rfl rfl ?_
      refine y_iadd (n := 54) C dX6_takeOut_53 rfl ?_
      refine y_iconst (n := 55) C (1 : Int32) dX6_takeOut_54 (by decide) rfl ?_
      refine y_iadd (n := 56) C dX6_takeOut_55 rfl ?_
      refine y_iald (n := 57) C hO.2.1 dX6_takeOut_56 rfl (fun v9 hv9 => ?_)
      refine y_iast (n := 58) C hO.2.1 dX6_takeOut_57 rfl (fun w10 hw10 => ?_)
      refine y_aload_n (n := 59) C dX6_takeOut_58 0 rfl rfl ?_
      refine y_get (ci := 6) (f := 0) (n := 62) C in_X6 hO.1 rfl (by decide) wd_731 rfl rfl dX6_takeOut_59 rfl ?_
      refine y_sipush (n := 65) C (240 : Int32) dX6_takeOut_62 (by decide) rfl ?_
      refine y_bipush (n := 67) C (40 : Int32) dX6_takeOut_65 (by decide) rfl ?_
      refine y_iload_n (n := 68) C dX6_takeOut_67 1 rfl rfl ?_
      refine y_imul (n := 69) C dX6_takeOut_68 rfl ?_
      refine y_iadd (n := 70) C dX6_takeOut_69 rfl ?_
      refine y_iload_n (n := 71) C dX6_takeOut_70 2 rfl rfl ?_
      refine y_iadd (n := 72) C dX6_takeOut_71 rfl ?_
      refine y_aload_n (n := 73) C dX6_takeOut_72 0 rfl rfl ?_
      refine y_get (ci := 6) (f := 0) (n := 76) C in_X6 hO.1 rfl (by decide) wd_731 rfl rfl dX6_takeOut_73 rfl ?_
      refine y_sipush (n := 79) C (240 : Int32) dX6_takeOut_76 (by decide) rfl ?_
      refine y_bipush (n := 81) C (40 : Int32) dX6_takeOut_79 (by decide) rfl ?_
      refine y_iload_n (n := 82) C dX6_takeOut_81 1 rfl rfl ?_
      refine y_imul (n := 83) C dX6_takeOut_82 rfl ?_
      refine y_iadd (n := 84) C dX6_takeOut_83 rfl ?_
      refine y_iload_n (n := 85) C dX6_takeOut_84 2 rfl rfl ?_
      refine y_iadd (n := 86) C dX6_takeOut_85 rfl ?_
      refine y_iconst (n := 87) C (1 : Int32) dX6_takeOut_86 (by decide) rfl ?_
      refine y_iadd (n := 88) C dX6_takeOut_87 rfl ?_
      refine y_iald (n := 89) C hO.2.1 dX6_takeOut_88 rfl (fun v11 hv11 => ?_)
      refine y_iast (n := 90) C hO.2.1 dX6_takeOut_89 rfl (fun w12 hw12 => ?_)
      refine y_iinc (n := 93) (v := x3 + 1) (ls' := [(3, .int (x3 + 1)), (0, .ref (E.2.2.2.2.1 + o)), (1, .int x1)]) C dX6_takeOut_90 2 rfl rfl (by decide) rfl rfl ?_
      refine y_goto (tgt := 16) C dX6_takeOut_93 (by decide) ?_
      refine y_ls [1, 2, 0] rfl ?_
      exact ih w12 x1 (x3 + 1)
def fX6_takeOut (w : Wd) (o : Nat) (a1 : Int32) (a2 : Int32) : Option (Wd) :=
  (ldI 706 w (o + 1) (480 + a1)).bind fun v1 =>
  (stI 706 w (o + 1) (480 + a1) (v1 - 1)).bind fun w2 =>
  lX6_takeOut_16 o 4096 w2 a1 a2
set_option maxRecDepth 4000 in
theorem eX6_takeOut {g : Gx} {E : Ex} (C : CC g E cX6_takeOut 4 RX6 0 0) (hR : RT g none) {o : Nat} (hO : shM E.2.2.2.2.2.1 o) (w : Wd) (a1 : Int32) (a2 : Int32) : YO g E 4 (QV g E) (fX6_takeOut w o a1 a2) w 0 [(0, .ref (E.2.2.2.2.1 + o)), (1, .int a1), (2, .int a2)] [] := by
  unfold fX6_takeOut
  refine y_aload_n (n := 1) C dX6_takeOut_0 0 rfl rfl ?_
  refine y_get (ci := 6) (f := 0) (n := 4) C in_X6 hO.1 rfl (by decide) wd_731 rfl rfl dX6_takeOut_1 rfl ?_
  refine y_sipush (n := 7) C (480 : Int32) dX6_takeOut_4 (by decide) rfl ?_
  refine y_iload_n (n := 8) C dX6_takeOut_7 1 rfl rfl ?_
  refine y_iadd (n := 9) C dX6_takeOut_8 rfl ?_
  refine y_dup2 (n := 10) C dX6_takeOut_9 rfl rfl rfl ?_
  refine y_iald (n := 11) C hO.2.1 dX6_takeOut_10 rfl (fun v1 hv1 => ?_)
  refine y_iconst (n := 12) C (1 : Int32) dX6_takeOut_11 (by decide) rfl ?_
  refine y_isub (n := 13) C dX6_takeOut_12 rfl ?_
  refine y_iast (n := 14) C hO.2.1 dX6_takeOut_13 rfl (fun w2 hw2 => ?_)
  refine y_iload_n (n := 15) C dX6_takeOut_14 2 rfl rfl ?_
  refine y_istore_n (n := 16) (ls' := [(3, .int a2), (0, .ref (E.2.2.2.2.1 + o)), (1, .int a1), (2, .int a2)]) C dX6_takeOut_15 (by decide) rfl rfl ?_
  refine y_ls [1, 2, 0] rfl ?_
  exact clX6_takeOut_16 C hR hO 4096 w2 a1 a2
theorem mX6_takeOut {E : Ex} {o : Nat} (hO : shM E.2.2.2.2.2.1 o) (w : Wd) (a1 : Int32) (a2 : Int32) (l : Launch) : MV l yX6_takeOut cX6_takeOut 4 none { frames := 0, cells := 0, slots := 0, locals := 0 } E [.ref (E.2.2.2.2.1 + o), .int a1, .int a2] w (fX6_takeOut w o a1 a2) :=
  y_met (Qc := yQv E) (by decide +kernel) (Nat.le_of_ble_eq_true rfl) (fun g C hR => eX6_takeOut C hR hO w a1 a2) l
def bX6_add_77 (w : Wd) (o : Nat) (x1 : Int32) (x2 : Int32) (x3 : Int32) (x4 : Int32) : Option (Int32 × Wd) :=
  if x4 < 0 then
    (fX6_record w o).bind fun w12 =>
    if x4 < 0 then
      ob2 (fX6_putIn w12 o x1 x2 x3) fun v14 w15 =>
      some (v14, w15)
    else
      (fX6_takeOut w12 o x1 x4).bind fun w16 =>
      ob2 (fX6_putIn w16 o x1 x2 x3) fun v17 w18 =>
      some (v17, w18)
  else
    (ldI 706 w (o + 1) ((240 + (40 * x1)) + x4)).bind fun v19 =>
    if v19 = x3 then
      some ((-5), w)
    else
      (fX6_record w o).bind fun w21 =>
      if x4 < 0 then
        ob2 (fX6_putIn w21 o x1 x2 x3) fun v23 w24 =>
        some (v23, w24)
      else
        (fX6_takeOut w21 o x1 x4).bind fun w25 =>
        ob2 (fX6_putIn w25 o x1 x2 x3) fun v26 w27 =>
        some (v26, w27)
set_option maxRecDepth 4000 in
theorem cbX6_add_77 {g : Gx} {E : Ex} (C : CC g E cX6_add 5 RX6 1 27) (hR : RT g (some .int)) {o : Nat} (hO : shM E.2.2.2.2.2.1 o) (w : Wd) (x1 : Int32) (x2 : Int32) (x3 : Int32) (x4 : Int32) : YO g E 5 (QI g E) (bX6_add_77 w o x1 x2 x3 x4) w 77 [(0, .ref (E.2.2.2.2.1 + o)), (1, .int x1), (2, .int x2), (3, .int x3), (4, .int x4)] [] := by
  unfold bX6_add_77
  refine y_iload (n := 79) C dX6_add_77 4 rfl rfl ?_
  refine y_if_lt (tgt := 105) (n := 82) C dX6_add_79 (by decide) rfl (fun h11 => ?_) (fun h11 => ?_)
  · refine y_aload_n (n := 106) C dX6_add_105 0 rfl rfl ?_
    refine y_cv (n := 109) C (fun r hr H locs la hP hS hl => y_runV (ci := 6) (st := []) C ky_X6_record wd_784 ⟨Nat.le_of_ble_eq_true rfl, Nat.le_of_ble_eq_true rfl⟩ hO.1 rfl (mX6_record hO w g.2.1 r hr) rfl (Nat.le_of_ble_eq_true rfl) rfl dX6_add_106 hP hS hl) rfl (fun w12 hw12 => ?_)
    refine y_iload (n := 111) C dX6_add_109 4 rfl rfl ?_
    refine y_if_lt (tgt := 121) (n := 114) C dX6_add_111 (by decide) rfl (fun h13 => ?_) (fun h13 => ?_)
    · refine y_aload_n (n := 122) C dX6_add_121 0 rfl rfl ?_
      refine y_iload_n (n := 123) C dX6_add_122 1 rfl rfl ?_
      refine y_iload_n (n := 124) C dX6_add_123 2 rfl rfl ?_
      refine y_iload_n (n := 125) C dX6_add_124 3 rfl rfl ?_
      refine y_ci2 (n := 128) C (fun r hr H locs la hP hS hl => y_runV (ci := 6) (st := []) C ky_X6_putIn wd_806 ⟨Nat.le_of_ble_eq_true rfl, Nat.le_of_ble_eq_true rfl⟩ hO.1 rfl (mX6_putIn hO w12 x1 x2 x3 g.2.1 r hr) rfl (Nat.le_of_ble_eq_true rfl) rfl dX6_add_125 hP hS hl) rfl (fun v14 w15 hv14 => ?_)
      exact y_ri C hR dX6_add_128
    · refine y_aload_n (n := 115) C dX6_add_114 0 rfl rfl ?_
      refine y_iload_n (n := 116) C dX6_add_115 1 rfl rfl ?_
      refine y_iload (n := 118) C dX6_add_116 4 rfl rfl ?_
      refine y_cv (n := 121) C (fun r hr H locs la hP hS hl => y_runV (ci := 6) (st := []) C ky_X6_takeOut wd_802 ⟨Nat.le_of_ble_eq_true rfl, Nat.le_of_ble_eq_true rfl⟩ hO.1 rfl (mX6_takeOut hO w12 x1 x4 g.2.1 r hr) rfl (Nat.le_of_ble_eq_true rfl) rfl dX6_add_118 hP hS hl) rfl (fun w16 hw16 => ?_)
      refine y_aload_n (n := 122) C dX6_add_121 0 rfl rfl ?_
      refine y_iload_n (n := 123) C dX6_add_122 1 rfl rfl ?_
      refine y_iload_n (n := 124) C dX6_add_123 2 rfl rfl ?_
      refine y_iload_n (n := 125) C dX6_add_124 3 rfl rfl ?_
      refine y_ci2 (n := 128) C (fun r hr H locs la hP hS hl => y_runV (ci := 6) (st := []) C ky_X6_putIn wd_806 ⟨Nat.le_of_ble_eq_true rfl, Nat.le_of_ble_eq_true rfl⟩ hO.1 rfl (mX6_putIn hO w16 x1 x2 x3 g.2.1 r hr) rfl (Nat.le_of_ble_eq_true rfl) rfl dX6_add_125 hP hS hl) rfl (fun v17 w18 hv17 => ?_)
      exact y_ri C hR dX6_add_128
  · refine y_aload_n (n := 83) C dX6_add_82 0 rfl rfl ?_
    refine y_get (ci := 6) (f := 0) (n := 86) C in_X6 hO.1 rfl (by decide) wd_731 rfl rfl dX6_add_83 rfl ?_
    refine y_sipush (n := 89) C (240 : Int32) dX6_add_86 (by decide) rfl ?_
    refine y_bipush (n := 91) C (40 : Int32) dX6_add_89 (by decide) rfl ?_
    refine y_iload_n (n := 92) C dX6_add_91 1 rfl rfl ?_
    refine y_imul (n := 93) C dX6_add_92 rfl ?_
    refine y_iadd (n := 94) C dX6_add_93 rfl ?_
    refine y_iload (n := 96) C dX6_add_94 4 rfl rfl ?_
    refine y_iadd (n := 97) C dX6_add_96 rfl ?_
    refine y_iald (n := 98) C hO.2.1 dX6_add_97 rfl (fun v19 hv19 => ?_)
    refine y_iload_n (n := 99) C dX6_add_98 3 rfl rfl ?_
    refine y_icmp_ne (tgt := 105) (n := 102) C dX6_add_99 (by decide) rfl (fun h20 => ?_) (fun h20 => ?_)
    · refine y_aload_n (n := 106) C dX6_add_105 0 rfl rfl ?_
      refine y_cv (n := 109) C (fun r hr H locs la hP hS hl => y_runV (ci := 6) (st := []) C ky_X6_record wd_784 ⟨Nat.le_of_ble_eq_true rfl, Nat.le_of_ble_eq_true rfl⟩ hO.1 rfl (mX6_record hO w g.2.1 r hr) rfl (Nat.le_of_ble_eq_true rfl) rfl dX6_add_106 hP hS hl) rfl (fun w21 hw21 => ?_)
      refine y_iload (n := 111) C dX6_add_109 4 rfl rfl ?_
      refine y_if_lt (tgt := 121) (n := 114) C dX6_add_111 (by decide) rfl (fun h22 => ?_) (fun h22 => ?_)
      · refine y_aload_n (n := 122) C dX6_add_121 0 rfl rfl ?_
        refine y_iload_n (n := 123) C dX6_add_122 1 rfl rfl ?_
        refine y_iload_n (n := 124) C dX6_add_123 2 rfl rfl ?_
        refine y_iload_n (n := 125) C dX6_add_124 3 rfl rfl ?_
        refine y_ci2 (n := 128) C (fun r hr H locs la hP hS hl => y_runV (ci := 6) (st := []) C ky_X6_putIn wd_806 ⟨Nat.le_of_ble_eq_true rfl, Nat.le_of_ble_eq_true rfl⟩ hO.1 rfl (mX6_putIn hO w21 x1 x2 x3 g.2.1 r hr) rfl (Nat.le_of_ble_eq_true rfl) rfl dX6_add_125 hP hS hl) rfl (fun v23 w24 hv23 => ?_)
        exact y_ri C hR dX6_add_128
      · refine y_aload_n (n := 115) C dX6_add_114 0 rfl rfl ?_
        refine y_iload_n (n := 116) C dX6_add_115 1 rfl rfl ?_
        refine y_iload (n := 118) C dX6_add_116 4 rfl rfl ?_
        refine y_cv (n := 121) C (fun r hr H locs la hP hS hl => y_runV (ci := 6) (st := []) C ky_X6_takeOut wd_802 ⟨Nat.le_of_ble_eq_true rfl, Nat.le_of_ble_eq_true rfl⟩ hO.1 rfl (mX6_takeOut hO w21 x1 x4 g.2.1 r hr) rfl (Nat.le_of_ble_eq_true rfl) rfl dX6_add_118 hP hS hl) rfl (fun w25 hw25 => ?_)
        refine y_aload_n (n := 122) C dX6_add_121 0 rfl rfl ?_
        refine y_iload_n (n := 123) C dX6_add_122 1 rfl rfl ?_
        refine y_iload_n (n := 124) C dX6_add_123 2 rfl rfl ?_
        refine y_iload_n (n := 125) C dX6_add_124 3 rfl rfl ?_
        refine y_ci2 (n := 128) C (fun r hr H locs la hP hS hl => y_runV (ci := 6) (st := []) C ky_X6_putIn wd_806 ⟨Nat.le_of_ble_eq_true rfl, Nat.le_of_ble_eq_true rfl⟩ hO.1 rfl (mX6_putIn hO w25 x1 x2 x3 g.2.1 r hr) rfl (Nat.le_of_ble_eq_true rfl) rfl dX6_add_125 hP hS hl) rfl (fun v26 w27 hv26 => ?_)
        exact y_ri C hR dX6_add_128
    · refine y_bipush (n := 104) C ((-5) : Int32) dX6_add_102 (by decide) rfl ?_
      exact y_ri C hR dX6_add_104
def fX6_add (w : Wd) (o : Nat) (a1 : Int32) (a2 : Int32) (a3 : Int32) : Option (Int32 × Wd) :=
  (fX6_isList w a1).bind fun v1 =>
  if v1 = 0 then
    some ((-1), w)
  else
    (fX6_isDocument w a2).bind fun v3 =>
    if v3 = 0 then
      some ((-1), w)
    else
      if a3 < 1 then
        some ((-2), w)
      else
        if a3 ≤ 999 then
          (ldI 706 w (o + 1) 559).bind fun v7 =>
          if v7 = 1 then
            some ((-4), w)
          else
            (fX6_placeOf w o a1 a2).bind fun v9 =>
            if 0 ≤ v9 then
              bX6_add_77 w o a1 a2 a3 v9
            else
              (ldI 706 w (o + 1) (480 + a1)).bind fun v28 =>
              if v28 = 40 then
                some ((-3), w)
              else
                bX6_add_77 w o a1 a2 a3 v9
        else
          some ((-2), w)
set_option maxRecDepth 4000 in
theorem eX6_add {g : Gx} {E : Ex} (C : CC g E cX6_add 5 RX6 1 27) (hR : RT g (some .int)) {o : Nat} (hO : shM E.2.2.2.2.2.1 o) (w : Wd) (a1 : Int32) (a2 : Int32) (a3 : Int32) : YO g E 5 (QI g E) (fX6_add w o a1 a2 a3) w 0 [(0, .ref (E.2.2.2.2.1 + o)), (1, .int a1), (2, .int a2), (3, .int a3)] [] := by
  unfold fX6_add
  refine y_iload_n (n := 1) C dX6_add_0 1 rfl rfl ?_
  refine y_cp (n := 4) C (fun r hr H locs la hP hS hl => y_runS (st := []) C ky_X6_isList wd_792 ⟨Nat.le_of_ble_eq_true rfl, Nat.le_of_ble_eq_true rfl⟩ (mX6_isList w a1 g.2.1 r hr) rfl (Nat.le_of_ble_eq_true rfl) rfl dX6_add_1 hP hS hl) rfl (fun v1 hv1 => ?_)
  refine y_if_eq (tgt := 14) (n := 7) C dX6_add_4 (by decide) rfl (fun h2 => ?_) (fun h2 => ?_)
  · refine y_iconst (n := 15) C ((-1) : Int32) dX6_add_14 (by decide) rfl ?_
    exact y_ri C hR dX6_add_15
  · refine y_iload_n (n := 8) C dX6_add_7 2 rfl rfl ?_
    refine y_cp (n := 11) C (fun r hr H locs la hP hS hl => y_runS (st := []) C ky_X6_isDocument wd_795 ⟨Nat.le_of_ble_eq_true rfl, Nat.le_of_ble_eq_true rfl⟩ (mX6_isDocument w a2 g.2.1 r hr) rfl (Nat.le_of_ble_eq_true rfl) rfl dX6_add_8 hP hS hl) rfl (fun v3 hv3 => ?_)
    refine y_if_ne (tgt := 16) (n := 14) C dX6_add_11 (by decide) rfl (fun h4 => ?_) (fun h4 => ?_)
    · refine y_iload_n (n := 17) C dX6_add_16 3 rfl rfl ?_
      refine y_iconst (n := 18) C (1 : Int32) dX6_add_17 (by decide) rfl ?_
      refine y_icmp_lt (tgt := 28) (n := 21) C dX6_add_18 (by decide) rfl (fun h5 => ?_) (fun h5 => ?_)
      · refine y_bipush (n := 30) C ((-2) : Int32) dX6_add_28 (by decide) rfl ?_
        exact y_ri C hR dX6_add_30
      · refine y_iload_n (n := 22) C dX6_add_21 3 rfl rfl ?_
        refine y_sipush (n := 25) C (999 : Int32) dX6_add_22 (by decide) rfl ?_
        refine y_icmp_le (tgt := 31) (n := 28) C dX6_add_25 (by decide) rfl (fun h6 => ?_) (fun h6 => ?_)
        · refine y_aload_n (n := 32) C dX6_add_31 0 rfl rfl ?_
          refine y_get (ci := 6) (f := 0) (n := 35) C in_X6 hO.1 rfl (by decide) wd_731 rfl rfl dX6_add_32 rfl ?_
          refine y_sipush (n := 38) C (559 : Int32) dX6_add_35 (by decide) rfl ?_
          refine y_iald (n := 39) C hO.2.1 dX6_add_38 rfl (fun v7 hv7 => ?_)
          refine y_iconst (n := 40) C (1 : Int32) dX6_add_39 (by decide) rfl ?_
          refine y_icmp_ne (tgt := 46) (n := 43) C dX6_add_40 (by decide) rfl (fun h8 => ?_) (fun h8 => ?_)
          · refine y_aload_n (n := 47) C dX6_add_46 0 rfl rfl ?_
            refine y_iload_n (n := 48) C dX6_add_47 1 rfl rfl ?_
            refine y_iload_n (n := 49) C dX6_add_48 2 rfl rfl ?_
            refine y_cp (n := 52) C (fun r hr H locs la hP hS hl => y_runV (ci := 6) (st := []) C ky_X6_placeOf wd_798 ⟨Nat.le_of_ble_eq_true rfl, Nat.le_of_ble_eq_true rfl⟩ hO.1 rfl (mX6_placeOf hO w a1 a2 g.2.1 r hr) rfl (Nat.le_of_ble_eq_true rfl) rfl dX6_add_49 hP hS hl) rfl (fun v9 hv9 => ?_)
            refine y_istore (n := 54) (ls' := [(4, .int v9), (0, .ref (E.2.2.2.2.1 + o)), (1, .int a1), (2, .int a2), (3, .int a3)]) C dX6_add_52 (by decide) rfl rfl ?_
            refine y_iload (n := 56) C dX6_add_54 0 rfl rfl ?_
            refine y_if_ge (tgt := 77) (n := 59) C dX6_add_56 (by decide) rfl (fun h10 => ?_) (fun h10 => ?_)
            · refine y_ls [1, 2, 3, 4, 0] rfl ?_
              exact cbX6_add_77 C hR hO w a1 a2 a3 v9
            · refine y_aload_n (n := 60) C dX6_add_59 1 rfl rfl ?_
              refine y_get (ci := 6) (f := 0) (n := 63) C in_X6 hO.1 rfl (by decide) wd_731 rfl rfl dX6_add_60 rfl ?_
              refine y_sipush (n := 66) C (480 : Int32) dX6_add_63 (by decide) rfl ?_
              refine y_iload_n (n := 67) C dX6_add_66 2 rfl rfl ?_
              refine y_iadd (n := 68) C dX6_add_67 rfl ?_
              refine y_iald (n := 69) C hO.2.1 dX6_add_68 rfl (fun v28 hv28 => ?_)
              refine y_bipush (n := 71) C (40 : Int32) dX6_add_69 (by decide) rfl ?_
              refine y_icmp_ne (tgt := 77) (n := 74) C dX6_add_71 (by decide) rfl (fun h29 => ?_) (fun h29 => ?_)
              · refine y_ls [1, 2, 3, 4, 0] rfl ?_
                exact cbX6_add_77 C hR hO w a1 a2 a3 v9
              · refine y_bipush (n := 76) C ((-3) : Int32) dX6_add_74 (by decide) rfl ?_
                exact y_ri C hR dX6_add_76
          · refine y_bipush (n := 45) C ((-4) : Int32) dX6_add_43 (by decide) rfl ?_
            exact y_ri C hR dX6_add_45
        · refine y_bipush (n := 30) C ((-2) : Int32) dX6_add_28 (by decide) rfl ?_
          exact y_ri C hR dX6_add_30
    · refine y_iconst (n := 15) C ((-1) : Int32) dX6_add_14 (by decide) rfl ?_
      exact y_ri C hR dX6_add_15
theorem mX6_add {E : Ex} {o : Nat} (hO : shM E.2.2.2.2.2.1 o) (w : Wd) (a1 : Int32) (a2 : Int32) (a3 : Int32) (l : Launch) : MI l yX6_add cX6_add 5 (some .int) { frames := 1, cells := 0, slots := 0, locals := 27 } E [.ref (E.2.2.2.2.1 + o), .int a1, .int a2, .int a3] w (fX6_add w o a1 a2 a3) :=
  y_met (Qc := yQi E) (by decide +kernel) (Nat.le_of_ble_eq_true rfl) (fun g C hR => eX6_add C hR hO w a1 a2 a3) l
def fX6_isAsked (w : Wd) (o : Nat) (a1 : Int32) : Option (Int32) :=
  (ldI 706 w (o + 1) (486 + a1)).bind fun v1 =>
  if v1 ≤ 0 then
    rtZ 0
  else
    rtZ 1
set_option maxRecDepth 4000 in
theorem eX6_isAsked {g : Gx} {E : Ex} (C : CC g E cX6_isAsked 2 RX6 0 0) (hR : RT g (some .boolean)) {o : Nat} (hO : shM E.2.2.2.2.2.1 o) (w : Wd) (a1 : Int32) : YO g E 2 (QP g E w) (fX6_isAsked w o a1) w 0 [(0, .ref (E.2.2.2.2.1 + o)), (1, .int a1)] [] := by
  unfold fX6_isAsked
  refine y_aload_n (n := 1) C dX6_isAsked_0 0 rfl rfl ?_
  refine y_get (ci := 6) (f := 0) (n := 4) C in_X6 hO.1 rfl (by decide) wd_731 rfl rfl dX6_isAsked_1 rfl ?_
  refine y_sipush (n := 7) C (486 : Int32) dX6_isAsked_4 (by decide) rfl ?_
  refine y_iload_n (n := 8) C dX6_isAsked_7 1 rfl rfl ?_
  refine y_iadd (n := 9) C dX6_isAsked_8 rfl ?_
  refine y_iald (n := 10) C hO.2.1 dX6_isAsked_9 rfl (fun v1 hv1 => ?_)
  refine y_if_le (tgt := 17) (n := 13) C dX6_isAsked_10 (by decide) rfl (fun h2 => ?_) (fun h2 => ?_)
  · refine y_iconst (n := 18) C (0 : Int32) dX6_isAsked_17 (by decide) rfl ?_
    exact y_rz C hR dX6_isAsked_18
  · refine y_iconst (n := 14) C (1 : Int32) dX6_isAsked_13 (by decide) rfl ?_
    refine y_goto (tgt := 18) C dX6_isAsked_14 (by decide) ?_
    exact y_rz C hR dX6_isAsked_18
theorem mX6_isAsked {E : Ex} {o : Nat} (hO : shM E.2.2.2.2.2.1 o) (w : Wd) (a1 : Int32) (l : Launch) : MP l yX6_isAsked cX6_isAsked 2 (some .boolean) { frames := 0, cells := 0, slots := 0, locals := 0 } E [.ref (E.2.2.2.2.1 + o), .int a1] w (fX6_isAsked w o a1) :=
  y_met (Qc := fun r => yQi E (r, w)) (by decide +kernel) (Nat.le_of_ble_eq_true rfl) (fun g C hR => eX6_isAsked C hR hO w a1) l
def lX6_asked_4 (o : Nat) : Nat → Wd → Int32 → Int32 → Option (Int32)
  | 0, _, _, _ => none
  | n + 1, w, x1, x2 =>
    if 6 ≤ x2 then
      some x1
    else
      (fX6_isAsked w o x2).bind fun v2 =>
      if v2 = 0 then
        lX6_asked_4 o n w (x1 + 0) (x2 + 1)
      else
        lX6_asked_4 o n w (x1 + 1) (x2 + 1)
set_option maxRecDepth 4000 in
theorem clX6_asked_4 {g : Gx} {E : Ex} (C : CC g E cX6_asked 3 RX6 1 21) (hR : RT g (some .int)) {o : Nat} (hO : shM E.2.2.2.2.2.1 o) (w : Wd) : ∀ (n : Nat) (x1 : Int32) (x2 : Int32), YO g E 3 (QP g E w) (lX6_asked_4 o n w x1 x2) w 4 [(0, .ref (E.2.2.2.2.1 + o)), (1, .int x1), (2, .int x2)] [] := by
  intro n
  induction n with
  | zero => intro x1 x2; exact y_no
  | succ n ih =>
    intro x1 x2
    rw [lX6_asked_4]
    refine y_iload_n (n := 5) C dX6_asked_4 2 rfl rfl ?_
    refine y_bipush (n := 7) C (6 : Int32) dX6_asked_5 (by decide) rfl ?_
    refine y_icmp_ge (tgt := 32) (n := 10) C dX6_asked_7 (by decide) rfl (fun h1 => ?_) (fun h1 => ?_)
    · refine y_iload_n (n := 33) C dX6_asked_32 1 rfl rfl ?_
      exact y_rp C hR dX6_asked_33
    · refine y_iload_n (n := 11) C dX6_asked_10 1 rfl rfl ?_
      refine y_aload_n (n := 12) C dX6_asked_11 0 rfl rfl ?_
      refine y_iload_n (n := 13) C dX6_asked_12 2 rfl rfl ?_
      refine y_cp (n := 16) C (fun r hr H locs la hP hS hl => y_runV (ci := 6) (st := [.int x1]) C ky_X6_isAsked wd_889 ⟨Nat.le_of_ble_eq_true rfl, Nat.le_of_ble_eq_true rfl⟩ hO.1 rfl (mX6_isAsked hO w x2 g.2.1 r hr) rfl (Nat.le_of_ble_eq_true rfl) rfl dX6_asked_13 hP hS hl) rfl (fun v2 hv2 => ?_)
      refine y_if_eq (tgt := 23) (n := 19) C dX6_asked_16 (by decide) rfl (fun h3 => ?_) (fun h3 => ?_)
      · refine y_iconst (n := 24) C (0 : Int32) dX6_asked_23 (by decide) rfl ?_
        refine y_iadd (n := 25) C dX6_asked_24 rfl ?_
        refine y_istore_n (n := 26) (ls' := [(1, .int (x1 + 0)), (0, .ref (E.2.2.2.2.1 + o)), (2, .int x2)]) C dX6_asked_25 (by decide) rfl rfl ?_
        refine y_iinc (n := 29) (v := x2 + 1) (ls' := [(2, .int (x2 + 1)), (1, .int (x1 + 0)), (0, .ref (E.2.2.2.2.1 + o))]) C dX6_asked_26 2 rfl rfl (by decide) rfl rfl ?_
        refine y_goto (tgt := 4) C dX6_asked_29 (by decide) ?_
        refine y_ls [2, 1, 0] rfl ?_
        exact ih (x1 + 0) (x2 + 1)
      · refine y_iconst (n := 20) C (1 : Int32) dX6_asked_19 (by decide) rfl ?_
        refine y_goto (tgt := 24) C dX6_asked_20 (by decide) ?_
        refine y_iadd (n := 25) C dX6_asked_24 rfl ?_
        refine y_istore_n (n := 26) (ls' := [(1, .int (x1 + 1)), (0, .ref (E.2.2.2.2.1 + o)), (2, .int x2)]) C dX6_asked_25 (by decide) rfl rfl ?_
        refine y_iinc (n := 29) (v := x2 + 1) (ls' := [(2, .int (x2 + 1)), (1, .int (x1 + 1)), (0, .ref (E.2.2.2.2.1 + o))]) C dX6_asked_26 2 rfl rfl (by decide) rfl rfl ?_
        refine y_goto (tgt := 4) C dX6_asked_29 (by decide) ?_
        refine y_ls [2, 1, 0] rfl ?_
        exact ih (x1 + 1) (x2 + 1)
def fX6_asked (w : Wd) (o : Nat)  : Option (Int32) :=
  lX6_asked_4 o 4096 w 0 0
set_option maxRecDepth 4000 in
theorem eX6_asked {g : Gx} {E : Ex} (C : CC g E cX6_asked 3 RX6 1 21) (hR : RT g (some .int)) {o : Nat} (hO : shM E.2.2.2.2.2.1 o) (w : Wd)  : YO g E 3 (QP g E w) (fX6_asked w o) w 0 [(0, .ref (E.2.2.2.2.1 + o))] [] := by
  unfold fX6_asked
  refine y_iconst (n := 1) C (0 : Int32) dX6_asked_0 (by decide) rfl ?_
  refine y_istore_n (n := 2) (ls' := [(1, .int 0), (0, .ref (E.2.2.2.2.1 + o))]) C dX6_asked_1 (by decide) rfl rfl ?_
  refine y_iconst (n := 3) C (0 : Int32) dX6_asked_2 (by decide) rfl ?_
  refine y_istore_n (n := 4) (ls' := [(2, .int 0), (1, .int 0), (0, .ref (E.2.2.2.2.1 + o))]) C dX6_asked_3 (by decide) rfl rfl ?_
  refine y_ls [2, 1, 0] rfl ?_
  exact clX6_asked_4 C hR hO w 4096 0 0
theorem mX6_asked {E : Ex} {o : Nat} (hO : shM E.2.2.2.2.2.1 o) (w : Wd)  (l : Launch) : MP l yX6_asked cX6_asked 3 (some .int) { frames := 1, cells := 0, slots := 0, locals := 21 } E [.ref (E.2.2.2.2.1 + o)] w (fX6_asked w o) :=
  y_met (Qc := fun r => yQi E (r, w)) (by decide +kernel) (Nat.le_of_ble_eq_true rfl) (fun g C hR => eX6_asked C hR hO w ) l
def fX6_left (w : Wd) (o : Nat) (a1 : Int32) : Option (Int32) :=
  (ldI 706 w (o + 1) (480 + a1)).bind fun v1 =>
  (ldI 706 w (o + 1) (568 + a1)).bind fun v2 =>
  some (v1 - v2)
set_option maxRecDepth 4000 in
theorem eX6_left {g : Gx} {E : Ex} (C : CC g E cX6_left 2 RX6 0 0) (hR : RT g (some .int)) {o : Nat} (hO : shM E.2.2.2.2.2.1 o) (w : Wd) (a1 : Int32) : YO g E 2 (QP g E w) (fX6_left w o a1) w 0 [(0, .ref (E.2.2.2.2.1 + o)), (1, .int a1)] [] := by
  unfold fX6_left
  refine y_aload_n (n := 1) C dX6_left_0 0 rfl rfl ?_
  refine y_get (ci := 6) (f := 0) (n := 4) C in_X6 hO.1 rfl (by decide) wd_731 rfl rfl dX6_left_1 rfl ?_
  refine y_sipush (n := 7) C (480 : Int32) dX6_left_4 (by decide) rfl ?_
  refine y_iload_n (n := 8) C dX6_left_7 1 rfl rfl ?_
  refine y_iadd (n := 9) C dX6_left_8 rfl ?_
  refine y_iald (n := 10) C hO.2.1 dX6_left_9 rfl (fun v1 hv1 => ?_)
  refine y_aload_n (n := 11) C dX6_left_10 0 rfl rfl ?_
  refine y_get (ci := 6) (f := 0) (n := 14) C in_X6 hO.1 rfl (by decide) wd_731 rfl rfl dX6_left_11 rfl ?_
  refine y_sipush (n := 17) C (568 : Int32) dX6_left_14 (by decide) rfl ?_
  refine y_iload_n (n := 18) C dX6_left_17 1 rfl rfl ?_
  refine y_iadd (n := 19) C dX6_left_18 rfl ?_
  refine y_iald (n := 20) C hO.2.1 dX6_left_19 rfl (fun v2 hv2 => ?_)
  refine y_isub (n := 21) C dX6_left_20 rfl ?_
  exact y_rp C hR dX6_left_21
theorem mX6_left {E : Ex} {o : Nat} (hO : shM E.2.2.2.2.2.1 o) (w : Wd) (a1 : Int32) (l : Launch) : MP l yX6_left cX6_left 2 (some .int) { frames := 0, cells := 0, slots := 0, locals := 0 } E [.ref (E.2.2.2.2.1 + o), .int a1] w (fX6_left w o a1) :=
  y_met (Qc := fun r => yQi E (r, w)) (by decide +kernel) (Nat.le_of_ble_eq_true rfl) (fun g C hR => eX6_left C hR hO w a1) l
def fX6_bound (w : Wd) (o : Nat) (a1 : Int32) : Option (Int32) :=
  (fX6_left w o a1).bind fun v1 =>
  if v1 = 0 then
    some 0
  else
    (ldI 706 w (o + 1) (568 + a1)).bind fun v3 =>
    (ldI 706 w (o + 1) ((240 + (40 * a1)) + v3)).bind fun v4 =>
    some v4
set_option maxRecDepth 4000 in
theorem eX6_bound {g : Gx} {E : Ex} (C : CC g E cX6_bound 2 RX6 1 21) (hR : RT g (some .int)) {o : Nat} (hO : shM E.2.2.2.2.2.1 o) (w : Wd) (a1 : Int32) : YO g E 2 (QP g E w) (fX6_bound w o a1) w 0 [(0, .ref (E.2.2.2.2.1 + o)), (1, .int a1)] [] := by
  unfold fX6_bound
  refine y_aload_n (n := 1) C dX6_bound_0 0 rfl rfl ?_
  refine y_iload_n (n := 2) C dX6_bound_1 1 rfl rfl ?_
  refine y_cp (n := 5) C (fun r hr H locs la hP hS hl => y_runV (ci := 6) (st := []) C ky_X6_left wd_905 ⟨Nat.le_of_ble_eq_true rfl, Nat.le_of_ble_eq_true rfl⟩ hO.1 rfl (mX6_left hO w a1 g.2.1 r hr) rfl (Nat.le_of_ble_eq_true rfl) rfl dX6_bound_2 hP hS hl) rfl (fun v1 hv1 => ?_)
  refine y_if_ne (tgt := 12) (n := 8) C dX6_bound_5 (by decide) rfl (fun h2 => ?_) (fun h2 => ?_)
  · refine y_aload_n (n := 13) C dX6_bound_12 0 rfl rfl ?_
    refine y_get (ci := 6) (f := 0) (n := 16) C in_X6 hO.1 rfl (by decide) wd_731 rfl rfl dX6_bound_13 rfl ?_
    refine y_sipush (n := 19) C (240 : Int32) dX6_bound_16 (by decide) rfl ?_
    refine y_bipush (n := 21) C (40 : Int32) dX6_bound_19 (by decide) rfl ?_
    refine y_iload_n (n := 22) C dX6_bound_21 1 rfl rfl ?_
    refine y_imul (n := 23) C dX6_bound_22 rfl ?_
    refine y_iadd (n := 24) C dX6_bound_23 rfl ?_
    refine y_aload_n (n := 25) C dX6_bound_24 0 rfl rfl ?_
    refine y_get (ci := 6) (f := 0) (n := 28) C in_X6 hO.1 rfl (by decide) wd_731 rfl rfl dX6_bound_25 rfl ?_
    refine y_sipush (n := 31) C (568 : Int32) dX6_bound_28 (by decide) rfl ?_
    refine y_iload_n (n := 32) C dX6_bound_31 1 rfl rfl ?_
    refine y_iadd (n := 33) C dX6_bound_32 rfl ?_
    refine y_iald (n := 34) C hO.2.1 dX6_bound_33 rfl (fun v3 hv3 => ?_)
    refine y_iadd (n := 35) C dX6_bound_34 rfl ?_
    refine y_iald (n := 36) C hO.2.1 dX6_bound_35 rfl (fun v4 hv4 => ?_)
    exact y_rp C hR dX6_bound_36
  · refine y_iconst (n := 9) C (0 : Int32) dX6_bound_8 (by decide) rfl ?_
    refine y_goto (tgt := 36) C dX6_bound_9 (by decide) ?_
    exact y_rp C hR dX6_bound_36
theorem mX6_bound {E : Ex} {o : Nat} (hO : shM E.2.2.2.2.2.1 o) (w : Wd) (a1 : Int32) (l : Launch) : MP l yX6_bound cX6_bound 2 (some .int) { frames := 1, cells := 0, slots := 0, locals := 21 } E [.ref (E.2.2.2.2.1 + o), .int a1] w (fX6_bound w o a1) :=
  y_met (Qc := fun r => yQi E (r, w)) (by decide +kernel) (Nat.le_of_ble_eq_true rfl) (fun g C hR => eX6_bound C hR hO w a1) l
def fX6_toldBound (w : Wd) (o : Nat) (a1 : Int32) : Option (Int32) :=
  (fX6_bound w o a1).bind fun v1 =>
  (ldI 706 w (o + 1) (492 + a1)).bind fun v2 =>
  if v2 ≤ v1 then
    (ldI 706 w (o + 1) (492 + a1)).bind fun v4 =>
    (ldI 706 w (o + 1) (574 + a1)).bind fun v5 =>
    if v5 = 1 then
      some v1
    else
      some (v1 - v4)
  else
    (ldI 706 w (o + 1) (574 + a1)).bind fun v7 =>
    if v7 = 1 then
      some v1
    else
      some 0
set_option maxRecDepth 4000 in
theorem eX6_toldBound {g : Gx} {E : Ex} (C : CC g E cX6_toldBound 4 RX6 2 42) (hR : RT g (some .int)) {o : Nat} (hO : shM E.2.2.2.2.2.1 o) (w : Wd) (a1 : Int32) : YO g E 4 (QP g E w) (fX6_toldBound w o a1) w 0 [(0, .ref (E.2.2.2.2.1 + o)), (1, .int a1)] [] := by
  unfold fX6_toldBound
  refine y_aload_n (n := 1) C dX6_toldBound_0 0 rfl rfl ?_
  refine y_iload_n (n := 2) C dX6_toldBound_1 1 rfl rfl ?_
  refine y_cp (n := 5) C (fun r hr H locs la hP hS hl => y_runV (ci := 6) (st := []) C ky_X6_bound wd_945 ⟨Nat.le_of_ble_eq_true rfl, Nat.le_of_ble_eq_true rfl⟩ hO.1 rfl (mX6_bound hO w a1 g.2.1 r hr) rfl (Nat.le_of_ble_eq_true rfl) rfl dX6_toldBound_2 hP hS hl) rfl (fun v1 hv1 => ?_)
  refine y_istore_n (n := 6) (ls' := [(2, .int v1), (0, .ref (E.2.2.2.2.1 + o)), (1, .int a1)]) C dX6_toldBound_5 (by decide) rfl rfl ?_
  refine y_iload_n (n := 7) C dX6_toldBound_6 0 rfl rfl ?_
  refine y_aload_n (n := 8) C dX6_toldBound_7 1 rfl rfl ?_
  refine y_get (ci := 6) (f := 0) (n := 11) C in_X6 hO.1 rfl (by decide) wd_731 rfl rfl dX6_toldBound_8 rfl ?_
  refine y_sipush (n := 14) C (492 : Int32) dX6_toldBound_11 (by decide) rfl ?_
  refine y_iload_n (n := 15) C dX6_toldBound_14 2 rfl rfl ?_
  refine y_iadd (n := 16) C dX6_toldBound_15 rfl ?_
  refine y_iald (n := 17) C hO.2.1 dX6_toldBound_16 rfl (fun v2 hv2 => ?_)
  refine y_icmp_ge (tgt := 24) (n := 20) C dX6_toldBound_17 (by decide) rfl (fun h3 => ?_) (fun h3 => ?_)
  · refine y_iload_n (n := 25) C dX6_toldBound_24 0 rfl rfl ?_
    refine y_aload_n (n := 26) C dX6_toldBound_25 1 rfl rfl ?_
    refine y_get (ci := 6) (f := 0) (n := 29) C in_X6 hO.1 rfl (by decide) wd_731 rfl rfl dX6_toldBound_26 rfl ?_
    refine y_sipush (n := 32) C (492 : Int32) dX6_toldBound_29 (by decide) rfl ?_
    refine y_iload_n (n := 33) C dX6_toldBound_32 2 rfl rfl ?_
    refine y_iadd (n := 34) C dX6_toldBound_33 rfl ?_
    refine y_iald (n := 35) C hO.2.1 dX6_toldBound_34 rfl (fun v4 hv4 => ?_)
    refine y_isub (n := 36) C dX6_toldBound_35 rfl ?_
    refine y_istore_n (n := 37) (ls' := [(3, .int (v1 - v4)), (2, .int v1), (0, .ref (E.2.2.2.2.1 + o)), (1, .int a1)]) C dX6_toldBound_36 (by decide) rfl rfl ?_
    refine y_aload_n (n := 38) C dX6_toldBound_37 2 rfl rfl ?_
    refine y_get (ci := 6) (f := 0) (n := 41) C in_X6 hO.1 rfl (by decide) wd_731 rfl rfl dX6_toldBound_38 rfl ?_
    refine y_sipush (n := 44) C (574 : Int32) dX6_toldBound_41 (by decide) rfl ?_
    refine y_iload_n (n := 45) C dX6_toldBound_44 3 rfl rfl ?_
    refine y_iadd (n := 46) C dX6_toldBound_45 rfl ?_
    refine y_iald (n := 47) C hO.2.1 dX6_toldBound_46 rfl (fun v5 hv5 => ?_)
    refine y_iconst (n := 48) C (1 : Int32) dX6_toldBound_47 (by decide) rfl ?_
    refine y_icmp_ne (tgt := 55) (n := 51) C dX6_toldBound_48 (by decide) rfl (fun h6 => ?_) (fun h6 => ?_)
    · refine y_iload_n (n := 56) C dX6_toldBound_55 0 rfl rfl ?_
      exact y_rp C hR dX6_toldBound_56
    · refine y_iload_n (n := 52) C dX6_toldBound_51 1 rfl rfl ?_
      refine y_goto (tgt := 56) C dX6_toldBound_52 (by decide) ?_
      exact y_rp C hR dX6_toldBound_56
  · refine y_iconst (n := 21) C (0 : Int32) dX6_toldBound_20 (by decide) rfl ?_
    refine y_goto (tgt := 36) C dX6_toldBound_21 (by decide) ?_
    refine y_istore_n (n := 37) (ls' := [(3, .int 0), (2, .int v1), (0, .ref (E.2.2.2.2.1 + o)), (1, .int a1)]) C dX6_toldBound_36 (by decide) rfl rfl ?_
    refine y_aload_n (n := 38) C dX6_toldBound_37 2 rfl rfl ?_
    refine y_get (ci := 6) (f := 0) (n := 41) C in_X6 hO.1 rfl (by decide) wd_731 rfl rfl dX6_toldBound_38 rfl ?_
    refine y_sipush (n := 44) C (574 : Int32) dX6_toldBound_41 (by decide) rfl ?_
    refine y_iload_n (n := 45) C dX6_toldBound_44 3 rfl rfl ?_
    refine y_iadd (n := 46) C dX6_toldBound_45 rfl ?_
    refine y_iald (n := 47) C hO.2.1 dX6_toldBound_46 rfl (fun v7 hv7 => ?_)
    refine y_iconst (n := 48) C (1 : Int32) dX6_toldBound_47 (by decide) rfl ?_
    refine y_icmp_ne (tgt := 55) (n := 51) C dX6_toldBound_48 (by decide) rfl (fun h8 => ?_) (fun h8 => ?_)
    · refine y_iload_n (n := 56) C dX6_toldBound_55 0 rfl rfl ?_
      exact y_rp C hR dX6_toldBound_56
    · refine y_iload_n (n := 52) C dX6_toldBound_51 1 rfl rfl ?_
      refine y_goto (tgt := 56) C dX6_toldBound_52 (by decide) ?_
      exact y_rp C hR dX6_toldBound_56
theorem mX6_toldBound {E : Ex} {o : Nat} (hO : shM E.2.2.2.2.2.1 o) (w : Wd) (a1 : Int32) (l : Launch) : MP l yX6_toldBound cX6_toldBound 4 (some .int) { frames := 2, cells := 0, slots := 0, locals := 42 } E [.ref (E.2.2.2.2.1 + o), .int a1] w (fX6_toldBound w o a1) :=
  y_met (Qc := fun r => yQi E (r, w)) (by decide +kernel) (Nat.le_of_ble_eq_true rfl) (fun g C hR => eX6_toldBound C hR hO w a1) l
def lX6_boundsTogether_4 (o : Nat) : Nat → Wd → Int32 → Int32 → Option (Int32)
  | 0, _, _, _ => none
  | n + 1, w, x1, x2 =>
    if 6 ≤ x2 then
      some x1
    else
      (ldI 706 w (o + 1) (486 + x2)).bind fun v2 =>
      (fX6_toldBound w o x2).bind fun v3 =>
      lX6_boundsTogether_4 o n w (x1 + (v2 * v3)) (x2 + 1)
set_option maxRecDepth 4000 in
theorem clX6_boundsTogether_4 {g : Gx} {E : Ex} (C : CC g E cX6_boundsTogether 3 RX6 3 65) (hR : RT g (some .int)) {o : Nat} (hO : shM E.2.2.2.2.2.1 o) (w : Wd) : ∀ (n : Nat) (x1 : Int32) (x2 : Int32), YO g E 3 (QP g E w) (lX6_boundsTogether_4 o n w x1 x2) w 4 [(0, .ref (E.2.2.2.2.1 + o)), (1, .int x1), (2, .int x2)] [] := by
  intro n
  induction n with
  | zero => intro x1 x2; exact y_no
  | succ n ih =>
    intro x1 x2
    rw [lX6_boundsTogether_4]
    refine y_iload_n (n := 5) C dX6_boundsTogether_4 2 rfl rfl ?_
    refine y_bipush (n := 7) C (6 : Int32) dX6_boundsTogether_5 (by decide) rfl ?_
    refine y_icmp_ge (tgt := 35) (n := 10) C dX6_boundsTogether_7 (by decide) rfl (fun h1 => ?_) (fun h1 => ?_)
    · refine y_iload_n (n := 36) C dX6_boundsTogether_35 1 rfl rfl ?_
      exact y_rp C hR dX6_boundsTogether_36
    · refine y_iload_n (n := 11) C dX6_boundsTogether_10 1 rfl rfl ?_
      refine y_aload_n (n := 12) C dX6_boundsTogether_11 0 rfl rfl ?_
      refine y_get (ci := 6) (f := 0) (n := 15) C in_X6 hO.1 rfl (by decide) wd_731 rfl rfl dX6_boundsTogether_12 rfl ?_
      refine y_sipush (n := 18) C (486 : Int32) dX6_boundsTogether_15 (by decide) rfl ?_
      refine y_iload_n (n := 19) C dX6_boundsTogether_18 2 rfl rfl ?_
      refine y_iadd (n := 20) C dX6_boundsTogether_19 rfl ?_
      refine y_iald (n := 21) C hO.2.1 dX6_boundsTogether_20 rfl (fun v2 hv2 => ?_)
      refine y_aload_n (n := 22) C dX6_boundsTogether_21 0 rfl rfl ?_
      refine y_iload_n (n := 23) C dX6_boundsTogether_22 2 rfl rfl ?_
      refine y_cp (n := 26) C (fun r hr H locs la hP hS hl => y_runV (ci := 6) (st := [.int v2, .int x1]) C ky_X6_toldBound wd_941 ⟨Nat.le_of_ble_eq_true rfl, Nat.le_of_ble_eq_true rfl⟩ hO.1 rfl (mX6_toldBound hO w x2 g.2.1 r hr) rfl (Nat.le_of_ble_eq_true rfl) rfl dX6_boundsTogether_23 hP hS hl) rfl (fun v3 hv3 => ?_)
      refine y_imul (n := 27) C dX6_boundsTogether_26 rfl ?_
      refine y_iadd (n := 28) C dX6_boundsTogether_27 rfl ?_
      refine y_istore_n (n := 29) (ls' := [(1, .int (x1 + (v2 * v3))), (0, .ref (E.2.2.2.2.1 + o)), (2, .int x2)]) C dX6_boundsTogether_28 (by decide) rfl rfl ?_
      refine y_iinc (n := 32) (v := x2 + 1) (ls' := [(2, .int (x2 + 1)), (1, .int (x1 + (v2 * v3))), (0, .ref (E.2.2.2.2.1 + o))]) C dX6_boundsTogether_29 2 rfl rfl (by decide) rfl rfl ?_
      refine y_goto (tgt := 4) C dX6_boundsTogether_32 (by decide) ?_
      refine y_ls [2, 1, 0] rfl ?_
      exact ih (x1 + (v2 * v3)) (x2 + 1)
def fX6_boundsTogether (w : Wd) (o : Nat)  : Option (Int32) :=
  lX6_boundsTogether_4 o 4096 w 0 0
set_option maxRecDepth 4000 in
theorem eX6_boundsTogether {g : Gx} {E : Ex} (C : CC g E cX6_boundsTogether 3 RX6 3 65) (hR : RT g (some .int)) {o : Nat} (hO : shM E.2.2.2.2.2.1 o) (w : Wd)  : YO g E 3 (QP g E w) (fX6_boundsTogether w o) w 0 [(0, .ref (E.2.2.2.2.1 + o))] [] := by
  unfold fX6_boundsTogether
  refine y_iconst (n := 1) C (0 : Int32) dX6_boundsTogether_0 (by decide) rfl ?_
  refine y_istore_n (n := 2) (ls' := [(1, .int 0), (0, .ref (E.2.2.2.2.1 + o))]) C dX6_boundsTogether_1 (by decide) rfl rfl ?_
  refine y_iconst (n := 3) C (0 : Int32) dX6_boundsTogether_2 (by decide) rfl ?_
  refine y_istore_n (n := 4) (ls' := [(2, .int 0), (1, .int 0), (0, .ref (E.2.2.2.2.1 + o))]) C dX6_boundsTogether_3 (by decide) rfl rfl ?_
  refine y_ls [2, 1, 0] rfl ?_
  exact clX6_boundsTogether_4 C hR hO w 4096 0 0
theorem mX6_boundsTogether {E : Ex} {o : Nat} (hO : shM E.2.2.2.2.2.1 o) (w : Wd)  (l : Launch) : MP l yX6_boundsTogether cX6_boundsTogether 3 (some .int) { frames := 3, cells := 0, slots := 0, locals := 65 } E [.ref (E.2.2.2.2.1 + o)] w (fX6_boundsTogether w o) :=
  y_met (Qc := fun r => yQi E (r, w)) (by decide +kernel) (Nat.le_of_ble_eq_true rfl) (fun g C hR => eX6_boundsTogether C hR hO w ) l
def fX6_canBeRead (w : Wd) (o : Nat) (a1 : Int32) : Option (Int32) :=
  (fX6_isAsked w o a1).bind fun v1 =>
  if v1 = 0 then
    rtZ 0
  else
    (fX6_left w o a1).bind fun v3 =>
    if v3 ≤ 0 then
      rtZ 0
    else
      rtZ 1
set_option maxRecDepth 4000 in
theorem eX6_canBeRead {g : Gx} {E : Ex} (C : CC g E cX6_canBeRead 2 RX6 1 21) (hR : RT g (some .boolean)) {o : Nat} (hO : shM E.2.2.2.2.2.1 o) (w : Wd) (a1 : Int32) : YO g E 2 (QP g E w) (fX6_canBeRead w o a1) w 0 [(0, .ref (E.2.2.2.2.1 + o)), (1, .int a1)] [] := by
  unfold fX6_canBeRead
  refine y_aload_n (n := 1) C dX6_canBeRead_0 0 rfl rfl ?_
  refine y_iload_n (n := 2) C dX6_canBeRead_1 1 rfl rfl ?_
  refine y_cp (n := 5) C (fun r hr H locs la hP hS hl => y_runV (ci := 6) (st := []) C ky_X6_isAsked wd_889 ⟨Nat.le_of_ble_eq_true rfl, Nat.le_of_ble_eq_true rfl⟩ hO.1 rfl (mX6_isAsked hO w a1 g.2.1 r hr) rfl (Nat.le_of_ble_eq_true rfl) rfl dX6_canBeRead_2 hP hS hl) rfl (fun v1 hv1 => ?_)
  refine y_if_eq (tgt := 20) (n := 8) C dX6_canBeRead_5 (by decide) rfl (fun h2 => ?_) (fun h2 => ?_)
  · refine y_iconst (n := 21) C (0 : Int32) dX6_canBeRead_20 (by decide) rfl ?_
    exact y_rz C hR dX6_canBeRead_21
  · refine y_aload_n (n := 9) C dX6_canBeRead_8 0 rfl rfl ?_
    refine y_iload_n (n := 10) C dX6_canBeRead_9 1 rfl rfl ?_
    refine y_cp (n := 13) C (fun r hr H locs la hP hS hl => y_runV (ci := 6) (st := []) C ky_X6_left wd_905 ⟨Nat.le_of_ble_eq_true rfl, Nat.le_of_ble_eq_true rfl⟩ hO.1 rfl (mX6_left hO w a1 g.2.1 r hr) rfl (Nat.le_of_ble_eq_true rfl) rfl dX6_canBeRead_10 hP hS hl) rfl (fun v3 hv3 => ?_)
    refine y_if_le (tgt := 20) (n := 16) C dX6_canBeRead_13 (by decide) rfl (fun h4 => ?_) (fun h4 => ?_)
    · refine y_iconst (n := 21) C (0 : Int32) dX6_canBeRead_20 (by decide) rfl ?_
      exact y_rz C hR dX6_canBeRead_21
    · refine y_iconst (n := 17) C (1 : Int32) dX6_canBeRead_16 (by decide) rfl ?_
      refine y_goto (tgt := 21) C dX6_canBeRead_17 (by decide) ?_
      exact y_rz C hR dX6_canBeRead_21
theorem mX6_canBeRead {E : Ex} {o : Nat} (hO : shM E.2.2.2.2.2.1 o) (w : Wd) (a1 : Int32) (l : Launch) : MP l yX6_canBeRead cX6_canBeRead 2 (some .boolean) { frames := 1, cells := 0, slots := 0, locals := 21 } E [.ref (E.2.2.2.2.1 + o), .int a1] w (fX6_canBeRead w o a1) :=
  y_met (Qc := fun r => yQi E (r, w)) (by decide +kernel) (Nat.le_of_ble_eq_true rfl) (fun g C hR => eX6_canBeRead C hR hO w a1) l
def fX6_isSeen (w : Wd) (o : Nat) (a1 : Int32) : Option (Int32) :=
  (ldI 706 w (o + 1) (586 + a1)).bind fun v1 =>
  if v1 ≤ 0 then
    rtZ 0
  else
    rtZ 1
set_option maxRecDepth 4000 in
theorem eX6_isSeen {g : Gx} {E : Ex} (C : CC g E cX6_isSeen 2 RX6 0 0) (hR : RT g (some .boolean)) {o : Nat} (hO : shM E.2.2.2.2.2.1 o) (w : Wd) (a1 : Int32) : YO g E 2 (QP g E w) (fX6_isSeen w o a1) w 0 [(0, .ref (E.2.2.2.2.1 + o)), (1, .int a1)] [] := by
  unfold fX6_isSeen
  refine y_aload_n (n := 1) C dX6_isSeen_0 0 rfl rfl ?_
  refine y_get (ci := 6) (f := 0) (n := 4) C in_X6 hO.1 rfl (by decide) wd_731 rfl rfl dX6_isSeen_1 rfl ?_
  refine y_sipush (n := 7) C (586 : Int32) dX6_isSeen_4 (by decide) rfl ?_
  refine y_iload_n (n := 8) C dX6_isSeen_7 1 rfl rfl ?_
  refine y_iadd (n := 9) C dX6_isSeen_8 rfl ?_
  refine y_iald (n := 10) C hO.2.1 dX6_isSeen_9 rfl (fun v1 hv1 => ?_)
  refine y_if_le (tgt := 17) (n := 13) C dX6_isSeen_10 (by decide) rfl (fun h2 => ?_) (fun h2 => ?_)
  · refine y_iconst (n := 18) C (0 : Int32) dX6_isSeen_17 (by decide) rfl ?_
    exact y_rz C hR dX6_isSeen_18
  · refine y_iconst (n := 14) C (1 : Int32) dX6_isSeen_13 (by decide) rfl ?_
    refine y_goto (tgt := 18) C dX6_isSeen_14 (by decide) ?_
    exact y_rz C hR dX6_isSeen_18
theorem mX6_isSeen {E : Ex} {o : Nat} (hO : shM E.2.2.2.2.2.1 o) (w : Wd) (a1 : Int32) (l : Launch) : MP l yX6_isSeen cX6_isSeen 2 (some .boolean) { frames := 0, cells := 0, slots := 0, locals := 0 } E [.ref (E.2.2.2.2.1 + o), .int a1] w (fX6_isSeen w o a1) :=
  y_met (Qc := fun r => yQi E (r, w)) (by decide +kernel) (Nat.le_of_ble_eq_true rfl) (fun g C hR => eX6_isSeen C hR hO w a1) l
def lX6_frontPlace_12 (o : Nat) : Nat → Wd → Int32 → Int32 → Int32 → Int32 → Option (Int32)
  | 0, _, _, _, _, _ => none
  | n + 1, w, x1, x2, x3, x4 =>
    if 60 ≤ x4 then
      some x3
    else
      (ldI 60 w (o + 5) x4).bind fun v3 =>
      if x2 < v3 then
        (fX6_isSeen w o x4).bind fun v5 =>
        if v5 = 0 then
          lX6_frontPlace_12 o n w x1 x2 (x3 + 0) (x4 + 1)
        else
          lX6_frontPlace_12 o n w x1 x2 (x3 + 1) (x4 + 1)
      else
        (ldI 60 w (o + 5) x4).bind fun v7 =>
        if v7 = x2 then
          if x1 ≤ x4 then
            (fX6_isSeen w o x4).bind fun v12 =>
            if v12 = 0 then
              lX6_frontPlace_12 o n w x1 x2 (x3 + 0) (x4 + 1)
            else
              lX6_frontPlace_12 o n w x1 x2 (x3 + 0) (x4 + 1)
          else
            (fX6_isSeen w o x4).bind fun v14 =>
            if v14 = 0 then
              lX6_frontPlace_12 o n w x1 x2 (x3 + 0) (x4 + 1)
            else
              lX6_frontPlace_12 o n w x1 x2 (x3 + 1) (x4 + 1)
        else
          (fX6_isSeen w o x4).bind fun v9 =>
          if v9 = 0 then
            lX6_frontPlace_12 o n w x1 x2 (x3 + 0) (x4 + 1)
          else
            lX6_frontPlace_12 o n w x1 x2 (x3 + 0) (x4 + 1)
set_option maxRecDepth 4000 in
theorem clX6_frontPlace_12 {g : Gx} {E : Ex} (C : CC g E cX6_frontPlace 6 RX6 1 21) (hR : RT g (some .int)) {o : Nat} (hO : shM E.2.2.2.2.2.1 o) (w : Wd) : ∀ (n : Nat) (x1 : Int32) (x2 : Int32) (x3 : Int32) (x4 : Int32), YO g E 6 (QP g E w) (lX6_frontPlace_12 o n w x1 x2 x3 x4) w 12 [(0, .ref (E.2.2.2.2.1 + o)), (1, .int x1), (2, .int x2), (3, .int x3), (4, .int x4)] [] := by
  intro n
  induction n with
  | zero => intro x1 x2 x3 x4; exact y_no
  | succ n ih =>
    intro x1 x2 x3 x4
    rw [lX6_frontPlace_12]
    refine y_iload (n := 14) C dX6_frontPlace_12 4 rfl rfl ?_
    refine y_bipush (n := 16) C (60 : Int32) dX6_frontPlace_14 (by decide) rfl ?_
    refine y_icmp_ge (tgt := 82) (n := 19) C dX6_frontPlace_16 (by decide) rfl (fun h2 => ?_) (fun h2 => ?_)
    · refine y_iload_n (n := 83) C dX6_frontPlace_82 3 rfl rfl ?_
      exact y_rp C hR dX6_frontPlace_83
    · refine y_aload_n (n := 20) C dX6_frontPlace_19 0 rfl rfl ?_
      refine y_get (ci := 6) (f := 4) (n := 23) C in_X6 hO.1 rfl (by decide) wd_735 rfl rfl dX6_frontPlace_20 rfl ?_
      refine y_iload (n := 25) C dX6_frontPlace_23 4 rfl rfl ?_
      refine y_iald (n := 26) C hO.2.2.2.2.2.1 dX6_frontPlace_25 rfl (fun v3 hv3 => ?_)
      refine y_iload_n (n := 27) C dX6_frontPlace_26 2 rfl rfl ?_
      refine y_icmp_gt (tgt := 47) (n := 30) C dX6_frontPlace_27 (by decide) rfl (fun h4 => ?_) (fun h4 => ?_)
      · refine y_iconst (n := 48) C (1 : Int32) dX6_frontPlace_47 (by decide) rfl ?_
        refine y_goto (tgt := 52) C dX6_frontPlace_48 (by decide) ?_
        refine y_istore (n := 54) (ls' := [(5, .int 1), (0, .ref (E.2.2.2.2.1 + o)), (1, .int x1), (2, .int x2), (3, .int x3), (4, .int x4)]) C dX6_frontPlace_52 (by decide) rfl rfl ?_
        refine y_iload_n (n := 55) C dX6_frontPlace_54 4 rfl rfl ?_
        refine y_aload_n (n := 56) C dX6_frontPlace_55 1 rfl rfl ?_
        refine y_iload (n := 58) C dX6_frontPlace_56 5 rfl rfl ?_
        refine y_cp (n := 61) C (fun r hr H locs la hP hS hl => y_runV (ci := 6) (st := [.int x3]) C ky_X6_isSeen wd_913 ⟨Nat.le_of_ble_eq_true rfl, Nat.le_of_ble_eq_true rfl⟩ hO.1 rfl (mX6_isSeen hO w x4 g.2.1 r hr) rfl (Nat.le_of_ble_eq_true rfl) rfl dX6_frontPlace_58 hP hS hl) rfl (fun v5 hv5 => ?_)
        refine y_if_eq (tgt := 73) (n := 64) C dX6_frontPlace_61 (by decide) rfl (fun h6 => ?_) (fun h6 => ?_)
        · refine y_iconst (n := 74) C (0 : Int32) dX6_frontPlace_73 (by decide) rfl ?_
          refine y_iadd (n := 75) C dX6_frontPlace_74 rfl ?_
          refine y_istore_n (n := 76) (ls' := [(3, .int (x3 + 0)), (5, .int 1), (0, .ref (E.2.2.2.2.1 + o)), (1, .int x1), (2, .int x2), (4, .int x4)]) C dX6_frontPlace_75 (by decide) rfl rfl ?_
          refine y_iinc (n := 79) (v := x4 + 1) (ls' := [(4, .int (x4 + 1)), (3, .int (x3 + 0)), (5, .int 1), (0, .ref (E.2.2.2.2.1 + o)), (1, .int x1), (2, .int x2)]) C dX6_frontPlace_76 5 rfl rfl (by decide) rfl rfl ?_
          refine y_goto (tgt := 12) C dX6_frontPlace_79 (by decide) ?_
          refine y_ls [3, 4, 5, 1, 0] rfl ?_
          exact ih x1 x2 (x3 + 0) (x4 + 1)
        · refine y_iload (n := 66) C dX6_frontPlace_64 0 rfl rfl ?_
          refine y_if_eq_F (tgt := 73) (n := 69) C dX6_frontPlace_66 (by decide) rfl (by decide) ?_
          refine y_iconst (n := 70) C (1 : Int32) dX6_frontPlace_69 (by decide) rfl ?_
          refine y_goto (tgt := 74) C dX6_frontPlace_70 (by decide) ?_
          refine y_iadd (n := 75) C dX6_frontPlace_74 rfl ?_
          refine y_istore_n (n := 76) (ls' := [(3, .int (x3 + 1)), (5, .int 1), (0, .ref (E.2.2.2.2.1 + o)), (1, .int x1), (2, .int x2), (4, .int x4)]) C dX6_frontPlace_75 (by decide) rfl rfl ?_
          refine y_iinc (n := 79) (v := x4 + 1) (ls' := [(4, .int (x4 + 1)), (3, .int (x3 + 1)), (5, .int 1), (0, .ref (E.2.2.2.2.1 + o)), (1, .int x1), (2, .int x2)]) C dX6_frontPlace_76 5 rfl rfl (by decide) rfl rfl ?_
          refine y_goto (tgt := 12) C dX6_frontPlace_79 (by decide) ?_
          refine y_ls [3, 4, 5, 1, 0] rfl ?_
          exact ih x1 x2 (x3 + 1) (x4 + 1)
      · refine y_aload_n (n := 31) C dX6_frontPlace_30 0 rfl rfl ?_
        refine y_get (ci := 6) (f := 4) (n := 34) C in_X6 hO.1 rfl (by decide) wd_735 rfl rfl dX6_frontPlace_31 rfl ?_
        refine y_iload (n := 36) C dX6_frontPlace_34 4 rfl rfl ?_
        refine y_iald (n := 37) C hO.2.2.2.2.2.1 dX6_frontPlace_36 rfl (fun v7 hv7 => ?_)
        refine y_iload_n (n := 38) C dX6_frontPlace_37 2 rfl rfl ?_
        refine y_icmp_ne (tgt := 51) (n := 41) C dX6_frontPlace_38 (by decide) rfl (fun h8 => ?_) (fun h8 => ?_)
        · refine y_iconst (n := 52) C (0 : Int32) dX6_frontPlace_51 (by decide) rfl ?_
          refine y_istore (n := 54) (ls' := [(5, .int 0), (0, .ref (E.2.2.2.2.1 + o)), (1, .int x1), (2, .int x2), (3, .int x3), (4, .int x4)]) C dX6_frontPlace_52 (by decide) rfl rfl ?_
          refine y_iload_n (n := 55) C dX6_frontPlace_54 4 rfl rfl ?_
          refine y_aload_n (n := 56) C dX6_frontPlace_55 1 rfl rfl ?_
          refine y_iload (n := 58) C dX6_frontPlace_56 5 rfl rfl ?_
          refine y_cp (n := 61) C (fun r hr H locs la hP hS hl => y_runV (ci := 6) (st := [.int x3]) C ky_X6_isSeen wd_913 ⟨Nat.le_of_ble_eq_true rfl, Nat.le_of_ble_eq_true rfl⟩ hO.1 rfl (mX6_isSeen hO w x4 g.2.1 r hr) rfl (Nat.le_of_ble_eq_true rfl) rfl dX6_frontPlace_58 hP hS hl) rfl (fun v9 hv9 => ?_)
          refine y_if_eq (tgt := 73) (n := 64) C dX6_frontPlace_61 (by decide) rfl (fun h10 => ?_) (fun h10 => ?_)
          · refine y_iconst (n := 74) C (0 : Int32) dX6_frontPlace_73 (by decide) rfl ?_
            refine y_iadd (n := 75) C dX6_frontPlace_74 rfl ?_
            refine y_istore_n (n := 76) (ls' := [(3, .int (x3 + 0)), (5, .int 0), (0, .ref (E.2.2.2.2.1 + o)), (1, .int x1), (2, .int x2), (4, .int x4)]) C dX6_frontPlace_75 (by decide) rfl rfl ?_
            refine y_iinc (n := 79) (v := x4 + 1) (ls' := [(4, .int (x4 + 1)), (3, .int (x3 + 0)), (5, .int 0), (0, .ref (E.2.2.2.2.1 + o)), (1, .int x1), (2, .int x2)]) C dX6_frontPlace_76 5 rfl rfl (by decide) rfl rfl ?_
            refine y_goto (tgt := 12) C dX6_frontPlace_79 (by decide) ?_
            refine y_ls [3, 4, 5, 1, 0] rfl ?_
            exact ih x1 x2 (x3 + 0) (x4 + 1)
          · refine y_iload (n := 66) C dX6_frontPlace_64 0 rfl rfl ?_
            refine y_if_eq_T (tgt := 73) C dX6_frontPlace_66 (by decide) (by decide) ?_
            refine y_iconst (n := 74) C (0 : Int32) dX6_frontPlace_73 (by decide) rfl ?_
            refine y_iadd (n := 75) C dX6_frontPlace_74 rfl ?_
            refine y_istore_n (n := 76) (ls' := [(3, .int (x3 + 0)), (5, .int 0), (0, .ref (E.2.2.2.2.1 + o)), (1, .int x1), (2, .int x2), (4, .int x4)]) C dX6_frontPlace_75 (by decide) rfl rfl ?_
            refine y_iinc (n := 79) (v := x4 + 1) (ls' := [(4, .int (x4 + 1)), (3, .int (x3 + 0)), (5, .int 0), (0, .ref (E.2.2.2.2.1 + o)), (1, .int x1), (2, .int x2)]) C dX6_frontPlace_76 5 rfl rfl (by decide) rfl rfl ?_
            refine y_goto (tgt := 12) C dX6_frontPlace_79 (by decide) ?_
            refine y_ls [3, 4, 5, 1, 0] rfl ?_
            exact ih x1 x2 (x3 + 0) (x4 + 1)
        · refine y_iload (n := 43) C dX6_frontPlace_41 4 rfl rfl ?_
          refine y_iload_n (n := 44) C dX6_frontPlace_43 1 rfl rfl ?_
          refine y_icmp_ge (tgt := 51) (n := 47) C dX6_frontPlace_44 (by decide) rfl (fun h11 => ?_) (fun h11 => ?_)
          · refine y_iconst (n := 52) C (0 : Int32) dX6_frontPlace_51 (by decide) rfl ?_
            refine y_istore (n := 54) (ls' := [(5, .int 0), (0, .ref (E.2.2.2.2.1 + o)), (1, .int x1), (2, .int x2), (3, .int x3), (4, .int x4)]) C dX6_frontPlace_52 (by decide) rfl rfl ?_
            refine y_iload_n (n := 55) C dX6_frontPlace_54 4 rfl rfl ?_
            refine y_aload_n (n := 56) C dX6_frontPlace_55 1 rfl rfl ?_
            refine y_iload (n := 58) C dX6_frontPlace_56 5 rfl rfl ?_
            refine y_cp (n := 61) C (fun r hr H locs la hP hS hl => y_runV (ci := 6) (st := [.int x3]) C ky_X6_isSeen wd_913 ⟨Nat.le_of_ble_eq_true rfl, Nat.le_of_ble_eq_true rfl⟩ hO.1 rfl (mX6_isSeen hO w x4 g.2.1 r hr) rfl (Nat.le_of_ble_eq_true rfl) rfl dX6_frontPlace_58 hP hS hl) rfl (fun v12 hv12 => ?_)
            refine y_if_eq (tgt := 73) (n := 64) C dX6_frontPlace_61 (by decide) rfl (fun h13 => ?_) (fun h13 => ?_)
            · refine y_iconst (n := 74) C (0 : Int32) dX6_frontPlace_73 (by decide) rfl ?_
              refine y_iadd (n := 75) C dX6_frontPlace_74 rfl ?_
              refine y_istore_n (n := 76) (ls' := [(3, .int (x3 + 0)), (5, .int 0), (0, .ref (E.2.2.2.2.1 + o)), (1, .int x1), (2, .int x2), (4, .int x4)]) C dX6_frontPlace_75 (by decide) rfl rfl ?_
              refine y_iinc (n := 79) (v := x4 + 1) (ls' := [(4, .int (x4 + 1)), (3, .int (x3 + 0)), (5, .int 0), (0, .ref (E.2.2.2.2.1 + o)), (1, .int x1), (2, .int x2)]) C dX6_frontPlace_76 5 rfl rfl (by decide) rfl rfl ?_
              refine y_goto (tgt := 12) C dX6_frontPlace_79 (by decide) ?_
              refine y_ls [3, 4, 5, 1, 0] rfl ?_
              exact ih x1 x2 (x3 + 0) (x4 + 1)
            · refine y_iload (n := 66) C dX6_frontPlace_64 0 rfl rfl ?_
              refine y_if_eq_T (tgt := 73) C dX6_frontPlace_66 (by decide) (by decide) ?_
              refine y_iconst (n := 74) C (0 : Int32) dX6_frontPlace_73 (by decide) rfl ?_
              refine y_iadd (n := 75) C dX6_frontPlace_74 rfl ?_
              refine y_istore_n (n := 76) (ls' := [(3, .int (x3 + 0)), (5, .int 0), (0, .ref (E.2.2.2.2.1 + o)), (1, .int x1), (2, .int x2), (4, .int x4)]) C dX6_frontPlace_75 (by decide) rfl rfl ?_
              refine y_iinc (n := 79) (v := x4 + 1) (ls' := [(4, .int (x4 + 1)), (3, .int (x3 + 0)), (5, .int 0), (0, .ref (E.2.2.2.2.1 + o)), (1, .int x1), (2, .int x2)]) C dX6_frontPlace_76 5 rfl rfl (by decide) rfl rfl ?_
              refine y_goto (tgt := 12) C dX6_frontPlace_79 (by decide) ?_
              refine y_ls [3, 4, 5, 1, 0] rfl ?_
              exact ih x1 x2 (x3 + 0) (x4 + 1)
          · refine y_iconst (n := 48) C (1 : Int32) dX6_frontPlace_47 (by decide) rfl ?_
            refine y_goto (tgt := 52) C dX6_frontPlace_48 (by decide) ?_
            refine y_istore (n := 54) (ls' := [(5, .int 1), (0, .ref (E.2.2.2.2.1 + o)), (1, .int x1), (2, .int x2), (3, .int x3), (4, .int x4)]) C dX6_frontPlace_52 (by decide) rfl rfl ?_
            refine y_iload_n (n := 55) C dX6_frontPlace_54 4 rfl rfl ?_
            refine y_aload_n (n := 56) C dX6_frontPlace_55 1 rfl rfl ?_
            refine y_iload (n := 58) C dX6_frontPlace_56 5 rfl rfl ?_
            refine y_cp (n := 61) C (fun r hr H locs la hP hS hl => y_runV (ci := 6) (st := [.int x3]) C ky_X6_isSeen wd_913 ⟨Nat.le_of_ble_eq_true rfl, Nat.le_of_ble_eq_true rfl⟩ hO.1 rfl (mX6_isSeen hO w x4 g.2.1 r hr) rfl (Nat.le_of_ble_eq_true rfl) rfl dX6_frontPlace_58 hP hS hl) rfl (fun v14 hv14 => ?_)
            refine y_if_eq (tgt := 73) (n := 64) C dX6_frontPlace_61 (by decide) rfl (fun h15 => ?_) (fun h15 => ?_)
            · refine y_iconst (n := 74) C (0 : Int32) dX6_frontPlace_73 (by decide) rfl ?_
              refine y_iadd (n := 75) C dX6_frontPlace_74 rfl ?_
              refine y_istore_n (n := 76) (ls' := [(3, .int (x3 + 0)), (5, .int 1), (0, .ref (E.2.2.2.2.1 + o)), (1, .int x1), (2, .int x2), (4, .int x4)]) C dX6_frontPlace_75 (by decide) rfl rfl ?_
              refine y_iinc (n := 79) (v := x4 + 1) (ls' := [(4, .int (x4 + 1)), (3, .int (x3 + 0)), (5, .int 1), (0, .ref (E.2.2.2.2.1 + o)), (1, .int x1), (2, .int x2)]) C dX6_frontPlace_76 5 rfl rfl (by decide) rfl rfl ?_
              refine y_goto (tgt := 12) C dX6_frontPlace_79 (by decide) ?_
              refine y_ls [3, 4, 5, 1, 0] rfl ?_
              exact ih x1 x2 (x3 + 0) (x4 + 1)
            · refine y_iload (n := 66) C dX6_frontPlace_64 0 rfl rfl ?_
              refine y_if_eq_F (tgt := 73) (n := 69) C dX6_frontPlace_66 (by decide) rfl (by decide) ?_
              refine y_iconst (n := 70) C (1 : Int32) dX6_frontPlace_69 (by decide) rfl ?_
              refine y_goto (tgt := 74) C dX6_frontPlace_70 (by decide) ?_
              refine y_iadd (n := 75) C dX6_frontPlace_74 rfl ?_
              refine y_istore_n (n := 76) (ls' := [(3, .int (x3 + 1)), (5, .int 1), (0, .ref (E.2.2.2.2.1 + o)), (1, .int x1), (2, .int x2), (4, .int x4)]) C dX6_frontPlace_75 (by decide) rfl rfl ?_
              refine y_iinc (n := 79) (v := x4 + 1) (ls' := [(4, .int (x4 + 1)), (3, .int (x3 + 1)), (5, .int 1), (0, .ref (E.2.2.2.2.1 + o)), (1, .int x1), (2, .int x2)]) C dX6_frontPlace_76 5 rfl rfl (by decide) rfl rfl ?_
              refine y_goto (tgt := 12) C dX6_frontPlace_79 (by decide) ?_
              refine y_ls [3, 4, 5, 1, 0] rfl ?_
              exact ih x1 x2 (x3 + 1) (x4 + 1)
def fX6_frontPlace (w : Wd) (o : Nat) (a1 : Int32) : Option (Int32) :=
  (ldI 60 w (o + 5) a1).bind fun v1 =>
  lX6_frontPlace_12 o 4096 w a1 v1 0 0
set_option maxRecDepth 4000 in
theorem eX6_frontPlace {g : Gx} {E : Ex} (C : CC g E cX6_frontPlace 6 RX6 1 21) (hR : RT g (some .int)) {o : Nat} (hO : shM E.2.2.2.2.2.1 o) (w : Wd) (a1 : Int32) : YO g E 6 (QP g E w) (fX6_frontPlace w o a1) w 0 [(0, .ref (E.2.2.2.2.1 + o)), (1, .int a1)] [] := by
  unfold fX6_frontPlace
  refine y_aload_n (n := 1) C dX6_frontPlace_0 0 rfl rfl ?_
  refine y_get (ci := 6) (f := 4) (n := 4) C in_X6 hO.1 rfl (by decide) wd_735 rfl rfl dX6_frontPlace_1 rfl ?_
  refine y_iload_n (n := 5) C dX6_frontPlace_4 1 rfl rfl ?_
  refine y_iald (n := 6) C hO.2.2.2.2.2.1 dX6_frontPlace_5 rfl (fun v1 hv1 => ?_)
  refine y_istore_n (n := 7) (ls' := [(2, .int v1), (0, .ref (E.2.2.2.2.1 + o)), (1, .int a1)]) C dX6_frontPlace_6 (by decide) rfl rfl ?_
  refine y_iconst (n := 8) C (0 : Int32) dX6_frontPlace_7 (by decide) rfl ?_
  refine y_istore_n (n := 9) (ls' := [(3, .int 0), (2, .int v1), (0, .ref (E.2.2.2.2.1 + o)), (1, .int a1)]) C dX6_frontPlace_8 (by decide) rfl rfl ?_
  refine y_iconst (n := 10) C (0 : Int32) dX6_frontPlace_9 (by decide) rfl ?_
  refine y_istore (n := 12) (ls' := [(4, .int 0), (3, .int 0), (2, .int v1), (0, .ref (E.2.2.2.2.1 + o)), (1, .int a1)]) C dX6_frontPlace_10 (by decide) rfl rfl ?_
  refine y_ls [3, 4, 2, 1, 0] rfl ?_
  exact clX6_frontPlace_12 C hR hO w 4096 a1 v1 0 0
theorem mX6_frontPlace {E : Ex} {o : Nat} (hO : shM E.2.2.2.2.2.1 o) (w : Wd) (a1 : Int32) (l : Launch) : MP l yX6_frontPlace cX6_frontPlace 6 (some .int) { frames := 1, cells := 0, slots := 0, locals := 21 } E [.ref (E.2.2.2.2.1 + o), .int a1] w (fX6_frontPlace w o a1) :=
  y_met (Qc := fun r => yQi E (r, w)) (by decide +kernel) (Nat.le_of_ble_eq_true rfl) (fun g C hR => eX6_frontPlace C hR hO w a1) l
def lX6_frontAt_4 (o : Nat) : Nat → Wd → Int32 → Int32 → Int32 → Option (Int32)
  | 0, _, _, _, _ => none
  | n + 1, w, x1, x2, x3 =>
    if 60 ≤ x3 then
      some x2
    else
      (fX6_isSeen w o x3).bind fun v2 =>
      if v2 = 0 then
        lX6_frontAt_4 o n w x1 x2 (x3 + 1)
      else
        (fX6_frontPlace w o x3).bind fun v4 =>
        if v4 = x1 then
          lX6_frontAt_4 o n w x1 x3 (x3 + 1)
        else
          lX6_frontAt_4 o n w x1 x2 (x3 + 1)
set_option maxRecDepth 4000 in
theorem clX6_frontAt_4 {g : Gx} {E : Ex} (C : CC g E cX6_frontAt 4 RX6 2 46) (hR : RT g (some .int)) {o : Nat} (hO : shM E.2.2.2.2.2.1 o) (w : Wd) : ∀ (n : Nat) (x1 : Int32) (x2 : Int32) (x3 : Int32), YO g E 4 (QP g E w) (lX6_frontAt_4 o n w x1 x2 x3) w 4 [(0, .ref (E.2.2.2.2.1 + o)), (1, .int x1), (2, .int x2), (3, .int x3)] [] := by
  intro n
  induction n with
  | zero => intro x1 x2 x3; exact y_no
  | succ n ih =>
    intro x1 x2 x3
    rw [lX6_frontAt_4]
    refine y_iload_n (n := 5) C dX6_frontAt_4 3 rfl rfl ?_
    refine y_bipush (n := 7) C (60 : Int32) dX6_frontAt_5 (by decide) rfl ?_
    refine y_icmp_ge (tgt := 39) (n := 10) C dX6_frontAt_7 (by decide) rfl (fun h1 => ?_) (fun h1 => ?_)
    · refine y_iload_n (n := 40) C dX6_frontAt_39 2 rfl rfl ?_
      exact y_rp C hR dX6_frontAt_40
    · refine y_aload_n (n := 11) C dX6_frontAt_10 0 rfl rfl ?_
      refine y_iload_n (n := 12) C dX6_frontAt_11 3 rfl rfl ?_
      refine y_cp (n := 15) C (fun r hr H locs la hP hS hl => y_runV (ci := 6) (st := []) C ky_X6_isSeen wd_913 ⟨Nat.le_of_ble_eq_true rfl, Nat.le_of_ble_eq_true rfl⟩ hO.1 rfl (mX6_isSeen hO w x3 g.2.1 r hr) rfl (Nat.le_of_ble_eq_true rfl) rfl dX6_frontAt_12 hP hS hl) rfl (fun v2 hv2 => ?_)
      refine y_if_eq (tgt := 31) (n := 18) C dX6_frontAt_15 (by decide) rfl (fun h3 => ?_) (fun h3 => ?_)
      · refine y_iload_n (n := 32) C dX6_frontAt_31 2 rfl rfl ?_
        refine y_istore_n (n := 33) (ls' := [(2, .int x2), (0, .ref (E.2.2.2.2.1 + o)), (1, .int x1), (3, .int x3)]) C dX6_frontAt_32 (by decide) rfl rfl ?_
        refine y_iinc (n := 36) (v := x3 + 1) (ls' := [(3, .int (x3 + 1)), (2, .int x2), (0, .ref (E.2.2.2.2.1 + o)), (1, .int x1)]) C dX6_frontAt_33 3 rfl rfl (by decide) rfl rfl ?_
        refine y_goto (tgt := 4) C dX6_frontAt_36 (by decide) ?_
        refine y_ls [2, 3, 1, 0] rfl ?_
        exact ih x1 x2 (x3 + 1)
      · refine y_aload_n (n := 19) C dX6_frontAt_18 0 rfl rfl ?_
        refine y_iload_n (n := 20) C dX6_frontAt_19 3 rfl rfl ?_
        refine y_cp (n := 23) C (fun r hr H locs la hP hS hl => y_runV (ci := 6) (st := []) C ky_X6_frontPlace wd_933 ⟨Nat.le_of_ble_eq_true rfl, Nat.le_of_ble_eq_true rfl⟩ hO.1 rfl (mX6_frontPlace hO w x3 g.2.1 r hr) rfl (Nat.le_of_ble_eq_true rfl) rfl dX6_frontAt_20 hP hS hl) rfl (fun v4 hv4 => ?_)
        refine y_iload_n (n := 24) C dX6_frontAt_23 1 rfl rfl ?_
        refine y_icmp_ne (tgt := 31) (n := 27) C dX6_frontAt_24 (by decide) rfl (fun h5 => ?_) (fun h5 => ?_)
        · refine y_iload_n (n := 32) C dX6_frontAt_31 2 rfl rfl ?_
          refine y_istore_n (n := 33) (ls' := [(2, .int x2), (0, .ref (E.2.2.2.2.1 + o)), (1, .int x1), (3, .int x3)]) C dX6_frontAt_32 (by decide) rfl rfl ?_
          refine y_iinc (n := 36) (v := x3 + 1) (ls' := [(3, .int (x3 + 1)), (2, .int x2), (0, .ref (E.2.2.2.2.1 + o)), (1, .int x1)]) C dX6_frontAt_33 3 rfl rfl (by decide) rfl rfl ?_
          refine y_goto (tgt := 4) C dX6_frontAt_36 (by decide) ?_
          refine y_ls [2, 3, 1, 0] rfl ?_
          exact ih x1 x2 (x3 + 1)
        · refine y_iload_n (n := 28) C dX6_frontAt_27 3 rfl rfl ?_
          refine y_goto (tgt := 32) C dX6_frontAt_28 (by decide) ?_
          refine y_istore_n (n := 33) (ls' := [(2, .int x3), (0, .ref (E.2.2.2.2.1 + o)), (1, .int x1), (3, .int x3)]) C dX6_frontAt_32 (by decide) rfl rfl ?_
          refine y_iinc (n := 36) (v := x3 + 1) (ls' := [(3, .int (x3 + 1)), (2, .int x3), (0, .ref (E.2.2.2.2.1 + o)), (1, .int x1)]) C dX6_frontAt_33 3 rfl rfl (by decide) rfl rfl ?_
          refine y_goto (tgt := 4) C dX6_frontAt_36 (by decide) ?_
          refine y_ls [2, 3, 1, 0] rfl ?_
          exact ih x1 x3 (x3 + 1)
def fX6_frontAt (w : Wd) (o : Nat) (a1 : Int32) : Option (Int32) :=
  lX6_frontAt_4 o 4096 w a1 (-1) 0
set_option maxRecDepth 4000 in
theorem eX6_frontAt {g : Gx} {E : Ex} (C : CC g E cX6_frontAt 4 RX6 2 46) (hR : RT g (some .int)) {o : Nat} (hO : shM E.2.2.2.2.2.1 o) (w : Wd) (a1 : Int32) : YO g E 4 (QP g E w) (fX6_frontAt w o a1) w 0 [(0, .ref (E.2.2.2.2.1 + o)), (1, .int a1)] [] := by
  unfold fX6_frontAt
  refine y_iconst (n := 1) C ((-1) : Int32) dX6_frontAt_0 (by decide) rfl ?_
  refine y_istore_n (n := 2) (ls' := [(2, .int (-1)), (0, .ref (E.2.2.2.2.1 + o)), (1, .int a1)]) C dX6_frontAt_1 (by decide) rfl rfl ?_
  refine y_iconst (n := 3) C (0 : Int32) dX6_frontAt_2 (by decide) rfl ?_
  refine y_istore_n (n := 4) (ls' := [(3, .int 0), (2, .int (-1)), (0, .ref (E.2.2.2.2.1 + o)), (1, .int a1)]) C dX6_frontAt_3 (by decide) rfl rfl ?_
  refine y_ls [2, 3, 1, 0] rfl ?_
  exact clX6_frontAt_4 C hR hO w 4096 a1 (-1) 0
theorem mX6_frontAt {E : Ex} {o : Nat} (hO : shM E.2.2.2.2.2.1 o) (w : Wd) (a1 : Int32) (l : Launch) : MP l yX6_frontAt cX6_frontAt 4 (some .int) { frames := 2, cells := 0, slots := 0, locals := 46 } E [.ref (E.2.2.2.2.1 + o), .int a1] w (fX6_frontAt w o a1) :=
  y_met (Qc := fun r => yQi E (r, w)) (by decide +kernel) (Nat.le_of_ble_eq_true rfl) (fun g C hR => eX6_frontAt C hR hO w a1) l
def fX6_isKnown (w : Wd) (o : Nat) (a1 : Int32) (a2 : Int32) : Option (Int32) :=
  (fX6_left w o a1).bind fun v1 =>
  if v1 = 0 then
    rtZ 1
  else
    (ldI 706 w (o + 1) (646 + a2)).bind fun v3 =>
    if ((v3 >>> (a1 &&& 31)) &&& 1) = 1 then
      rtZ 1
    else
      rtZ 0
set_option maxRecDepth 4000 in
theorem eX6_isKnown {g : Gx} {E : Ex} (C : CC g E cX6_isKnown 3 RX6 1 21) (hR : RT g (some .boolean)) {o : Nat} (hO : shM E.2.2.2.2.2.1 o) (w : Wd) (a1 : Int32) (a2 : Int32) : YO g E 3 (QP g E w) (fX6_isKnown w o a1 a2) w 0 [(0, .ref (E.2.2.2.2.1 + o)), (1, .int a1), (2, .int a2)] [] := by
  unfold fX6_isKnown
  refine y_aload_n (n := 1) C dX6_isKnown_0 0 rfl rfl ?_
  refine y_iload_n (n := 2) C dX6_isKnown_1 1 rfl rfl ?_
  refine y_cp (n := 5) C (fun r hr H locs la hP hS hl => y_runV (ci := 6) (st := []) C ky_X6_left wd_905 ⟨Nat.le_of_ble_eq_true rfl, Nat.le_of_ble_eq_true rfl⟩ hO.1 rfl (mX6_left hO w a1 g.2.1 r hr) rfl (Nat.le_of_ble_eq_true rfl) rfl dX6_isKnown_2 hP hS hl) rfl (fun v1 hv1 => ?_)
  refine y_if_eq (tgt := 26) (n := 8) C dX6_isKnown_5 (by decide) rfl (fun h2 => ?_) (fun h2 => ?_)
  · refine y_iconst (n := 27) C (1 : Int32) dX6_isKnown_26 (by decide) rfl ?_
    refine y_goto (tgt := 31) C dX6_isKnown_27 (by decide) ?_
    exact y_rz C hR dX6_isKnown_31
  · refine y_aload_n (n := 9) C dX6_isKnown_8 0 rfl rfl ?_
    refine y_get (ci := 6) (f := 0) (n := 12) C in_X6 hO.1 rfl (by decide) wd_731 rfl rfl dX6_isKnown_9 rfl ?_
    refine y_sipush (n := 15) C (646 : Int32) dX6_isKnown_12 (by decide) rfl ?_
    refine y_iload_n (n := 16) C dX6_isKnown_15 2 rfl rfl ?_
    refine y_iadd (n := 17) C dX6_isKnown_16 rfl ?_
    refine y_iald (n := 18) C hO.2.1 dX6_isKnown_17 rfl (fun v3 hv3 => ?_)
    refine y_iload_n (n := 19) C dX6_isKnown_18 1 rfl rfl ?_
    refine y_ishr (n := 20) C dX6_isKnown_19 rfl ?_
    refine y_iconst (n := 21) C (1 : Int32) dX6_isKnown_20 (by decide) rfl ?_
    refine y_iand (n := 22) C dX6_isKnown_21 rfl ?_
    refine y_iconst (n := 23) C (1 : Int32) dX6_isKnown_22 (by decide) rfl ?_
    refine y_icmp_ne (tgt := 30) (n := 26) C dX6_isKnown_23 (by decide) rfl (fun h4 => ?_) (fun h4 => ?_)
    · refine y_iconst (n := 31) C (0 : Int32) dX6_isKnown_30 (by decide) rfl ?_
      exact y_rz C hR dX6_isKnown_31
    · refine y_iconst (n := 27) C (1 : Int32) dX6_isKnown_26 (by decide) rfl ?_
      refine y_goto (tgt := 31) C dX6_isKnown_27 (by decide) ?_
      exact y_rz C hR dX6_isKnown_31
theorem mX6_isKnown {E : Ex} {o : Nat} (hO : shM E.2.2.2.2.2.1 o) (w : Wd) (a1 : Int32) (a2 : Int32) (l : Launch) : MP l yX6_isKnown cX6_isKnown 3 (some .boolean) { frames := 1, cells := 0, slots := 0, locals := 21 } E [.ref (E.2.2.2.2.1 + o), .int a1, .int a2] w (fX6_isKnown w o a1 a2) :=
  y_met (Qc := fun r => yQi E (r, w)) (by decide +kernel) (Nat.le_of_ble_eq_true rfl) (fun g C hR => eX6_isKnown C hR hO w a1 a2) l
def lX6_high_9 (o : Nat) : Nat → Wd → Int32 → Int32 → Int32 → Option (Int32)
  | 0, _, _, _, _ => none
  | n + 1, w, x1, x2, x3 =>
    if 6 ≤ x3 then
      some x2
    else
      (fX6_isAsked w o x3).bind fun v3 =>
      if v3 = 0 then
        lX6_high_9 o n w x1 (x2 + 0) (x3 + 1)
      else
        (fX6_isKnown w o x3 x1).bind fun v5 =>
        if v5 = 0 then
          (ldI 706 w (o + 1) (486 + x3)).bind fun v7 =>
          (fX6_toldBound w o x3).bind fun v8 =>
          lX6_high_9 o n w x1 (x2 + (v7 * v8)) (x3 + 1)
        else
          lX6_high_9 o n w x1 (x2 + 0) (x3 + 1)
set_option maxRecDepth 4000 in
theorem clX6_high_9 {g : Gx} {E : Ex} (C : CC g E cX6_high 4 RX6 3 65) (hR : RT g (some .int)) {o : Nat} (hO : shM E.2.2.2.2.2.1 o) (w : Wd) : ∀ (n : Nat) (x1 : Int32) (x2 : Int32) (x3 : Int32), YO g E 4 (QP g E w) (lX6_high_9 o n w x1 x2 x3) w 9 [(0, .ref (E.2.2.2.2.1 + o)), (1, .int x1), (2, .int x2), (3, .int x3)] [] := by
  intro n
  induction n with
  | zero => intro x1 x2 x3; exact y_no
  | succ n ih =>
    intro x1 x2 x3
    rw [lX6_high_9]
    refine y_iload_n (n := 10) C dX6_high_9 3 rfl rfl ?_
    refine y_bipush (n := 12) C (6 : Int32) dX6_high_10 (by decide) rfl ?_
    refine y_icmp_ge (tgt := 61) (n := 15) C dX6_high_12 (by decide) rfl (fun h2 => ?_) (fun h2 => ?_)
    · refine y_iload_n (n := 62) C dX6_high_61 2 rfl rfl ?_
      exact y_rp C hR dX6_high_62
    · refine y_iload_n (n := 16) C dX6_high_15 2 rfl rfl ?_
      refine y_aload_n (n := 17) C dX6_high_16 0 rfl rfl ?_
      refine y_iload_n (n := 18) C dX6_high_17 3 rfl rfl ?_
      refine y_cp (n := 21) C (fun r hr H locs la hP hS hl => y_runV (ci := 6) (st := [.int x2]) C ky_X6_isAsked wd_889 ⟨Nat.le_of_ble_eq_true rfl, Nat.le_of_ble_eq_true rfl⟩ hO.1 rfl (mX6_isAsked hO w x3 g.2.1 r hr) rfl (Nat.le_of_ble_eq_true rfl) rfl dX6_high_18 hP hS hl) rfl (fun v3 hv3 => ?_)
      refine y_if_eq (tgt := 52) (n := 24) C dX6_high_21 (by decide) rfl (fun h4 => ?_) (fun h4 => ?_)
      · refine y_iconst (n := 53) C (0 : Int32) dX6_high_52 (by decide) rfl ?_
        refine y_iadd (n := 54) C dX6_high_53 rfl ?_
        refine y_istore_n (n := 55) (ls' := [(2, .int (x2 + 0)), (0, .ref (E.2.2.2.2.1 + o)), (1, .int x1), (3, .int x3)]) C dX6_high_54 (by decide) rfl rfl ?_
        refine y_iinc (n := 58) (v := x3 + 1) (ls' := [(3, .int (x3 + 1)), (2, .int (x2 + 0)), (0, .ref (E.2.2.2.2.1 + o)), (1, .int x1)]) C dX6_high_55 3 rfl rfl (by decide) rfl rfl ?_
        refine y_goto (tgt := 9) C dX6_high_58 (by decide) ?_
        refine y_ls [2, 3, 1, 0] rfl ?_
        exact ih x1 (x2 + 0) (x3 + 1)
      · refine y_aload_n (n := 25) C dX6_high_24 0 rfl rfl ?_
        refine y_iload_n (n := 26) C dX6_high_25 3 rfl rfl ?_
        refine y_iload_n (n := 27) C dX6_high_26 1 rfl rfl ?_
        refine y_cp (n := 30) C (fun r hr H locs la hP hS hl => y_runV (ci := 6) (st := [.int x2]) C ky_X6_isKnown wd_925 ⟨Nat.le_of_ble_eq_true rfl, Nat.le_of_ble_eq_true rfl⟩ hO.1 rfl (mX6_isKnown hO w x3 x1 g.2.1 r hr) rfl (Nat.le_of_ble_eq_true rfl) rfl dX6_high_27 hP hS hl) rfl (fun v5 hv5 => ?_)
        refine y_if_ne (tgt := 52) (n := 33) C dX6_high_30 (by decide) rfl (fun h6 => ?_) (fun h6 => ?_)
        · refine y_iconst (n := 53) C (0 : Int32) dX6_high_52 (by decide) rfl ?_
          refine y_iadd (n := 54) C dX6_high_53 rfl ?_
          refine y_istore_n (n := 55) (ls' := [(2, .int (x2 + 0)), (0, .ref (E.2.2.2.2.1 + o)), (1, .int x1), (3, .int x3)]) C dX6_high_54 (by decide) rfl rfl ?_
          refine y_iinc (n := 58) (v := x3 + 1) (ls' := [(3, .int (x3 + 1)), (2, .int (x2 + 0)), (0, .ref (E.2.2.2.2.1 + o)), (1, .int x1)]) C dX6_high_55 3 rfl rfl (by decide) rfl rfl ?_
          refine y_goto (tgt := 9) C dX6_high_58 (by decide) ?_
          refine y_ls [2, 3, 1, 0] rfl ?_
          exact ih x1 (x2 + 0) (x3 + 1)
        · refine y_aload_n (n := 34) C dX6_high_33 0 rfl rfl ?_
          refine y_get (ci := 6) (f := 0) (n := 37) C in_X6 hO.1 rfl (by decide) wd_731 rfl rfl dX6_high_34 rfl ?_
          refine y_sipush (n := 40) C (486 : Int32) dX6_high_37 (by decide) rfl ?_
          refine y_iload_n (n := 41) C dX6_high_40 3 rfl rfl ?_
          refine y_iadd (n := 42) C dX6_high_41 rfl ?_
          refine y_iald (n := 43) C hO.2.1 dX6_high_42 rfl (fun v7 hv7 => ?_)
          refine y_aload_n (n := 44) C dX6_high_43 0 rfl rfl ?_
          refine y_iload_n (n := 45) C dX6_high_44 3 rfl rfl ?_
          refine y_cp (n := 48) C (fun r hr H locs la hP hS hl => y_runV (ci := 6) (st := [.int v7, .int x2]) C ky_X6_toldBound wd_941 ⟨Nat.le_of_ble_eq_true rfl, Nat.le_of_ble_eq_true rfl⟩ hO.1 rfl (mX6_toldBound hO w x3 g.2.1 r hr) rfl (Nat.le_of_ble_eq_true rfl) rfl dX6_high_45 hP hS hl) rfl (fun v8 hv8 => ?_)
          refine y_imul (n := 49) C dX6_high_48 rfl ?_
          refine y_goto (tgt := 53) C dX6_high_49 (by decide) ?_
          refine y_iadd (n := 54) C dX6_high_53 rfl ?_
          refine y_istore_n (n := 55) (ls' := [(2, .int (x2 + (v7 * v8))), (0, .ref (E.2.2.2.2.1 + o)), (1, .int x1), (3, .int x3)]) C dX6_high_54 (by decide) rfl rfl ?_
          refine y_iinc (n := 58) (v := x3 + 1) (ls' := [(3, .int (x3 + 1)), (2, .int (x2 + (v7 * v8))), (0, .ref (E.2.2.2.2.1 + o)), (1, .int x1)]) C dX6_high_55 3 rfl rfl (by decide) rfl rfl ?_
          refine y_goto (tgt := 9) C dX6_high_58 (by decide) ?_
          refine y_ls [2, 3, 1, 0] rfl ?_
          exact ih x1 (x2 + (v7 * v8)) (x3 + 1)
def fX6_high (w : Wd) (o : Nat) (a1 : Int32) : Option (Int32) :=
  (ldI 60 w (o + 5) a1).bind fun v1 =>
  lX6_high_9 o 4096 w a1 v1 0
set_option maxRecDepth 4000 in
theorem eX6_high {g : Gx} {E : Ex} (C : CC g E cX6_high 4 RX6 3 65) (hR : RT g (some .int)) {o : Nat} (hO : shM E.2.2.2.2.2.1 o) (w : Wd) (a1 : Int32) : YO g E 4 (QP g E w) (fX6_high w o a1) w 0 [(0, .ref (E.2.2.2.2.1 + o)), (1, .int a1)] [] := by
  unfold fX6_high
  refine y_aload_n (n := 1) C dX6_high_0 0 rfl rfl ?_
  refine y_get (ci := 6) (f := 4) (n := 4) C in_X6 hO.1 rfl (by decide) wd_735 rfl rfl dX6_high_1 rfl ?_
  refine y_iload_n (n := 5) C dX6_high_4 1 rfl rfl ?_
  refine y_iald (n := 6) C hO.2.2.2.2.2.1 dX6_high_5 rfl (fun v1 hv1 => ?_)
  refine y_istore_n (n := 7) (ls' := [(2, .int v1), (0, .ref (E.2.2.2.2.1 + o)), (1, .int a1)]) C dX6_high_6 (by decide) rfl rfl ?_
  refine y_iconst (n := 8) C (0 : Int32) dX6_high_7 (by decide) rfl ?_
  refine y_istore_n (n := 9) (ls' := [(3, .int 0), (2, .int v1), (0, .ref (E.2.2.2.2.1 + o)), (1, .int a1)]) C dX6_high_8 (by decide) rfl rfl ?_
  refine y_ls [2, 3, 1, 0] rfl ?_
  exact clX6_high_9 C hR hO w 4096 a1 v1 0
theorem mX6_high {E : Ex} {o : Nat} (hO : shM E.2.2.2.2.2.1 o) (w : Wd) (a1 : Int32) (l : Launch) : MP l yX6_high cX6_high 4 (some .int) { frames := 3, cells := 0, slots := 0, locals := 65 } E [.ref (E.2.2.2.2.1 + o), .int a1] w (fX6_high w o a1) :=
  y_met (Qc := fun r => yQi E (r, w)) (by decide +kernel) (Nat.le_of_ble_eq_true rfl) (fun g C hR => eX6_high C hR hO w a1) l
def fX6_scoreOf (w : Wd) (o : Nat) (a1 : Int32) (a2 : Int32) : Option (Int32) :=
  (fX6_placeOf w o a1 a2).bind fun v1 =>
  if 0 ≤ v1 then
    (ldI 706 w (o + 1) ((240 + (40 * a1)) + v1)).bind fun v3 =>
    some v3
  else
    some 0
set_option maxRecDepth 4000 in
theorem eX6_scoreOf {g : Gx} {E : Ex} (C : CC g E cX6_scoreOf 4 RX6 1 24) (hR : RT g (some .int)) {o : Nat} (hO : shM E.2.2.2.2.2.1 o) (w : Wd) (a1 : Int32) (a2 : Int32) : YO g E 4 (QP g E w) (fX6_scoreOf w o a1 a2) w 0 [(0, .ref (E.2.2.2.2.1 + o)), (1, .int a1), (2, .int a2)] [] := by
  unfold fX6_scoreOf
  refine y_aload_n (n := 1) C dX6_scoreOf_0 0 rfl rfl ?_
  refine y_iload_n (n := 2) C dX6_scoreOf_1 1 rfl rfl ?_
  refine y_iload_n (n := 3) C dX6_scoreOf_2 2 rfl rfl ?_
  refine y_cp (n := 6) C (fun r hr H locs la hP hS hl => y_runV (ci := 6) (st := []) C ky_X6_placeOf wd_798 ⟨Nat.le_of_ble_eq_true rfl, Nat.le_of_ble_eq_true rfl⟩ hO.1 rfl (mX6_placeOf hO w a1 a2 g.2.1 r hr) rfl (Nat.le_of_ble_eq_true rfl) rfl dX6_scoreOf_3 hP hS hl) rfl (fun v1 hv1 => ?_)
  refine y_istore_n (n := 7) (ls' := [(3, .int v1), (0, .ref (E.2.2.2.2.1 + o)), (1, .int a1), (2, .int a2)]) C dX6_scoreOf_6 (by decide) rfl rfl ?_
  refine y_iload_n (n := 8) C dX6_scoreOf_7 0 rfl rfl ?_
  refine y_if_ge (tgt := 15) (n := 11) C dX6_scoreOf_8 (by decide) rfl (fun h2 => ?_) (fun h2 => ?_)
  · refine y_aload_n (n := 16) C dX6_scoreOf_15 1 rfl rfl ?_
    refine y_get (ci := 6) (f := 0) (n := 19) C in_X6 hO.1 rfl (by decide) wd_731 rfl rfl dX6_scoreOf_16 rfl ?_
    refine y_sipush (n := 22) C (240 : Int32) dX6_scoreOf_19 (by decide) rfl ?_
    refine y_bipush (n := 24) C (40 : Int32) dX6_scoreOf_22 (by decide) rfl ?_
    refine y_iload_n (n := 25) C dX6_scoreOf_24 2 rfl rfl ?_
    refine y_imul (n := 26) C dX6_scoreOf_25 rfl ?_
    refine y_iadd (n := 27) C dX6_scoreOf_26 rfl ?_
    refine y_iload_n (n := 28) C dX6_scoreOf_27 0 rfl rfl ?_
    refine y_iadd (n := 29) C dX6_scoreOf_28 rfl ?_
    refine y_iald (n := 30) C hO.2.1 dX6_scoreOf_29 rfl (fun v3 hv3 => ?_)
    exact y_rp C hR dX6_scoreOf_30
  · refine y_iconst (n := 12) C (0 : Int32) dX6_scoreOf_11 (by decide) rfl ?_
    refine y_goto (tgt := 30) C dX6_scoreOf_12 (by decide) ?_
    exact y_rp C hR dX6_scoreOf_30
theorem mX6_scoreOf {E : Ex} {o : Nat} (hO : shM E.2.2.2.2.2.1 o) (w : Wd) (a1 : Int32) (a2 : Int32) (l : Launch) : MP l yX6_scoreOf cX6_scoreOf 4 (some .int) { frames := 1, cells := 0, slots := 0, locals := 24 } E [.ref (E.2.2.2.2.1 + o), .int a1, .int a2] w (fX6_scoreOf w o a1 a2) :=
  y_met (Qc := fun r => yQi E (r, w)) (by decide +kernel) (Nat.le_of_ble_eq_true rfl) (fun g C hR => eX6_scoreOf C hR hO w a1 a2) l
