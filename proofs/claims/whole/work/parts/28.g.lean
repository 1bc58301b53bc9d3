/-! X6_toldNotWanted X6_tried X6_cheapest X6_clearText X6_clerk X6_entries X6_wantedMany X6_count X6_delete X6_document X6_drop X6_want X6_weight X6_does -/
def lX6_toldNotWanted_8 (o : Nat) : Nat → Wd → Int32 → Int32 → Option (Int32 × Wd)
  | 0, _, _, _ => none
  | n + 1, w, x1, x2 =>
    if 60 ≤ x2 then
      some (x1, w)
    else
      (fX6_isSeen w o x2).bind fun v3 =>
      if v3 = 0 then
        lX6_toldNotWanted_8 o n w (x1 + 0) (x2 + 1)
      else
        (fX6_frontPlace w o x2).bind fun v5 =>
        (ldI 706 w (o + 1) 558).bind fun v6 =>
        if v6 ≤ v5 then
          lX6_toldNotWanted_8 o n w (x1 + 0) (x2 + 1)
        else
          (fX6_wantedPlace w o x2).bind fun v8 =>
          if 0 ≤ v8 then
            lX6_toldNotWanted_8 o n w (x1 + 0) (x2 + 1)
          else
            lX6_toldNotWanted_8 o n w (x1 + 1) (x2 + 1)
set_option maxRecDepth 4000 in
theorem clX6_toldNotWanted_8 {g : Gx} {E : Ex} (C : CC g E cX6_toldNotWanted 4 RX6 5 116) (hR : RT g (some .int)) {o : Nat} (hO : shM E.2.2.2.2.2.1 o) : ∀ (n : Nat) (w : Wd) (x1 : Int32) (x2 : Int32), YO g E 4 (QI g E) (lX6_toldNotWanted_8 o n w x1 x2) w 8 [(0, .ref (E.2.2.2.2.1 + o)), (1, .int x1), (2, .int x2)] [] := by
  intro n
  induction n with
  | zero => intro w x1 x2; exact y_no
  | succ n ih =>
    intro w x1 x2
    rw [lX6_toldNotWanted_8]
    refine y_iload_n (n := 9) C dX6_toldNotWanted_8 2 rfl rfl ?_
    refine y_bipush (n := 11) C (60 : Int32) dX6_toldNotWanted_9 (by decide) rfl ?_
    refine y_icmp_ge (tgt := 70) (n := 14) C dX6_toldNotWanted_11 (by decide) rfl (fun h2 => ?_) (fun h2 => ?_)
    · refine y_iload_n (n := 71) C dX6_toldNotWanted_70 1 rfl rfl ?_
      exact y_ri C hR dX6_toldNotWanted_71
    · refine y_aload_n (n := 15) C dX6_toldNotWanted_14 0 rfl rfl ?_
      refine y_iload_n (n := 16) C dX6_toldNotWanted_15 2 rfl rfl ?_
      refine y_cp (n := 19) C (fun r hr H locs la hP hS hl => y_runV (ci := 6) (st := []) C ky_X6_isSeen wd_913 ⟨Nat.le_of_ble_eq_true rfl, Nat.le_of_ble_eq_true rfl⟩ hO.1 rfl (mX6_isSeen hO w x2 g.2.1 r hr) rfl (Nat.le_of_ble_eq_true rfl) rfl dX6_toldNotWanted_16 hP hS hl) rfl (fun v3 hv3 => ?_)
      refine y_if_eq (tgt := 42) (n := 22) C dX6_toldNotWanted_19 (by decide) rfl (fun h4 => ?_) (fun h4 => ?_)
      · refine y_iconst (n := 43) C (0 : Int32) dX6_toldNotWanted_42 (by decide) rfl ?_
        refine y_istore_n (n := 44) (ls' := [(3, .int 0), (0, .ref (E.2.2.2.2.1 + o)), (1, .int x1), (2, .int x2)]) C dX6_toldNotWanted_43 (by decide) rfl rfl ?_
        refine y_iload_n (n := 45) C dX6_toldNotWanted_44 2 rfl rfl ?_
        refine y_iload_n (n := 46) C dX6_toldNotWanted_45 0 rfl rfl ?_
        refine y_if_eq_T (tgt := 61) C dX6_toldNotWanted_46 (by decide) (by decide) ?_
        refine y_iconst (n := 62) C (0 : Int32) dX6_toldNotWanted_61 (by decide) rfl ?_
        refine y_iadd (n := 63) C dX6_toldNotWanted_62 rfl ?_
        refine y_istore_n (n := 64) (ls' := [(1, .int (x1 + 0)), (3, .int 0), (0, .ref (E.2.2.2.2.1 + o)), (2, .int x2)]) C dX6_toldNotWanted_63 (by decide) rfl rfl ?_
        refine y_iinc (n := 67) (v := x2 + 1) (ls' := [(2, .int (x2 + 1)), (1, .int (x1 + 0)), (3, .int 0), (0, .ref (E.2.2.2.2.1 + o))]) C dX6_toldNotWanted_64 3 rfl rfl (by decide) rfl rfl ?_
        refine y_goto (tgt := 8) C dX6_toldNotWanted_67 (by decide) ?_
        refine y_ls [3, 1, 0] rfl ?_
        exact ih w (x1 + 0) (x2 + 1)
      · refine y_aload_n (n := 23) C dX6_toldNotWanted_22 0 rfl rfl ?_
        refine y_iload_n (n := 24) C dX6_toldNotWanted_23 2 rfl rfl ?_
        refine y_cp (n := 27) C (fun r hr H locs la hP hS hl => y_runV (ci := 6) (st := []) C ky_X6_frontPlace wd_933 ⟨Nat.le_of_ble_eq_true rfl, Nat.le_of_ble_eq_true rfl⟩ hO.1 rfl (mX6_frontPlace hO w x2 g.2.1 r hr) rfl (Nat.le_of_ble_eq_true rfl) rfl dX6_toldNotWanted_24 hP hS hl) rfl (fun v5 hv5 => ?_)
        refine y_aload_n (n := 28) C dX6_toldNotWanted_27 0 rfl rfl ?_
        refine y_get (ci := 6) (f := 0) (n := 31) C in_X6 hO.1 rfl (by decide) wd_731 rfl rfl dX6_toldNotWanted_28 rfl ?_
        refine y_sipush (n := 34) C (558 : Int32) dX6_toldNotWanted_31 (by decide) rfl ?_
        refine y_iald (n := 35) C hO.2.1 dX6_toldNotWanted_34 rfl (fun v6 hv6 => ?_)
        refine y_icmp_ge (tgt := 42) (n := 38) C dX6_toldNotWanted_35 (by decide) rfl (fun h7 => ?_) (fun h7 => ?_)
        · refine y_iconst (n := 43) C (0 : Int32) dX6_toldNotWanted_42 (by decide) rfl ?_
          refine y_istore_n (n := 44) (ls' := [(3, .int 0), (0, .ref (E.2.2.2.2.1 + o)), (1, .int x1), (2, .int x2)]) C dX6_toldNotWanted_43 (by decide) rfl rfl ?_
          refine y_iload_n (n := 45) C dX6_toldNotWanted_44 2 rfl rfl ?_
          refine y_iload_n (n := 46) C dX6_toldNotWanted_45 0 rfl rfl ?_
          refine y_if_eq_T (tgt := 61) C dX6_toldNotWanted_46 (by decide) (by decide) ?_
          refine y_iconst (n := 62) C (0 : Int32) dX6_toldNotWanted_61 (by decide) rfl ?_
          refine y_iadd (n := 63) C dX6_toldNotWanted_62 rfl ?_
          refine y_istore_n (n := 64) (ls' := [(1, .int (x1 + 0)), (3, .int 0), (0, .ref (E.2.2.2.2.1 + o)), (2, .int x2)]) C dX6_toldNotWanted_63 (by decide) rfl rfl ?_
          refine y_iinc (n := 67) (v := x2 + 1) (ls' := [(2, .int (x2 + 1)), (1, .int (x1 + 0)), (3, .int 0), (0, .ref (E.2.2.2.2.1 + o))]) C dX6_toldNotWanted_64 3 rfl rfl (by decide) rfl rfl ?_
          refine y_goto (tgt := 8) C dX6_toldNotWanted_67 (by decide) ?_
          refine y_ls [3, 1, 0] rfl ?_
          exact ih w (x1 + 0) (x2 + 1)
        · refine y_iconst (n := 39) C (1 : Int32) dX6_toldNotWanted_38 (by decide) rfl ?_
          refine y_goto (tgt := 43) C dX6_toldNotWanted_39 (by decide) ?_
          refine y_istore_n (n := 44) (ls' := [(3, .int 1), (0, .ref (E.2.2.2.2.1 + o)), (1, .int x1), (2, .int x2)]) C dX6_toldNotWanted_43 (by decide) rfl rfl ?_
          refine y_iload_n (n := 45) C dX6_toldNotWanted_44 2 rfl rfl ?_
          refine y_iload_n (n := 46) C dX6_toldNotWanted_45 0 rfl rfl ?_
          refine y_if_eq_F (tgt := 61) (n := 49) C dX6_toldNotWanted_46 (by decide) rfl (by decide) ?_
          refine y_aload_n (n := 50) C dX6_toldNotWanted_49 1 rfl rfl ?_
          refine y_iload_n (n := 51) C dX6_toldNotWanted_50 3 rfl rfl ?_
          refine y_cp (n := 54) C (fun r hr H locs la hP hS hl => y_runV (ci := 6) (st := [.int x1]) C ky_X6_wantedPlace wd_853 ⟨Nat.le_of_ble_eq_true rfl, Nat.le_of_ble_eq_true rfl⟩ hO.1 rfl (mX6_wantedPlace hO w x2 g.2.1 r hr) rfl (Nat.le_of_ble_eq_true rfl) rfl dX6_toldNotWanted_51 hP hS hl) rfl (fun v8 hv8 => ?_)
          refine y_if_ge (tgt := 61) (n := 57) C dX6_toldNotWanted_54 (by decide) rfl (fun h9 => ?_) (fun h9 => ?_)
          · refine y_iconst (n := 62) C (0 : Int32) dX6_toldNotWanted_61 (by decide) rfl ?_
            refine y_iadd (n := 63) C dX6_toldNotWanted_62 rfl ?_
            refine y_istore_n (n := 64) (ls' := [(1, .int (x1 + 0)), (3, .int 1), (0, .ref (E.2.2.2.2.1 + o)), (2, .int x2)]) C dX6_toldNotWanted_63 (by decide) rfl rfl ?_
            refine y_iinc (n := 67) (v := x2 + 1) (ls' := [(2, .int (x2 + 1)), (1, .int (x1 + 0)), (3, .int 1), (0, .ref (E.2.2.2.2.1 + o))]) C dX6_toldNotWanted_64 3 rfl rfl (by decide) rfl rfl ?_
            refine y_goto (tgt := 8) C dX6_toldNotWanted_67 (by decide) ?_
            refine y_ls [3, 1, 0] rfl ?_
            exact ih w (x1 + 0) (x2 + 1)
          · refine y_iconst (n := 58) C (1 : Int32) dX6_toldNotWanted_57 (by decide) rfl ?_
            refine y_goto (tgt := 62) C dX6_toldNotWanted_58 (by decide) ?_
            refine y_iadd (n := 63) C dX6_toldNotWanted_62 rfl ?_
            refine y_istore_n (n := 64) (ls' := [(1, .int (x1 + 1)), (3, .int 1), (0, .ref (E.2.2.2.2.1 + o)), (2, .int x2)]) C dX6_toldNotWanted_63 (by decide) rfl rfl ?_
            refine y_iinc (n := 67) (v := x2 + 1) (ls' := [(2, .int (x2 + 1)), (1, .int (x1 + 1)), (3, .int 1), (0, .ref (E.2.2.2.2.1 + o))]) C dX6_toldNotWanted_64 3 rfl rfl (by decide) rfl rfl ?_
            refine y_goto (tgt := 8) C dX6_toldNotWanted_67 (by decide) ?_
            refine y_ls [3, 1, 0] rfl ?_
            exact ih w (x1 + 1) (x2 + 1)
def fX6_toldNotWanted (w : Wd) (o : Nat)  : Option (Int32 × Wd) :=
  (fX6_reckon w o).bind fun w1 =>
  lX6_toldNotWanted_8 o 4096 w1 0 0
set_option maxRecDepth 4000 in
theorem eX6_toldNotWanted {g : Gx} {E : Ex} (C : CC g E cX6_toldNotWanted 4 RX6 5 116) (hR : RT g (some .int)) {o : Nat} (hO : shM E.2.2.2.2.2.1 o) (w : Wd)  : YO g E 4 (QI g E) (fX6_toldNotWanted w o) w 0 [(0, .ref (E.2.2.2.2.1 + o))] [] := by
  unfold fX6_toldNotWanted
  refine y_aload_n (n := 1) C dX6_toldNotWanted_0 0 rfl rfl ?_
  refine y_cv (n := 4) C (fun r hr H locs la hP hS hl => y_runV (ci := 6) (st := []) C ky_X6_reckon wd_917 ⟨Nat.le_of_ble_eq_true rfl, Nat.le_of_ble_eq_true rfl⟩ hO.1 rfl (mX6_reckon hO w g.2.1 r hr) rfl (Nat.le_of_ble_eq_true rfl) rfl dX6_toldNotWanted_1 hP hS hl) rfl (fun w1 hw1 => ?_)
  refine y_iconst (n := 5) C (0 : Int32) dX6_toldNotWanted_4 (by decide) rfl ?_
  refine y_istore_n (n := 6) (ls' := [(1, .int 0), (0, .ref (E.2.2.2.2.1 + o))]) C dX6_toldNotWanted_5 (by decide) rfl rfl ?_
  refine y_iconst (n := 7) C (0 : Int32) dX6_toldNotWanted_6 (by decide) rfl ?_
  refine y_istore_n (n := 8) (ls' := [(2, .int 0), (1, .int 0), (0, .ref (E.2.2.2.2.1 + o))]) C dX6_toldNotWanted_7 (by decide) rfl rfl ?_
  refine y_ls [2, 1, 0] rfl ?_
  exact clX6_toldNotWanted_8 C hR hO 4096 w1 0 0
theorem mX6_toldNotWanted {E : Ex} {o : Nat} (hO : shM E.2.2.2.2.2.1 o) (w : Wd)  (l : Launch) : MI l yX6_toldNotWanted cX6_toldNotWanted 4 (some .int) { frames := 5, cells := 0, slots := 0, locals := 116 } E [.ref (E.2.2.2.2.1 + o)] w (fX6_toldNotWanted w o) :=
  y_met (Qc := yQi E) (by decide +kernel) (Nat.le_of_ble_eq_true rfl) (fun g C hR => eX6_toldNotWanted C hR hO w ) l
def lX6_tried_120 (o : Nat) : Nat → Wd → Int32 → Int32 → Option (Int32 × Wd)
  | 0, _, _, _ => none
  | n + 1, w, x4, x5 =>
    if 706 ≤ x5 then
      some (x4, w)
    else
      (ldI 706 w (o + 4) x5).bind fun v9 =>
      (stI 706 w (o + 1) x5 v9).bind fun w10 =>
      lX6_tried_120 o n w10 x4 (x5 + 1)
set_option maxRecDepth 4000 in
theorem clX6_tried_120 {g : Gx} {E : Ex} (C : CC g E cX6_tried 6 RX6 6 140) (hR : RT g (some .int)) {o : Nat} (hO : shM E.2.2.2.2.2.1 o) : ∀ (n : Nat) (w : Wd) (x4 : Int32) (x5 : Int32), YO g E 6 (QI g E) (lX6_tried_120 o n w x4 x5) w 120 [(0, .ref (E.2.2.2.2.1 + o)), (4, .int x4), (5, .int x5)] [] := by
  intro n
  induction n with
  | zero => intro w x4 x5; exact y_no
  | succ n ih =>
    intro w x4 x5
    rw [lX6_tried_120]
    refine y_iload (n := 122) C dX6_tried_120 2 rfl rfl ?_
    refine y_sipush (n := 125) C (706 : Int32) dX6_tried_122 (by decide) rfl ?_
    refine y_icmp_ge (tgt := 148) (n := 128) C dX6_tried_125 (by decide) rfl (fun h8 => ?_) (fun h8 => ?_)
    · refine y_iload (n := 150) C dX6_tried_148 1 rfl rfl ?_
      exact y_ri C hR dX6_tried_150
    · refine y_aload_n (n := 129) C dX6_tried_128 0 rfl rfl ?_
      refine y_get (ci := 6) (f := 0) (n := 132) C in_X6 hO.1 rfl (by decide) wd_731 rfl rfl dX6_tried_129 rfl ?_
      refine y_iload (n := 134) C dX6_tried_132 2 rfl rfl ?_
      refine y_aload_n (n := 135) C dX6_tried_134 0 rfl rfl ?_
      refine y_get (ci := 6) (f := 3) (n := 138) C in_X6 hO.1 rfl (by decide) wd_734 rfl rfl dX6_tried_135 rfl ?_
      refine y_iload (n := 140) C dX6_tried_138 2 rfl rfl ?_
      refine y_iald (n := 141) C hO.2.2.2.2.1 dX6_tried_140 rfl (fun v9 hv9 => ?_)
      refine y_iast (n := 142) C hO.2.1 dX6_tried_141 rfl (fun w10 hw10 => ?_)
      refine y_iinc (n := 145) (v := x5 + 1) (ls' := [(5, .int (x5 + 1)), (0, .ref (E.2.2.2.2.1 + o)), (4, .int x4)]) C dX6_tried_142 2 rfl rfl (by decide) rfl rfl ?_
      refine y_goto (tgt := 120) C dX6_tried_145 (by decide) ?_
      refine y_ls [1, 2, 0] rfl ?_
      exact ih w10 x4 (x5 + 1)
def lX6_tried_40 (o : Nat) : Nat → Wd → Int32 → Int32 → Option (Int32 × Wd)
  | 0, _, _, _ => none
  | n + 1, w, x3, x4 =>
    if 240 ≤ x4 then
      if x3 = 0 then
        (ldI 706 w (o + 1) 564).bind fun v14 =>
        lX6_tried_120 o 4096 w v14 0
      else
        if x3 = 1 then
          (fX6_cost w o).bind fun v13 =>
          lX6_tried_120 o 4096 w v13 0
        else
          if x3 = 2 then
            ob2 (fX6_toldNotWanted w o) fun v11 w12 =>
            lX6_tried_120 o 4096 w12 v11 0
          else
            (fX6_sumOf w o 574).bind fun v7 =>
            lX6_tried_120 o 4096 w v7 0
    else
      (ldI 706 w (o + 1) 562).bind fun v15 =>
      if v15 = 0 then
        (fX6_oneStep w o).bind fun w25 =>
        lX6_tried_40 o n w25 x3 (x4 + 1)
      else
        if x3 = 0 then
          (ldI 706 w (o + 1) 564).bind fun v24 =>
          lX6_tried_120 o 4096 w v24 0
        else
          if x3 = 1 then
            (fX6_cost w o).bind fun v23 =>
            lX6_tried_120 o 4096 w v23 0
          else
            if x3 = 2 then
              ob2 (fX6_toldNotWanted w o) fun v21 w22 =>
              lX6_tried_120 o 4096 w22 v21 0
            else
              (fX6_sumOf w o 574).bind fun v20 =>
              lX6_tried_120 o 4096 w v20 0
set_option maxRecDepth 4000 in
theorem clX6_tried_40 {g : Gx} {E : Ex} (C : CC g E cX6_tried 6 RX6 6 140) (hR : RT g (some .int)) {o : Nat} (hO : shM E.2.2.2.2.2.1 o) : ∀ (n : Nat) (w : Wd) (x3 : Int32) (x4 : Int32), YO g E 6 (QI g E) (lX6_tried_40 o n w x3 x4) w 40 [(0, .ref (E.2.2.2.2.1 + o)), (3, .int x3), (4, .int x4)] [] := by
  intro n
  induction n with
  | zero => intro w x3 x4; exact y_no
  | succ n ih =>
    intro w x3 x4
    rw [lX6_tried_40]
    refine y_iload (n := 42) C dX6_tried_40 2 rfl rfl ?_
    refine y_sipush (n := 45) C (240 : Int32) dX6_tried_42 (by decide) rfl ?_
    refine y_icmp_ge (tgt := 69) (n := 48) C dX6_tried_45 (by decide) rfl (fun h3 => ?_) (fun h3 => ?_)
    · refine y_iload_n (n := 70) C dX6_tried_69 1 rfl rfl ?_
      refine y_if_ne (tgt := 84) (n := 73) C dX6_tried_70 (by decide) rfl (fun h4 => ?_) (fun h4 => ?_)
      · refine y_iload_n (n := 85) C dX6_tried_84 1 rfl rfl ?_
        refine y_iconst (n := 86) C (1 : Int32) dX6_tried_85 (by decide) rfl ?_
        refine y_icmp_ne (tgt := 96) (n := 89) C dX6_tried_86 (by decide) rfl (fun h5 => ?_) (fun h5 => ?_)
        · refine y_iload_n (n := 97) C dX6_tried_96 1 rfl rfl ?_
          refine y_iconst (n := 98) C (2 : Int32) dX6_tried_97 (by decide) rfl ?_
          refine y_icmp_ne (tgt := 108) (n := 101) C dX6_tried_98 (by decide) rfl (fun h6 => ?_) (fun h6 => ?_)
          · refine y_aload_n (n := 109) C dX6_tried_108 0 rfl rfl ?_
            refine y_sipush (n := 112) C (574 : Int32) dX6_tried_109 (by decide) rfl ?_
            refine y_cp (n := 115) C (fun r hr H locs la hP hS hl => y_runV (ci := 6) (st := []) C ky_X6_sumOf wd_1001 ⟨Nat.le_of_ble_eq_true rfl, Nat.le_of_ble_eq_true rfl⟩ hO.1 rfl (mX6_sumOf hO w 574 g.2.1 r hr) rfl (Nat.le_of_ble_eq_true rfl) rfl dX6_tried_112 hP hS hl) rfl (fun v7 hv7 => ?_)
            refine y_istore (n := 117) (ls' := [(4, .int v7), (0, .ref (E.2.2.2.2.1 + o)), (3, .int x3)]) C dX6_tried_115 (by decide) rfl rfl ?_
            refine y_iconst (n := 118) C (0 : Int32) dX6_tried_117 (by decide) rfl ?_
            refine y_istore (n := 120) (ls' := [(5, .int 0), (4, .int v7), (0, .ref (E.2.2.2.2.1 + o)), (3, .int x3)]) C dX6_tried_118 (by decide) rfl rfl ?_
            refine y_ls [2, 1, 0] rfl ?_
            exact clX6_tried_120 C hR hO 4096 w v7 0
          · refine y_aload_n (n := 102) C dX6_tried_101 0 rfl rfl ?_
            refine y_ci2 (n := 105) C (fun r hr H locs la hP hS hl => y_runV (ci := 6) (st := []) C ky_X6_toldNotWanted wd_1009 ⟨Nat.le_of_ble_eq_true rfl, Nat.le_of_ble_eq_true rfl⟩ hO.1 rfl (mX6_toldNotWanted hO w g.2.1 r hr) rfl (Nat.le_of_ble_eq_true rfl) rfl dX6_tried_102 hP hS hl) rfl (fun v11 w12 hv11 => ?_)
            refine y_goto (tgt := 115) C dX6_tried_105 (by decide) ?_
            refine y_istore (n := 117) (ls' := [(4, .int v11), (0, .ref (E.2.2.2.2.1 + o)), (3, .int x3)]) C dX6_tried_115 (by decide) rfl rfl ?_
            refine y_iconst (n := 118) C (0 : Int32) dX6_tried_117 (by decide) rfl ?_
            refine y_istore (n := 120) (ls' := [(5, .int 0), (4, .int v11), (0, .ref (E.2.2.2.2.1 + o)), (3, .int x3)]) C dX6_tried_118 (by decide) rfl rfl ?_
            refine y_ls [2, 1, 0] rfl ?_
            exact clX6_tried_120 C hR hO 4096 w12 v11 0
        · refine y_aload_n (n := 90) C dX6_tried_89 0 rfl rfl ?_
          refine y_cp (n := 93) C (fun r hr H locs la hP hS hl => y_runV (ci := 6) (st := []) C ky_X6_cost wd_1005 ⟨Nat.le_of_ble_eq_true rfl, Nat.le_of_ble_eq_true rfl⟩ hO.1 rfl (mX6_cost hO w g.2.1 r hr) rfl (Nat.le_of_ble_eq_true rfl) rfl dX6_tried_90 hP hS hl) rfl (fun v13 hv13 => ?_)
          refine y_goto (tgt := 115) C dX6_tried_93 (by decide) ?_
          refine y_istore (n := 117) (ls' := [(4, .int v13), (0, .ref (E.2.2.2.2.1 + o)), (3, .int x3)]) C dX6_tried_115 (by decide) rfl rfl ?_
          refine y_iconst (n := 118) C (0 : Int32) dX6_tried_117 (by decide) rfl ?_
          refine y_istore (n := 120) (ls' := [(5, .int 0), (4, .int v13), (0, .ref (E.2.2.2.2.1 + o)), (3, .int x3)]) C dX6_tried_118 (by decide) rfl rfl ?_
          refine y_ls [2, 1, 0] rfl ?_
          exact clX6_tried_120 C hR hO 4096 w v13 0
      · refine y_aload_n (n := 74) C dX6_tried_73 0 rfl rfl ?_
        refine y_get (ci := 6) (f := 0) (n := 77) C in_X6 hO.1 rfl (by decide) wd_731 rfl rfl dX6_tried_74 rfl ?_
        refine y_sipush (n := 80) C (564 : Int32) dX6_tried_77 (by decide) rfl ?_
        refine y_iald (n := 81) C hO.2.1 dX6_tried_80 rfl (fun v14 hv14 => ?_)
        refine y_goto (tgt := 115) C dX6_tried_81 (by decide) ?_
        refine y_istore (n := 117) (ls' := [(4, .int v14), (0, .ref (E.2.2.2.2.1 + o)), (3, .int x3)]) C dX6_tried_115 (by decide) rfl rfl ?_
        refine y_iconst (n := 118) C (0 : Int32) dX6_tried_117 (by decide) rfl ?_
        refine y_istore (n := 120) (ls' := [(5, .int 0), (4, .int v14), (0, .ref (E.2.2.2.2.1 + o)), (3, .int x3)]) C dX6_tried_118 (by decide) rfl rfl ?_
        refine y_ls [2, 1, 0] rfl ?_
        exact clX6_tried_120 C hR hO 4096 w v14 0
    · refine y_aload_n (n := 49) C dX6_tried_48 0 rfl rfl ?_
      refine y_get (ci := 6) (f := 0) (n := 52) C in_X6 hO.1 rfl (by decide) wd_731 rfl rfl dX6_tried_49 rfl ?_
      refine y_sipush (n := 55) C (562 : Int32) dX6_tried_52 (by decide) rfl ?_
      refine y_iald (n := 56) C hO.2.1 dX6_tried_55 rfl (fun v15 hv15 => ?_)
      refine y_if_ne (tgt := 69) (n := 59) C dX6_tried_56 (by decide) rfl (fun h16 => ?_) (fun h16 => ?_)
      · refine y_iload_n (n := 70) C dX6_tried_69 1 rfl rfl ?_
        refine y_if_ne (tgt := 84) (n := 73) C dX6_tried_70 (by decide) rfl (fun h17 => ?_) (fun h17 => ?_)
        · refine y_iload_n (n := 85) C dX6_tried_84 1 rfl rfl ?_
          refine y_iconst (n := 86) C (1 : Int32) dX6_tried_85 (by decide) rfl ?_
          refine y_icmp_ne (tgt := 96) (n := 89) C dX6_tried_86 (by decide) rfl (fun h18 => ?_) (fun h18 => ?_)
          · refine y_iload_n (n := 97) C dX6_tried_96 1 rfl rfl ?_
            refine y_iconst (n := 98) C (2 : Int32) dX6_tried_97 (by decide) rfl ?_
            refine y_icmp_ne (tgt := 108) (n := 101) C dX6_tried_98 (by decide) rfl (fun h19 => ?_) (fun h19 => ?_)
            · refine y_aload_n (n := 109) C dX6_tried_108 0 rfl rfl ?_
              refine y_sipush (n := 112) C (574 : Int32) dX6_tried_109 (by decide) rfl ?_
              refine y_cp (n := 115) C (fun r hr H locs la hP hS hl => y_runV (ci := 6) (st := []) C ky_X6_sumOf wd_1001 ⟨Nat.le_of_ble_eq_true rfl, Nat.le_of_ble_eq_true rfl⟩ hO.1 rfl (mX6_sumOf hO w 574 g.2.1 r hr) rfl (Nat.le_of_ble_eq_true rfl) rfl dX6_tried_112 hP hS hl) rfl (fun v20 hv20 => ?_)
              refine y_istore (n := 117) (ls' := [(4, .int v20), (0, .ref (E.2.2.2.2.1 + o)), (3, .int x3)]) C dX6_tried_115 (by decide) rfl rfl ?_
              refine y_iconst (n := 118) C (0 : Int32) dX6_tried_117 (by decide) rfl ?_
              refine y_istore (n := 120) (ls' := [(5, .int 0), (4, .int v20), (0, .ref (E.2.2.2.2.1 + o)), (3, .int x3)]) C dX6_tried_118 (by decide) rfl rfl ?_
              refine y_ls [2, 1, 0] rfl ?_
              exact clX6_tried_120 C hR hO 4096 w v20 0
            · refine y_aload_n (n := 102) C dX6_tried_101 0 rfl rfl ?_
              refine y_ci2 (n := 105) C (fun r hr H locs la hP hS hl => y_runV (ci := 6) (st := []) C ky_X6_toldNotWanted wd_1009 ⟨Nat.le_of_ble_eq_true rfl, Nat.le_of_ble_eq_true rfl⟩ hO.1 rfl (mX6_toldNotWanted hO w g.2.1 r hr) rfl (Nat.le_of_ble_eq_true rfl) rfl dX6_tried_102 hP hS hl) rfl (fun v21 w22 hv21 => ?_)
              refine y_goto (tgt := 115) C dX6_tried_105 (by decide) ?_
              refine y_istore (n := 117) (ls' := [(4, .int v21), (0, .ref (E.2.2.2.2.1 + o)), (3, .int x3)]) C dX6_tried_115 (by decide) rfl rfl ?_
              refine y_iconst (n := 118) C (0 : Int32) dX6_tried_117 (by decide) rfl ?_
              refine y_istore (n := 120) (ls' := [(5, .int 0), (4, .int v21), (0, .ref (E.2.2.2.2.1 + o)), (3, .int x3)]) C dX6_tried_118 (by decide) rfl rfl ?_
              refine y_ls [2, 1, 0] rfl ?_
              exact clX6_tried_120 C hR hO 4096 w22 v21 0
          · refine y_aload_n (n := 90) C dX6_tried_89 0 rfl rfl ?_
            refine y_cp (n := 93) C (fun r hr H locs la hP hS hl => y_runV (ci := 6) (st := []) C ky_X6_cost wd_1005 ⟨Nat.le_of_ble_eq_true rfl, Nat.le_of_ble_eq_true rfl⟩ hO.1 rfl (mX6_cost hO w g.2.1 r hr) rfl (Nat.le_of_ble_eq_true rfl) rfl dX6_tried_90 hP hS hl) rfl (fun v23 hv23 => ?_)
            refine y_goto (tgt := 115) C dX6_tried_93 (by decide) ?_
            refine y_istore (n := 117) (ls' := [(4, .int v23), (0, .ref (E.2.2.2.2.1 + o)), (3, .int x3)]) C dX6_tried_115 (by decide) rfl rfl ?_
            refine y_iconst (n := 118) C (0 : Int32) dX6_tried_117 (by decide) rfl ?_
            refine y_istore (n := 120) (ls' := [(5, .int 0), (4, .int v23), (0, .ref (E.2.2.2.2.1 + o)), (3, .int x3)]) C dX6_tried_118 (by decide) rfl rfl ?_
            refine y_ls [2, 1, 0] rfl ?_
            exact clX6_tried_120 C hR hO 4096 w v23 0
        · refine y_aload_n (n := 74) C dX6_tried_73 0 rfl rfl ?_
          refine y_get (ci := 6) (f := 0) (n := 77) C in_X6 hO.1 rfl (by decide) wd_731 rfl rfl dX6_tried_74 rfl ?_
          refine y_sipush (n := 80) C (564 : Int32) dX6_tried_77 (by decide) rfl ?_
          refine y_iald (n := 81) C hO.2.1 dX6_tried_80 rfl (fun v24 hv24 => ?_)
          refine y_goto (tgt := 115) C dX6_tried_81 (by decide) ?_
          refine y_istore (n := 117) (ls' := [(4, .int v24), (0, .ref (E.2.2.2.2.1 + o)), (3, .int x3)]) C dX6_tried_115 (by decide) rfl rfl ?_
          refine y_iconst (n := 118) C (0 : Int32) dX6_tried_117 (by decide) rfl ?_
          refine y_istore (n := 120) (ls' := [(5, .int 0), (4, .int v24), (0, .ref (E.2.2.2.2.1 + o)), (3, .int x3)]) C dX6_tried_118 (by decide) rfl rfl ?_
          refine y_ls [2, 1, 0] rfl ?_
          exact clX6_tried_120 C hR hO 4096 w v24 0
      · refine y_aload_n (n := 60) C dX6_tried_59 0 rfl rfl ?_
        refine y_cv (n := 63) C (fun r hr H locs la hP hS hl => y_runV (ci := 6) (st := []) C ky_X6_oneStep wd_957 ⟨Nat.le_of_ble_eq_true rfl, Nat.le_of_ble_eq_true rfl⟩ hO.1 rfl (mX6_oneStep hO w g.2.1 r hr) rfl (Nat.le_of_ble_eq_true rfl) rfl dX6_tried_60 hP hS hl) rfl (fun w25 hw25 => ?_)
        refine y_iinc (n := 66) (v := x4 + 1) (ls' := [(4, .int (x4 + 1)), (0, .ref (E.2.2.2.2.1 + o)), (3, .int x3)]) C dX6_tried_63 2 rfl rfl (by decide) rfl rfl ?_
        refine y_goto (tgt := 40) C dX6_tried_66 (by decide) ?_
        refine y_ls [1, 2, 0] rfl ?_
        exact ih w25 x3 (x4 + 1)
def lX6_tried_3 (o : Nat) : Nat → Wd → Int32 → Int32 → Int32 → Int32 → Option (Int32 × Wd)
  | 0, _, _, _, _, _ => none
  | n + 1, w, x1, x2, x3, x4 =>
    if 706 ≤ x4 then
      (fX6_startReading w o x1 x2).bind fun w2 =>
      lX6_tried_40 o 4096 w2 x3 0
    else
      (ldI 706 w (o + 1) x4).bind fun v26 =>
      (stI 706 w (o + 4) x4 v26).bind fun w27 =>
      lX6_tried_3 o n w27 x1 x2 x3 (x4 + 1)
set_option maxRecDepth 4000 in
theorem clX6_tried_3 {g : Gx} {E : Ex} (C : CC g E cX6_tried 6 RX6 6 140) (hR : RT g (some .int)) {o : Nat} (hO : shM E.2.2.2.2.2.1 o) : ∀ (n : Nat) (w : Wd) (x1 : Int32) (x2 : Int32) (x3 : Int32) (x4 : Int32), YO g E 6 (QI g E) (lX6_tried_3 o n w x1 x2 x3 x4) w 3 [(0, .ref (E.2.2.2.2.1 + o)), (1, .int x1), (2, .int x2), (3, .int x3), (4, .int x4)] [] := by
  intro n
  induction n with
  | zero => intro w x1 x2 x3 x4; exact y_no
  | succ n ih =>
    intro w x1 x2 x3 x4
    rw [lX6_tried_3]
    refine y_iload (n := 5) C dX6_tried_3 4 rfl rfl ?_
    refine y_sipush (n := 8) C (706 : Int32) dX6_tried_5 (by decide) rfl ?_
    refine y_icmp_ge (tgt := 31) (n := 11) C dX6_tried_8 (by decide) rfl (fun h1 => ?_) (fun h1 => ?_)
    · refine y_aload_n (n := 32) C dX6_tried_31 0 rfl rfl ?_
      refine y_iload_n (n := 33) C dX6_tried_32 1 rfl rfl ?_
      refine y_iload_n (n := 34) C dX6_tried_33 2 rfl rfl ?_
      refine y_cv (n := 37) C (fun r hr H locs la hP hS hl => y_runV (ci := 6) (st := []) C ky_X6_startReading wd_893 ⟨Nat.le_of_ble_eq_true rfl, Nat.le_of_ble_eq_true rfl⟩ hO.1 rfl (mX6_startReading hO w x1 x2 g.2.1 r hr) rfl (Nat.le_of_ble_eq_true rfl) rfl dX6_tried_34 hP hS hl) rfl (fun w2 hw2 => ?_)
      refine y_iconst (n := 38) C (0 : Int32) dX6_tried_37 (by decide) rfl ?_
      refine y_istore (n := 40) (ls' := [(4, .int 0), (0, .ref (E.2.2.2.2.1 + o)), (1, .int x1), (2, .int x2), (3, .int x3)]) C dX6_tried_38 (by decide) rfl rfl ?_
      refine y_ls [1, 4, 0] rfl ?_
      exact clX6_tried_40 C hR hO 4096 w2 x3 0
    · refine y_aload_n (n := 12) C dX6_tried_11 0 rfl rfl ?_
      refine y_get (ci := 6) (f := 3) (n := 15) C in_X6 hO.1 rfl (by decide) wd_734 rfl rfl dX6_tried_12 rfl ?_
      refine y_iload (n := 17) C dX6_tried_15 4 rfl rfl ?_
      refine y_aload_n (n := 18) C dX6_tried_17 0 rfl rfl ?_
      refine y_get (ci := 6) (f := 0) (n := 21) C in_X6 hO.1 rfl (by decide) wd_731 rfl rfl dX6_tried_18 rfl ?_
      refine y_iload (n := 23) C dX6_tried_21 4 rfl rfl ?_
      refine y_iald (n := 24) C hO.2.1 dX6_tried_23 rfl (fun v26 hv26 => ?_)
      refine y_iast (n := 25) C hO.2.2.2.2.1 dX6_tried_24 rfl (fun w27 hw27 => ?_)
      refine y_iinc (n := 28) (v := x4 + 1) (ls' := [(4, .int (x4 + 1)), (0, .ref (E.2.2.2.2.1 + o)), (1, .int x1), (2, .int x2), (3, .int x3)]) C dX6_tried_25 4 rfl rfl (by decide) rfl rfl ?_
      refine y_goto (tgt := 3) C dX6_tried_28 (by decide) ?_
      refine y_ls [1, 2, 3, 4, 0] rfl ?_
      exact ih w27 x1 x2 x3 (x4 + 1)
def fX6_tried (w : Wd) (o : Nat) (a1 : Int32) (a2 : Int32) (a3 : Int32) : Option (Int32 × Wd) :=
  lX6_tried_3 o 4096 w a1 a2 a3 0
set_option maxRecDepth 4000 in
theorem eX6_tried {g : Gx} {E : Ex} (C : CC g E cX6_tried 6 RX6 6 140) (hR : RT g (some .int)) {o : Nat} (hO : shM E.2.2.2.2.2.1 o) (w : Wd) (a1 : Int32) (a2 : Int32) (a3 : Int32) : YO g E 6 (QI g E) (fX6_tried w o a1 a2 a3) w 0 [(0, .ref (E.2.2.2.2.1 + o)), (1, .int a1), (2, .int a2), (3, .int a3)] [] := by
  unfold fX6_tried
  refine y_iconst (n := 1) C (0 : Int32) dX6_tried_0 (by decide) rfl ?_
  refine y_istore (n := 3) (ls' := [(4, .int 0), (0, .ref (E.2.2.2.2.1 + o)), (1, .int a1), (2, .int a2), (3, .int a3)]) C dX6_tried_1 (by decide) rfl rfl ?_
  refine y_ls [1, 2, 3, 4, 0] rfl ?_
  exact clX6_tried_3 C hR hO 4096 w a1 a2 a3 0
theorem mX6_tried {E : Ex} {o : Nat} (hO : shM E.2.2.2.2.2.1 o) (w : Wd) (a1 : Int32) (a2 : Int32) (a3 : Int32) (l : Launch) : MI l yX6_tried cX6_tried 6 (some .int) { frames := 6, cells := 0, slots := 0, locals := 140 } E [.ref (E.2.2.2.2.1 + o), .int a1, .int a2, .int a3] w (fX6_tried w o a1 a2 a3) :=
  y_met (Qc := yQi E) (by decide +kernel) (Nat.le_of_ble_eq_true rfl) (fun g C hR => eX6_tried C hR hO w a1 a2 a3) l
def lX6_cheapest_16 (o : Nat) : Nat → Wd → Int32 → Int32 → Int32 → Option (Int32 × Wd)
  | 0, _, _, _, _ => none
  | n + 1, w, x1, x2, x3 =>
    if 6 ≤ x3 then
      some (x1, w)
    else
      if (x3 - x3 / 2 * 2) = 1 then
        ob2 (fX6_tried w o (x3 / 2) 1 1) fun v9 w10 =>
        if x1 < 0 then
          lX6_cheapest_16 o n w10 x3 v9 (x3 + 1)
        else
          if x2 ≤ v9 then
            lX6_cheapest_16 o n w10 x1 x2 (x3 + 1)
          else
            lX6_cheapest_16 o n w10 x3 v9 (x3 + 1)
      else
        ob2 (fX6_tried w o (x3 / 2) 0 1) fun v5 w6 =>
        if x1 < 0 then
          lX6_cheapest_16 o n w6 x3 v5 (x3 + 1)
        else
          if x2 ≤ v5 then
            lX6_cheapest_16 o n w6 x1 x2 (x3 + 1)
          else
            lX6_cheapest_16 o n w6 x3 v5 (x3 + 1)
set_option maxRecDepth 4000 in
theorem clX6_cheapest_16 {g : Gx} {E : Ex} (C : CC g E cX6_cheapest 5 RX6 7 165) (hR : RT g (some .int)) {o : Nat} (hO : shM E.2.2.2.2.2.1 o) : ∀ (n : Nat) (w : Wd) (x1 : Int32) (x2 : Int32) (x3 : Int32), YO g E 5 (QI g E) (lX6_cheapest_16 o n w x1 x2 x3) w 16 [(0, .ref (E.2.2.2.2.1 + o)), (1, .int x1), (2, .int x2), (3, .int x3)] [] := by
  intro n
  induction n with
  | zero => intro w x1 x2 x3; exact y_no
  | succ n ih =>
    intro w x1 x2 x3
    rw [lX6_cheapest_16]
    refine y_iload_n (n := 17) C dX6_cheapest_16 3 rfl rfl ?_
    refine y_bipush (n := 19) C (6 : Int32) dX6_cheapest_17 (by decide) rfl ?_
    refine y_icmp_ge (tgt := 65) (n := 22) C dX6_cheapest_19 (by decide) rfl (fun h3 => ?_) (fun h3 => ?_)
    · refine y_iload_n (n := 66) C dX6_cheapest_65 1 rfl rfl ?_
      exact y_ri C hR dX6_cheapest_66
    · refine y_aload_n (n := 23) C dX6_cheapest_22 0 rfl rfl ?_
      refine y_iload_n (n := 24) C dX6_cheapest_23 3 rfl rfl ?_
      refine y_iconst (n := 25) C (2 : Int32) dX6_cheapest_24 (by decide) rfl ?_
      refine y_idiv (n := 26) C dX6_cheapest_25 (by decide) rfl ?_
      refine y_iload_n (n := 27) C dX6_cheapest_26 3 rfl rfl ?_
      refine y_iconst (n := 28) C (2 : Int32) dX6_cheapest_27 (by decide) rfl ?_
      refine y_irem (n := 29) C dX6_cheapest_28 (by decide) rfl ?_
      refine y_iconst (n := 30) C (1 : Int32) dX6_cheapest_29 (by decide) rfl ?_
      refine y_icmp_ne (tgt := 37) (n := 33) C dX6_cheapest_30 (by decide) rfl (fun h4 => ?_) (fun h4 => ?_)
      · refine y_iconst (n := 38) C (0 : Int32) dX6_cheapest_37 (by decide) rfl ?_
        refine y_iconst (n := 39) C (1 : Int32) dX6_cheapest_38 (by decide) rfl ?_
        refine y_ci2 (n := 42) C (fun r hr H locs la hP hS hl => y_runV (ci := 6) (st := []) C ky_X6_tried wd_1021 ⟨Nat.le_of_ble_eq_true rfl, Nat.le_of_ble_eq_true rfl⟩ hO.1 rfl (mX6_tried hO w (x3 / 2) 0 1 g.2.1 r hr) rfl (Nat.le_of_ble_eq_true rfl) rfl dX6_cheapest_39 hP hS hl) rfl (fun v5 w6 hv5 => ?_)
        refine y_istore (n := 44) (ls' := [(4, .int v5), (0, .ref (E.2.2.2.2.1 + o)), (1, .int x1), (2, .int x2), (3, .int x3)]) C dX6_cheapest_42 (by decide) rfl rfl ?_
        refine y_iload_n (n := 45) C dX6_cheapest_44 2 rfl rfl ?_
        refine y_if_lt (tgt := 54) (n := 48) C dX6_cheapest_45 (by decide) rfl (fun h7 => ?_) (fun h7 => ?_)
        · refine y_iload_n (n := 55) C dX6_cheapest_54 4 rfl rfl ?_
          refine y_istore_n (n := 56) (ls' := [(1, .int x3), (4, .int v5), (0, .ref (E.2.2.2.2.1 + o)), (2, .int x2), (3, .int x3)]) C dX6_cheapest_55 (by decide) rfl rfl ?_
          refine y_iload (n := 58) C dX6_cheapest_56 1 rfl rfl ?_
          refine y_istore_n (n := 59) (ls' := [(2, .int v5), (1, .int x3), (4, .int v5), (0, .ref (E.2.2.2.2.1 + o)), (3, .int x3)]) C dX6_cheapest_58 (by decide) rfl rfl ?_
          refine y_iinc (n := 62) (v := x3 + 1) (ls' := [(3, .int (x3 + 1)), (2, .int v5), (1, .int x3), (4, .int v5), (0, .ref (E.2.2.2.2.1 + o))]) C dX6_cheapest_59 4 rfl rfl (by decide) rfl rfl ?_
          refine y_goto (tgt := 16) C dX6_cheapest_62 (by decide) ?_
          refine y_ls [4, 2, 1, 0] rfl ?_
          exact ih w6 x3 v5 (x3 + 1)
        · refine y_iload (n := 50) C dX6_cheapest_48 0 rfl rfl ?_
          refine y_iload_n (n := 51) C dX6_cheapest_50 3 rfl rfl ?_
          refine y_icmp_ge (tgt := 59) (n := 54) C dX6_cheapest_51 (by decide) rfl (fun h8 => ?_) (fun h8 => ?_)
          · refine y_iinc (n := 62) (v := x3 + 1) (ls' := [(3, .int (x3 + 1)), (4, .int v5), (0, .ref (E.2.2.2.2.1 + o)), (1, .int x1), (2, .int x2)]) C dX6_cheapest_59 4 rfl rfl (by decide) rfl rfl ?_
            refine y_goto (tgt := 16) C dX6_cheapest_62 (by decide) ?_
            refine y_ls [2, 3, 4, 0] rfl ?_
            exact ih w6 x1 x2 (x3 + 1)
          · refine y_iload_n (n := 55) C dX6_cheapest_54 4 rfl rfl ?_
            refine y_istore_n (n := 56) (ls' := [(1, .int x3), (4, .int v5), (0, .ref (E.2.2.2.2.1 + o)), (2, .int x2), (3, .int x3)]) C dX6_cheapest_55 (by decide) rfl rfl ?_
            refine y_iload (n := 58) C dX6_cheapest_56 1 rfl rfl ?_
            refine y_istore_n (n := 59) (ls' := [(2, .int v5), (1, .int x3), (4, .int v5), (0, .ref (E.2.2.2.2.1 + o)), (3, .int x3)]) C dX6_cheapest_58 (by decide) rfl rfl ?_
            refine y_iinc (n := 62) (v := x3 + 1) (ls' := [(3, .int (x3 + 1)), (2, .int v5), (1, .int x3), (4, .int v5), (0, .ref (E.2.2.2.2.1 + o))]) C dX6_cheapest_59 4 rfl rfl (by decide) rfl rfl ?_
            refine y_goto (tgt := 16) C dX6_cheapest_62 (by decide) ?_
            refine y_ls [4, 2, 1, 0] rfl ?_
            exact ih w6 x3 v5 (x3 + 1)
      · refine y_iconst (n := 34) C (1 : Int32) dX6_cheapest_33 (by decide) rfl ?_
        refine y_goto (tgt := 38) C dX6_cheapest_34 (by decide) ?_
        refine y_iconst (n := 39) C (1 : Int32) dX6_cheapest_38 (by decide) rfl ?_
        refine y_ci2 (n := 42) C (fun r hr H locs la hP hS hl => y_runV (ci := 6) (st := []) C ky_X6_tried wd_1021 ⟨Nat.le_of_ble_eq_true rfl, Nat.le_of_ble_eq_true rfl⟩ hO.1 rfl (mX6_tried hO w (x3 / 2) 1 1 g.2.1 r hr) rfl (Nat.le_of_ble_eq_true rfl) rfl dX6_cheapest_39 hP hS hl) rfl (fun v9 w10 hv9 => ?_)
        refine y_istore (n := 44) (ls' := [(4, .int v9), (0, .ref (E.2.2.2.2.1 + o)), (1, .int x1), (2, .int x2), (3, .int x3)]) C dX6_cheapest_42 (by decide) rfl rfl ?_
        refine y_iload_n (n := 45) C dX6_cheapest_44 2 rfl rfl ?_
        refine y_if_lt (tgt := 54) (n := 48) C dX6_cheapest_45 (by decide) rfl (fun h11 => ?_) (fun h11 => ?_)
        · refine y_iload_n (n := 55) C dX6_cheapest_54 4 rfl rfl ?_
          refine y_istore_n (n := 56) (ls' := [(1, .int x3), (4, .int v9), (0, .ref (E.2.2.2.2.1 + o)), (2, .int x2), (3, .int x3)]) C dX6_cheapest_55 (by decide) rfl rfl ?_
          refine y_iload (n := 58) C dX6_cheapest_56 1 rfl rfl ?_
          refine y_istore_n (n := 59) (ls' := [(2, .int v9), (1, .int x3), (4, .int v9), (0, .ref (E.2.2.2.2.1 + o)), (3, .int x3)]) C dX6_cheapest_58 (by decide) rfl rfl ?_
          refine y_iinc (n := 62) (v := x3 + 1) (ls' := [(3, .int (x3 + 1)), (2, .int v9), (1, .int x3), (4, .int v9), (0, .ref (E.2.2.2.2.1 + o))]) C dX6_cheapest_59 4 rfl rfl (by decide) rfl rfl ?_
          refine y_goto (tgt := 16) C dX6_cheapest_62 (by decide) ?_
          refine y_ls [4, 2, 1, 0] rfl ?_
          exact ih w10 x3 v9 (x3 + 1)
        · refine y_iload (n := 50) C dX6_cheapest_48 0 rfl rfl ?_
          refine y_iload_n (n := 51) C dX6_cheapest_50 3 rfl rfl ?_
          refine y_icmp_ge (tgt := 59) (n := 54) C dX6_cheapest_51 (by decide) rfl (fun h12 => ?_) (fun h12 => ?_)
          · refine y_iinc (n := 62) (v := x3 + 1) (ls' := [(3, .int (x3 + 1)), (4, .int v9), (0, .ref (E.2.2.2.2.1 + o)), (1, .int x1), (2, .int x2)]) C dX6_cheapest_59 4 rfl rfl (by decide) rfl rfl ?_
            refine y_goto (tgt := 16) C dX6_cheapest_62 (by decide) ?_
            refine y_ls [2, 3, 4, 0] rfl ?_
            exact ih w10 x1 x2 (x3 + 1)
          · refine y_iload_n (n := 55) C dX6_cheapest_54 4 rfl rfl ?_
            refine y_istore_n (n := 56) (ls' := [(1, .int x3), (4, .int v9), (0, .ref (E.2.2.2.2.1 + o)), (2, .int x2), (3, .int x3)]) C dX6_cheapest_55 (by decide) rfl rfl ?_
            refine y_iload (n := 58) C dX6_cheapest_56 1 rfl rfl ?_
            refine y_istore_n (n := 59) (ls' := [(2, .int v9), (1, .int x3), (4, .int v9), (0, .ref (E.2.2.2.2.1 + o)), (3, .int x3)]) C dX6_cheapest_58 (by decide) rfl rfl ?_
            refine y_iinc (n := 62) (v := x3 + 1) (ls' := [(3, .int (x3 + 1)), (2, .int v9), (1, .int x3), (4, .int v9), (0, .ref (E.2.2.2.2.1 + o))]) C dX6_cheapest_59 4 rfl rfl (by decide) rfl rfl ?_
            refine y_goto (tgt := 16) C dX6_cheapest_62 (by decide) ?_
            refine y_ls [4, 2, 1, 0] rfl ?_
            exact ih w10 x3 v9 (x3 + 1)
def fX6_cheapest (w : Wd) (o : Nat)  : Option (Int32 × Wd) :=
  (fX6_asked w o).bind fun v1 =>
  if v1 = 0 then
    some ((-4), w)
  else
    lX6_cheapest_16 o 4096 w (-1) 0 0
set_option maxRecDepth 4000 in
theorem eX6_cheapest {g : Gx} {E : Ex} (C : CC g E cX6_cheapest 5 RX6 7 165) (hR : RT g (some .int)) {o : Nat} (hO : shM E.2.2.2.2.2.1 o) (w : Wd)  : YO g E 5 (QI g E) (fX6_cheapest w o) w 0 [(0, .ref (E.2.2.2.2.1 + o))] [] := by
  unfold fX6_cheapest
  refine y_aload_n (n := 1) C dX6_cheapest_0 0 rfl rfl ?_
  refine y_cp (n := 4) C (fun r hr H locs la hP hS hl => y_runV (ci := 6) (st := []) C ky_X6_asked wd_885 ⟨Nat.le_of_ble_eq_true rfl, Nat.le_of_ble_eq_true rfl⟩ hO.1 rfl (mX6_asked hO w g.2.1 r hr) rfl (Nat.le_of_ble_eq_true rfl) rfl dX6_cheapest_1 hP hS hl) rfl (fun v1 hv1 => ?_)
  refine y_if_ne (tgt := 10) (n := 7) C dX6_cheapest_4 (by decide) rfl (fun h2 => ?_) (fun h2 => ?_)
  · refine y_iconst (n := 11) C ((-1) : Int32) dX6_cheapest_10 (by decide) rfl ?_
    refine y_istore_n (n := 12) (ls' := [(1, .int (-1)), (0, .ref (E.2.2.2.2.1 + o))]) C dX6_cheapest_11 (by decide) rfl rfl ?_
    refine y_iconst (n := 13) C (0 : Int32) dX6_cheapest_12 (by decide) rfl ?_
    refine y_istore_n (n := 14) (ls' := [(2, .int 0), (1, .int (-1)), (0, .ref (E.2.2.2.2.1 + o))]) C dX6_cheapest_13 (by decide) rfl rfl ?_
    refine y_iconst (n := 15) C (0 : Int32) dX6_cheapest_14 (by decide) rfl ?_
    refine y_istore_n (n := 16) (ls' := [(3, .int 0), (2, .int 0), (1, .int (-1)), (0, .ref (E.2.2.2.2.1 + o))]) C dX6_cheapest_15 (by decide) rfl rfl ?_
    refine y_ls [3, 2, 1, 0] rfl ?_
    exact clX6_cheapest_16 C hR hO 4096 w (-1) 0 0
  · refine y_bipush (n := 9) C ((-4) : Int32) dX6_cheapest_7 (by decide) rfl ?_
    exact y_ri C hR dX6_cheapest_9
theorem mX6_cheapest {E : Ex} {o : Nat} (hO : shM E.2.2.2.2.2.1 o) (w : Wd)  (l : Launch) : MI l yX6_cheapest cX6_cheapest 5 (some .int) { frames := 7, cells := 0, slots := 0, locals := 165 } E [.ref (E.2.2.2.2.1 + o)] w (fX6_cheapest w o) :=
  y_met (Qc := yQi E) (by decide +kernel) (Nat.le_of_ble_eq_true rfl) (fun g C hR => eX6_cheapest C hR hO w ) l
def fX6_clearText (w : Wd) (o : Nat)  : Option (Int32 × Wd) :=
  (pI w o 8 0).bind fun w1 =>
  some (w.1 o 8, w1)
set_option maxRecDepth 4000 in
theorem eX6_clearText {g : Gx} {E : Ex} (C : CC g E cX6_clearText 2 RX6 0 0) (hR : RT g (some .int)) {o : Nat} (hO : shM E.2.2.2.2.2.1 o) (w : Wd)  : YO g E 2 (QI g E) (fX6_clearText w o) w 0 [(0, .ref (E.2.2.2.2.1 + o))] [] := by
  unfold fX6_clearText
  refine y_aload_n (n := 1) C dX6_clearText_0 0 rfl rfl ?_
  refine y_get (ci := 6) (f := 8) (n := 4) C in_X6 hO.1 rfl (by decide) wd_739 rfl rfl dX6_clearText_1 rfl ?_
  refine y_istore_n (n := 5) (ls' := [(1, .int (w.1 o 8)), (0, .ref (E.2.2.2.2.1 + o))]) C dX6_clearText_4 (by decide) rfl rfl ?_
  refine y_aload_n (n := 6) C dX6_clearText_5 1 rfl rfl ?_
  refine y_iconst (n := 7) C (0 : Int32) dX6_clearText_6 (by decide) rfl ?_
  refine y_putI (ci := 6) (f := 8) (n := 10) C in_X6 tyX6 tyX6_ok nmX6 hO.1 rfl (by decide) wd_739 rfl rfl (by decide +kernel) (Nat.le_of_ble_eq_true rfl) st_X6_8 dX6_clearText_7 rfl (fun w1 hw1 => ?_)
  refine y_iload_n (n := 11) C dX6_clearText_10 0 rfl rfl ?_
  exact y_ri C hR dX6_clearText_11
theorem mX6_clearText {E : Ex} {o : Nat} (hO : shM E.2.2.2.2.2.1 o) (w : Wd)  (l : Launch) : MI l yX6_clearText cX6_clearText 2 (some .int) { frames := 0, cells := 0, slots := 0, locals := 0 } E [.ref (E.2.2.2.2.1 + o)] w (fX6_clearText w o) :=
  y_met (Qc := yQi E) (by decide +kernel) (Nat.le_of_ble_eq_true rfl) (fun g C hR => eX6_clearText C hR hO w ) l
def fX6_clerk (w : Wd) (o : Nat) (a1 : Int32) (a2 : Int32) : Option (Int32) :=
  (fX6_isList w a1).bind fun v1 =>
  if v1 = 0 then
    some (-1)
  else
    if a2 < 0 then
      some (-2)
    else
      if a2 ≤ 4 then
        (ldI 706 w (o + 1) 559).bind fun v5 =>
        if v5 = 0 then
          some (-4)
        else
          (fX6_isAsked w o a1).bind fun v7 =>
          if v7 = 0 then
            some (-5)
          else
            if a2 = 1 then
              (fX6_toldBound w o a1).bind fun v17 =>
              some v17
            else
              if a2 = 2 then
                (fX6_bound w o a1).bind fun v16 =>
                some v16
              else
                if a2 = 0 then
                  (ldI 706 w (o + 1) (568 + a1)).bind fun v15 =>
                  some v15
                else
                  if a2 = 3 then
                    (ldI 706 w (o + 1) (574 + a1)).bind fun v14 =>
                    some v14
                  else
                    (ldI 706 w (o + 1) (580 + a1)).bind fun v13 =>
                    some v13
      else
        some (-2)
set_option maxRecDepth 4000 in
theorem eX6_clerk {g : Gx} {E : Ex} (C : CC g E cX6_clerk 3 RX6 3 65) (hR : RT g (some .int)) {o : Nat} (hO : shM E.2.2.2.2.2.1 o) (w : Wd) (a1 : Int32) (a2 : Int32) : YO g E 3 (QP g E w) (fX6_clerk w o a1 a2) w 0 [(0, .ref (E.2.2.2.2.1 + o)), (1, .int a1), (2, .int a2)] [] := by
  unfold fX6_clerk
  refine y_iload_n (n := 1) C dX6_clerk_0 1 rfl rfl ?_
  refine y_cp (n := 4) C (fun r hr H locs la hP hS hl => y_runS (st := []) C ky_X6_isList wd_792 ⟨Nat.le_of_ble_eq_true rfl, Nat.le_of_ble_eq_true rfl⟩ (mX6_isList w a1 g.2.1 r hr) rfl (Nat.le_of_ble_eq_true rfl) rfl dX6_clerk_1 hP hS hl) rfl (fun v1 hv1 => ?_)
  refine y_if_ne (tgt := 9) (n := 7) C dX6_clerk_4 (by decide) rfl (fun h2 => ?_) (fun h2 => ?_)
  · refine y_iload_n (n := 10) C dX6_clerk_9 2 rfl rfl ?_
    refine y_if_lt (tgt := 18) (n := 13) C dX6_clerk_10 (by decide) rfl (fun h3 => ?_) (fun h3 => ?_)
    · refine y_bipush (n := 20) C ((-2) : Int32) dX6_clerk_18 (by decide) rfl ?_
      exact y_rp C hR dX6_clerk_20
    · refine y_iload_n (n := 14) C dX6_clerk_13 2 rfl rfl ?_
      refine y_iconst (n := 15) C (4 : Int32) dX6_clerk_14 (by decide) rfl ?_
      refine y_icmp_le (tgt := 21) (n := 18) C dX6_clerk_15 (by decide) rfl (fun h4 => ?_) (fun h4 => ?_)
      · refine y_aload_n (n := 22) C dX6_clerk_21 0 rfl rfl ?_
        refine y_get (ci := 6) (f := 0) (n := 25) C in_X6 hO.1 rfl (by decide) wd_731 rfl rfl dX6_clerk_22 rfl ?_
        refine y_sipush (n := 28) C (559 : Int32) dX6_clerk_25 (by decide) rfl ?_
        refine y_iald (n := 29) C hO.2.1 dX6_clerk_28 rfl (fun v5 hv5 => ?_)
        refine y_if_ne (tgt := 35) (n := 32) C dX6_clerk_29 (by decide) rfl (fun h6 => ?_) (fun h6 => ?_)
        · refine y_aload_n (n := 36) C dX6_clerk_35 0 rfl rfl ?_
          refine y_iload_n (n := 37) C dX6_clerk_36 1 rfl rfl ?_
          refine y_cp (n := 40) C (fun r hr H locs la hP hS hl => y_runV (ci := 6) (st := []) C ky_X6_isAsked wd_889 ⟨Nat.le_of_ble_eq_true rfl, Nat.le_of_ble_eq_true rfl⟩ hO.1 rfl (mX6_isAsked hO w a1 g.2.1 r hr) rfl (Nat.le_of_ble_eq_true rfl) rfl dX6_clerk_37 hP hS hl) rfl (fun v7 hv7 => ?_)
          refine y_if_ne (tgt := 46) (n := 43) C dX6_clerk_40 (by decide) rfl (fun h8 => ?_) (fun h8 => ?_)
          · refine y_iload_n (n := 47) C dX6_clerk_46 2 rfl rfl ?_
            refine y_iconst (n := 48) C (1 : Int32) dX6_clerk_47 (by decide) rfl ?_
            refine y_icmp_ne (tgt := 57) (n := 51) C dX6_clerk_48 (by decide) rfl (fun h9 => ?_) (fun h9 => ?_)
            · refine y_iload_n (n := 58) C dX6_clerk_57 2 rfl rfl ?_
              refine y_iconst (n := 59) C (2 : Int32) dX6_clerk_58 (by decide) rfl ?_
              refine y_icmp_ne (tgt := 68) (n := 62) C dX6_clerk_59 (by decide) rfl (fun h10 => ?_) (fun h10 => ?_)
              · refine y_aload_n (n := 69) C dX6_clerk_68 0 rfl rfl ?_
                refine y_get (ci := 6) (f := 0) (n := 72) C in_X6 hO.1 rfl (by decide) wd_731 rfl rfl dX6_clerk_69 rfl ?_
                refine y_iload_n (n := 73) C dX6_clerk_72 2 rfl rfl ?_
                refine y_if_ne (tgt := 82) (n := 76) C dX6_clerk_73 (by decide) rfl (fun h11 => ?_) (fun h11 => ?_)
                · refine y_iload_n (n := 83) C dX6_clerk_82 2 rfl rfl ?_
                  refine y_iconst (n := 84) C (3 : Int32) dX6_clerk_83 (by decide) rfl ?_
                  refine y_icmp_ne (tgt := 93) (n := 87) C dX6_clerk_84 (by decide) rfl (fun h12 => ?_) (fun h12 => ?_)
                  · refine y_sipush (n := 96) C (580 : Int32) dX6_clerk_93 (by decide) rfl ?_
                    refine y_iload_n (n := 97) C dX6_clerk_96 1 rfl rfl ?_
                    refine y_iadd (n := 98) C dX6_clerk_97 rfl ?_
                    refine y_iald (n := 99) C hO.2.1 dX6_clerk_98 rfl (fun v13 hv13 => ?_)
                    exact y_rp C hR dX6_clerk_99
                  · refine y_sipush (n := 90) C (574 : Int32) dX6_clerk_87 (by decide) rfl ?_
                    refine y_goto (tgt := 96) C dX6_clerk_90 (by decide) ?_
                    refine y_iload_n (n := 97) C dX6_clerk_96 1 rfl rfl ?_
                    refine y_iadd (n := 98) C dX6_clerk_97 rfl ?_
                    refine y_iald (n := 99) C hO.2.1 dX6_clerk_98 rfl (fun v14 hv14 => ?_)
                    exact y_rp C hR dX6_clerk_99
                · refine y_sipush (n := 79) C (568 : Int32) dX6_clerk_76 (by decide) rfl ?_
                  refine y_goto (tgt := 96) C dX6_clerk_79 (by decide) ?_
                  refine y_iload_n (n := 97) C dX6_clerk_96 1 rfl rfl ?_
                  refine y_iadd (n := 98) C dX6_clerk_97 rfl ?_
                  refine y_iald (n := 99) C hO.2.1 dX6_clerk_98 rfl (fun v15 hv15 => ?_)
                  exact y_rp C hR dX6_clerk_99
              · refine y_aload_n (n := 63) C dX6_clerk_62 0 rfl rfl ?_
                refine y_iload_n (n := 64) C dX6_clerk_63 1 rfl rfl ?_
                refine y_cp (n := 67) C (fun r hr H locs la hP hS hl => y_runV (ci := 6) (st := []) C ky_X6_bound wd_945 ⟨Nat.le_of_ble_eq_true rfl, Nat.le_of_ble_eq_true rfl⟩ hO.1 rfl (mX6_bound hO w a1 g.2.1 r hr) rfl (Nat.le_of_ble_eq_true rfl) rfl dX6_clerk_64 hP hS hl) rfl (fun v16 hv16 => ?_)
                exact y_rp C hR dX6_clerk_67
            · refine y_aload_n (n := 52) C dX6_clerk_51 0 rfl rfl ?_
              refine y_iload_n (n := 53) C dX6_clerk_52 1 rfl rfl ?_
              refine y_cp (n := 56) C (fun r hr H locs la hP hS hl => y_runV (ci := 6) (st := []) C ky_X6_toldBound wd_941 ⟨Nat.le_of_ble_eq_true rfl, Nat.le_of_ble_eq_true rfl⟩ hO.1 rfl (mX6_toldBound hO w a1 g.2.1 r hr) rfl (Nat.le_of_ble_eq_true rfl) rfl dX6_clerk_53 hP hS hl) rfl (fun v17 hv17 => ?_)
              exact y_rp C hR dX6_clerk_56
          · refine y_bipush (n := 45) C ((-5) : Int32) dX6_clerk_43 (by decide) rfl ?_
            exact y_rp C hR dX6_clerk_45
        · refine y_bipush (n := 34) C ((-4) : Int32) dX6_clerk_32 (by decide) rfl ?_
          exact y_rp C hR dX6_clerk_34
      · refine y_bipush (n := 20) C ((-2) : Int32) dX6_clerk_18 (by decide) rfl ?_
        exact y_rp C hR dX6_clerk_20
  · refine y_iconst (n := 8) C ((-1) : Int32) dX6_clerk_7 (by decide) rfl ?_
    exact y_rp C hR dX6_clerk_8
theorem mX6_clerk {E : Ex} {o : Nat} (hO : shM E.2.2.2.2.2.1 o) (w : Wd) (a1 : Int32) (a2 : Int32) (l : Launch) : MP l yX6_clerk cX6_clerk 3 (some .int) { frames := 3, cells := 0, slots := 0, locals := 65 } E [.ref (E.2.2.2.2.1 + o), .int a1, .int a2] w (fX6_clerk w o a1 a2) :=
  y_met (Qc := fun r => yQi E (r, w)) (by decide +kernel) (Nat.le_of_ble_eq_true rfl) (fun g C hR => eX6_clerk C hR hO w a1 a2) l
def lX6_entries_4 (o : Nat) : Nat → Wd → Int32 → Int32 → Option (Int32)
  | 0, _, _, _ => none
  | n + 1, w, x1, x2 =>
    if 6 ≤ x2 then
      some x1
    else
      (ldI 706 w (o + 1) (480 + x2)).bind fun v2 =>
      lX6_entries_4 o n w (x1 + v2) (x2 + 1)
set_option maxRecDepth 4000 in
theorem clX6_entries_4 {g : Gx} {E : Ex} (C : CC g E cX6_entries 3 RX6 0 0) (hR : RT g (some .int)) {o : Nat} (hO : shM E.2.2.2.2.2.1 o) (w : Wd) : ∀ (n : Nat) (x1 : Int32) (x2 : Int32), YO g E 3 (QP g E w) (lX6_entries_4 o n w x1 x2) w 4 [(0, .ref (E.2.2.2.2.1 + o)), (1, .int x1), (2, .int x2)] [] := by
  intro n
  induction n with
  | zero => intro x1 x2; exact y_no
  | succ n ih =>
    intro x1 x2
    rw [lX6_entries_4]
    refine y_iload_n (n := 5) C dX6_entries_4 2 rfl rfl ?_
    refine y_bipush (n := 7) C (6 : Int32) dX6_entries_5 (by decide) rfl ?_
    refine y_icmp_ge (tgt := 29) (n := 10) C dX6_entries_7 (by decide) rfl (fun h1 => ?_) (fun h1 => ?_)
    · refine y_iload_n (n := 30) C dX6_entries_29 1 rfl rfl ?_
      exact y_rp C hR dX6_entries_30
    · refine y_iload_n (n := 11) C dX6_entries_10 1 rfl rfl ?_
      refine y_aload_n (n := 12) C dX6_entries_11 0 rfl rfl ?_
      refine y_get (ci := 6) (f := 0) (n := 15) C in_X6 hO.1 rfl (by decide) wd_731 rfl rfl dX6_entries_12 rfl ?_
      refine y_sipush (n := 18) C (480 : Int32) dX6_entries_15 (by decide) rfl ?_
      refine y_iload_n (n := 19) C dX6_entries_18 2 rfl rfl ?_
      refine y_iadd (n := 20) C dX6_entries_19 rfl ?_
      refine y_iald (n := 21) C hO.2.1 dX6_entries_20 rfl (fun v2 hv2 => ?_)
      refine y_iadd (n := 22) C dX6_entries_21 rfl ?_
      refine y_istore_n (n := 23) (ls' := [(1, .int (x1 + v2)), (0, .ref (E.2.2.2.2.1 + o)), (2, .int x2)]) C dX6_entries_22 (by decide) rfl rfl ?_
      refine y_iinc (n := 26) (v := x2 + 1) (ls' := [(2, .int (x2 + 1)), (1, .int (x1 + v2)), (0, .ref (E.2.2.2.2.1 + o))]) C dX6_entries_23 2 rfl rfl (by decide) rfl rfl ?_
      refine y_goto (tgt := 4) C dX6_entries_26 (by decide) ?_
      refine y_ls [2, 1, 0] rfl ?_
      exact ih (x1 + v2) (x2 + 1)
def fX6_entries (w : Wd) (o : Nat)  : Option (Int32) :=
  lX6_entries_4 o 4096 w 0 0
set_option maxRecDepth 4000 in
theorem eX6_entries {g : Gx} {E : Ex} (C : CC g E cX6_entries 3 RX6 0 0) (hR : RT g (some .int)) {o : Nat} (hO : shM E.2.2.2.2.2.1 o) (w : Wd)  : YO g E 3 (QP g E w) (fX6_entries w o) w 0 [(0, .ref (E.2.2.2.2.1 + o))] [] := by
  unfold fX6_entries
  refine y_iconst (n := 1) C (0 : Int32) dX6_entries_0 (by decide) rfl ?_
  refine y_istore_n (n := 2) (ls' := [(1, .int 0), (0, .ref (E.2.2.2.2.1 + o))]) C dX6_entries_1 (by decide) rfl rfl ?_
  refine y_iconst (n := 3) C (0 : Int32) dX6_entries_2 (by decide) rfl ?_
  refine y_istore_n (n := 4) (ls' := [(2, .int 0), (1, .int 0), (0, .ref (E.2.2.2.2.1 + o))]) C dX6_entries_3 (by decide) rfl rfl ?_
  refine y_ls [2, 1, 0] rfl ?_
  exact clX6_entries_4 C hR hO w 4096 0 0
theorem mX6_entries {E : Ex} {o : Nat} (hO : shM E.2.2.2.2.2.1 o) (w : Wd)  (l : Launch) : MP l yX6_entries cX6_entries 3 (some .int) { frames := 0, cells := 0, slots := 0, locals := 0 } E [.ref (E.2.2.2.2.1 + o)] w (fX6_entries w o) :=
  y_met (Qc := fun r => yQi E (r, w)) (by decide +kernel) (Nat.le_of_ble_eq_true rfl) (fun g C hR => eX6_entries C hR hO w ) l
def lX6_wantedMany_4 (o : Nat) : Nat → Wd → Int32 → Int32 → Option (Int32)
  | 0, _, _, _ => none
  | n + 1, w, x1, x2 =>
    if 60 ≤ x2 then
      (ldI 706 w (o + 1) 558).bind fun v2 =>
      if v2 ≤ x1 then
        (ldI 706 w (o + 1) 558).bind fun v4 =>
        some v4
      else
        some x1
    else
      (fX6_mayBeWanted w o x2).bind fun v5 =>
      if v5 = 0 then
        lX6_wantedMany_4 o n w (x1 + 0) (x2 + 1)
      else
        lX6_wantedMany_4 o n w (x1 + 1) (x2 + 1)
set_option maxRecDepth 4000 in
theorem clX6_wantedMany_4 {g : Gx} {E : Ex} (C : CC g E cX6_wantedMany 3 RX6 4 91) (hR : RT g (some .int)) {o : Nat} (hO : shM E.2.2.2.2.2.1 o) (w : Wd) : ∀ (n : Nat) (x1 : Int32) (x2 : Int32), YO g E 3 (QP g E w) (lX6_wantedMany_4 o n w x1 x2) w 4 [(0, .ref (E.2.2.2.2.1 + o)), (1, .int x1), (2, .int x2)] [] := by
  intro n
  induction n with
  | zero => intro x1 x2; exact y_no
  | succ n ih =>
    intro x1 x2
    rw [lX6_wantedMany_4]
    refine y_iload_n (n := 5) C dX6_wantedMany_4 2 rfl rfl ?_
    refine y_bipush (n := 7) C (60 : Int32) dX6_wantedMany_5 (by decide) rfl ?_
    refine y_icmp_ge (tgt := 32) (n := 10) C dX6_wantedMany_7 (by decide) rfl (fun h1 => ?_) (fun h1 => ?_)
    · refine y_iload_n (n := 33) C dX6_wantedMany_32 1 rfl rfl ?_
      refine y_aload_n (n := 34) C dX6_wantedMany_33 0 rfl rfl ?_
      refine y_get (ci := 6) (f := 0) (n := 37) C in_X6 hO.1 rfl (by decide) wd_731 rfl rfl dX6_wantedMany_34 rfl ?_
      refine y_sipush (n := 40) C (558 : Int32) dX6_wantedMany_37 (by decide) rfl ?_
      refine y_iald (n := 41) C hO.2.1 dX6_wantedMany_40 rfl (fun v2 hv2 => ?_)
      refine y_icmp_ge (tgt := 48) (n := 44) C dX6_wantedMany_41 (by decide) rfl (fun h3 => ?_) (fun h3 => ?_)
      · refine y_aload_n (n := 49) C dX6_wantedMany_48 0 rfl rfl ?_
        refine y_get (ci := 6) (f := 0) (n := 52) C in_X6 hO.1 rfl (by decide) wd_731 rfl rfl dX6_wantedMany_49 rfl ?_
        refine y_sipush (n := 55) C (558 : Int32) dX6_wantedMany_52 (by decide) rfl ?_
        refine y_iald (n := 56) C hO.2.1 dX6_wantedMany_55 rfl (fun v4 hv4 => ?_)
        exact y_rp C hR dX6_wantedMany_56
      · refine y_iload_n (n := 45) C dX6_wantedMany_44 1 rfl rfl ?_
        refine y_goto (tgt := 56) C dX6_wantedMany_45 (by decide) ?_
        exact y_rp C hR dX6_wantedMany_56
    · refine y_iload_n (n := 11) C dX6_wantedMany_10 1 rfl rfl ?_
      refine y_aload_n (n := 12) C dX6_wantedMany_11 0 rfl rfl ?_
      refine y_iload_n (n := 13) C dX6_wantedMany_12 2 rfl rfl ?_
      refine y_cp (n := 16) C (fun r hr H locs la hP hS hl => y_runV (ci := 6) (st := [.int x1]) C ky_X6_mayBeWanted wd_857 ⟨Nat.le_of_ble_eq_true rfl, Nat.le_of_ble_eq_true rfl⟩ hO.1 rfl (mX6_mayBeWanted hO w x2 g.2.1 r hr) rfl (Nat.le_of_ble_eq_true rfl) rfl dX6_wantedMany_13 hP hS hl) rfl (fun v5 hv5 => ?_)
      refine y_if_eq (tgt := 23) (n := 19) C dX6_wantedMany_16 (by decide) rfl (fun h6 => ?_) (fun h6 => ?_)
      · refine y_iconst (n := 24) C (0 : Int32) dX6_wantedMany_23 (by decide) rfl ?_
        refine y_iadd (n := 25) C dX6_wantedMany_24 rfl ?_
        refine y_istore_n (n := 26) (ls' := [(1, .int (x1 + 0)), (0, .ref (E.2.2.2.2.1 + o)), (2, .int x2)]) C dX6_wantedMany_25 (by decide) rfl rfl ?_
        refine y_iinc (n := 29) (v := x2 + 1) (ls' := [(2, .int (x2 + 1)), (1, .int (x1 + 0)), (0, .ref (E.2.2.2.2.1 + o))]) C dX6_wantedMany_26 2 rfl rfl (by decide) rfl rfl ?_
        refine y_goto (tgt := 4) C dX6_wantedMany_29 (by decide) ?_
        refine y_ls [2, 1, 0] rfl ?_
        exact ih (x1 + 0) (x2 + 1)
      · refine y_iconst (n := 20) C (1 : Int32) dX6_wantedMany_19 (by decide) rfl ?_
        refine y_goto (tgt := 24) C dX6_wantedMany_20 (by decide) ?_
        refine y_iadd (n := 25) C dX6_wantedMany_24 rfl ?_
        refine y_istore_n (n := 26) (ls' := [(1, .int (x1 + 1)), (0, .ref (E.2.2.2.2.1 + o)), (2, .int x2)]) C dX6_wantedMany_25 (by decide) rfl rfl ?_
        refine y_iinc (n := 29) (v := x2 + 1) (ls' := [(2, .int (x2 + 1)), (1, .int (x1 + 1)), (0, .ref (E.2.2.2.2.1 + o))]) C dX6_wantedMany_26 2 rfl rfl (by decide) rfl rfl ?_
        refine y_goto (tgt := 4) C dX6_wantedMany_29 (by decide) ?_
        refine y_ls [2, 1, 0] rfl ?_
        exact ih (x1 + 1) (x2 + 1)
def fX6_wantedMany (w : Wd) (o : Nat)  : Option (Int32) :=
  lX6_wantedMany_4 o 4096 w 0 0
set_option maxRecDepth 4000 in
theorem eX6_wantedMany {g : Gx} {E : Ex} (C : CC g E cX6_wantedMany 3 RX6 4 91) (hR : RT g (some .int)) {o : Nat} (hO : shM E.2.2.2.2.2.1 o) (w : Wd)  : YO g E 3 (QP g E w) (fX6_wantedMany w o) w 0 [(0, .ref (E.2.2.2.2.1 + o))] [] := by
  unfold fX6_wantedMany
  refine y_iconst (n := 1) C (0 : Int32) dX6_wantedMany_0 (by decide) rfl ?_
  refine y_istore_n (n := 2) (ls' := [(1, .int 0), (0, .ref (E.2.2.2.2.1 + o))]) C dX6_wantedMany_1 (by decide) rfl rfl ?_
  refine y_iconst (n := 3) C (0 : Int32) dX6_wantedMany_2 (by decide) rfl ?_
  refine y_istore_n (n := 4) (ls' := [(2, .int 0), (1, .int 0), (0, .ref (E.2.2.2.2.1 + o))]) C dX6_wantedMany_3 (by decide) rfl rfl ?_
  refine y_ls [2, 1, 0] rfl ?_
  exact clX6_wantedMany_4 C hR hO w 4096 0 0
theorem mX6_wantedMany {E : Ex} {o : Nat} (hO : shM E.2.2.2.2.2.1 o) (w : Wd)  (l : Launch) : MP l yX6_wantedMany cX6_wantedMany 3 (some .int) { frames := 4, cells := 0, slots := 0, locals := 91 } E [.ref (E.2.2.2.2.1 + o)] w (fX6_wantedMany w o) :=
  y_met (Qc := fun r => yQi E (r, w)) (by decide +kernel) (Nat.le_of_ble_eq_true rfl) (fun g C hR => eX6_wantedMany C hR hO w ) l
def lX6_count_87 (o : Nat) : Nat → Wd → Int32 → Int32 → Option (Int32)
  | 0, _, _, _ => none
  | n + 1, w, x2, x3 =>
    if 60 ≤ x3 then
      some x2
    else
      (ldI 706 w (o + 1) (498 + x3)).bind fun v11 =>
      lX6_count_87 o n w (x2 + v11) (x3 + 1)
set_option maxRecDepth 4000 in
theorem clX6_count_87 {g : Gx} {E : Ex} (C : CC g E cX6_count 4 RX6 5 113) (hR : RT g (some .int)) {o : Nat} (hO : shM E.2.2.2.2.2.1 o) (w : Wd) : ∀ (n : Nat) (x2 : Int32) (x3 : Int32), YO g E 4 (QP g E w) (lX6_count_87 o n w x2 x3) w 87 [(0, .ref (E.2.2.2.2.1 + o)), (2, .int x2), (3, .int x3)] [] := by
  intro n
  induction n with
  | zero => intro x2 x3; exact y_no
  | succ n ih =>
    intro x2 x3
    rw [lX6_count_87]
    refine y_iload_n (n := 88) C dX6_count_87 2 rfl rfl ?_
    refine y_bipush (n := 90) C (60 : Int32) dX6_count_88 (by decide) rfl ?_
    refine y_icmp_ge (tgt := 112) (n := 93) C dX6_count_90 (by decide) rfl (fun h10 => ?_) (fun h10 => ?_)
    · refine y_iload_n (n := 113) C dX6_count_112 1 rfl rfl ?_
      exact y_rp C hR dX6_count_113
    · refine y_iload_n (n := 94) C dX6_count_93 1 rfl rfl ?_
      refine y_aload_n (n := 95) C dX6_count_94 0 rfl rfl ?_
      refine y_get (ci := 6) (f := 0) (n := 98) C in_X6 hO.1 rfl (by decide) wd_731 rfl rfl dX6_count_95 rfl ?_
      refine y_sipush (n := 101) C (498 : Int32) dX6_count_98 (by decide) rfl ?_
      refine y_iload_n (n := 102) C dX6_count_101 2 rfl rfl ?_
      refine y_iadd (n := 103) C dX6_count_102 rfl ?_
      refine y_iald (n := 104) C hO.2.1 dX6_count_103 rfl (fun v11 hv11 => ?_)
      refine y_iadd (n := 105) C dX6_count_104 rfl ?_
      refine y_istore_n (n := 106) (ls' := [(2, .int (x2 + v11)), (0, .ref (E.2.2.2.2.1 + o)), (3, .int x3)]) C dX6_count_105 (by decide) rfl rfl ?_
      refine y_iinc (n := 109) (v := x3 + 1) (ls' := [(3, .int (x3 + 1)), (2, .int (x2 + v11)), (0, .ref (E.2.2.2.2.1 + o))]) C dX6_count_106 2 rfl rfl (by decide) rfl rfl ?_
      refine y_goto (tgt := 87) C dX6_count_109 (by decide) ?_
      refine y_ls [2, 1, 0] rfl ?_
      exact ih (x2 + v11) (x3 + 1)
def fX6_count (w : Wd) (o : Nat) (a1 : Int32) : Option (Int32) :=
  if a1 < 0 then
    some (-2)
  else
    if a1 ≤ 9 then
      if a1 = 0 then
        (fX6_entries w o).bind fun v4 =>
        some v4
      else
      if a1 = 1 then
        (fX6_asked w o).bind fun v6 =>
        some v6
      else
      if a1 = 2 then
        (ldI 706 w (o + 1) 558).bind fun v8 =>
        some v8
      else
      if a1 = 3 then
        lX6_count_87 o 4096 w 0 0
      else
      if a1 = 4 then
        (fX6_wantedMany w o).bind fun v13 =>
        some v13
      else
      if a1 = 5 then
        (ldI 706 w (o + 1) 559).bind fun v15 =>
        some v15
      else
      if a1 = 6 then
        (ldI 706 w (o + 1) 566).bind fun v17 =>
        some v17
      else
      if a1 = 7 then
        (ldI 706 w (o + 1) 567).bind fun v19 =>
        some v19
      else
      if a1 = 8 then
        some (w.1 o 5)
      else
      some (w.1 o 8)
    else
      some (-2)
set_option maxRecDepth 4000 in
theorem eX6_count {g : Gx} {E : Ex} (C : CC g E cX6_count 4 RX6 5 113) (hR : RT g (some .int)) {o : Nat} (hO : shM E.2.2.2.2.2.1 o) (w : Wd) (a1 : Int32) : YO g E 4 (QP g E w) (fX6_count w o a1) w 0 [(0, .ref (E.2.2.2.2.1 + o)), (1, .int a1)] [] := by
  unfold fX6_count
  refine y_iload_n (n := 1) C dX6_count_0 1 rfl rfl ?_
  refine y_if_lt (tgt := 10) (n := 4) C dX6_count_1 (by decide) rfl (fun h1 => ?_) (fun h1 => ?_)
  · refine y_bipush (n := 12) C ((-2) : Int32) dX6_count_10 (by decide) rfl ?_
    exact y_rp C hR dX6_count_12
  · refine y_iload_n (n := 5) C dX6_count_4 1 rfl rfl ?_
    refine y_bipush (n := 7) C (9 : Int32) dX6_count_5 (by decide) rfl ?_
    refine y_icmp_le (tgt := 13) (n := 10) C dX6_count_7 (by decide) rfl (fun h2 => ?_) (fun h2 => ?_)
    · refine y_iload_n (n := 14) C dX6_count_13 1 rfl rfl ?_
      refine y_if (fun h3 => ?_) (fun h3 => ?_)
      · refine y_swIn (tgt := 64) C 50 dX6_count_14 (by rw [h3]; decide) (by rw [h3]; decide) (by rw [h3]; rfl) (by decide) ?_
        refine y_aload_n (n := 65) C dX6_count_64 0 rfl rfl ?_
        refine y_cp (n := 68) C (fun r hr H locs la hP hS hl => y_runV (ci := 6) (st := []) C ky_X6_entries wd_776 ⟨Nat.le_of_ble_eq_true rfl, Nat.le_of_ble_eq_true rfl⟩ hO.1 rfl (mX6_entries hO w g.2.1 r hr) rfl (Nat.le_of_ble_eq_true rfl) rfl dX6_count_65 hP hS hl) rfl (fun v4 hv4 => ?_)
        exact y_rp C hR dX6_count_68
      refine y_if (fun h5 => ?_) (fun h5 => ?_)
      · refine y_swIn (tgt := 69) C 55 dX6_count_14 (by rw [h5]; decide) (by rw [h5]; decide) (by rw [h5]; rfl) (by decide) ?_
        refine y_aload_n (n := 70) C dX6_count_69 0 rfl rfl ?_
        refine y_cp (n := 73) C (fun r hr H locs la hP hS hl => y_runV (ci := 6) (st := []) C ky_X6_asked wd_885 ⟨Nat.le_of_ble_eq_true rfl, Nat.le_of_ble_eq_true rfl⟩ hO.1 rfl (mX6_asked hO w g.2.1 r hr) rfl (Nat.le_of_ble_eq_true rfl) rfl dX6_count_70 hP hS hl) rfl (fun v6 hv6 => ?_)
        exact y_rp C hR dX6_count_73
      refine y_if (fun h7 => ?_) (fun h7 => ?_)
      · refine y_swIn (tgt := 74) C 60 dX6_count_14 (by rw [h7]; decide) (by rw [h7]; decide) (by rw [h7]; rfl) (by decide) ?_
        refine y_aload_n (n := 75) C dX6_count_74 0 rfl rfl ?_
        refine y_get (ci := 6) (f := 0) (n := 78) C in_X6 hO.1 rfl (by decide) wd_731 rfl rfl dX6_count_75 rfl ?_
        refine y_sipush (n := 81) C (558 : Int32) dX6_count_78 (by decide) rfl ?_
        refine y_iald (n := 82) C hO.2.1 dX6_count_81 rfl (fun v8 hv8 => ?_)
        exact y_rp C hR dX6_count_82
      refine y_if (fun h9 => ?_) (fun h9 => ?_)
      · refine y_swIn (tgt := 83) C 69 dX6_count_14 (by rw [h9]; decide) (by rw [h9]; decide) (by rw [h9]; rfl) (by decide) ?_
        refine y_iconst (n := 84) C (0 : Int32) dX6_count_83 (by decide) rfl ?_
        refine y_istore_n (n := 85) (ls' := [(2, .int 0), (0, .ref (E.2.2.2.2.1 + o)), (1, .int a1)]) C dX6_count_84 (by decide) rfl rfl ?_
        refine y_iconst (n := 86) C (0 : Int32) dX6_count_85 (by decide) rfl ?_
        refine y_istore_n (n := 87) (ls' := [(3, .int 0), (2, .int 0), (0, .ref (E.2.2.2.2.1 + o)), (1, .int a1)]) C dX6_count_86 (by decide) rfl rfl ?_
        refine y_ls [2, 1, 0] rfl ?_
        exact clX6_count_87 C hR hO w 4096 0 0
      refine y_if (fun h12 => ?_) (fun h12 => ?_)
      · refine y_swIn (tgt := 114) C 100 dX6_count_14 (by rw [h12]; decide) (by rw [h12]; decide) (by rw [h12]; rfl) (by decide) ?_
        refine y_aload_n (n := 115) C dX6_count_114 0 rfl rfl ?_
        refine y_cp (n := 118) C (fun r hr H locs la hP hS hl => y_runV (ci := 6) (st := []) C ky_X6_wantedMany wd_1033 ⟨Nat.le_of_ble_eq_true rfl, Nat.le_of_ble_eq_true rfl⟩ hO.1 rfl (mX6_wantedMany hO w g.2.1 r hr) rfl (Nat.le_of_ble_eq_true rfl) rfl dX6_count_115 hP hS hl) rfl (fun v13 hv13 => ?_)
        exact y_rp C hR dX6_count_118
      refine y_if (fun h14 => ?_) (fun h14 => ?_)
      · refine y_swIn (tgt := 119) C 105 dX6_count_14 (by rw [h14]; decide) (by rw [h14]; decide) (by rw [h14]; rfl) (by decide) ?_
        refine y_aload_n (n := 120) C dX6_count_119 0 rfl rfl ?_
        refine y_get (ci := 6) (f := 0) (n := 123) C in_X6 hO.1 rfl (by decide) wd_731 rfl rfl dX6_count_120 rfl ?_
        refine y_sipush (n := 126) C (559 : Int32) dX6_count_123 (by decide) rfl ?_
        refine y_iald (n := 127) C hO.2.1 dX6_count_126 rfl (fun v15 hv15 => ?_)
        exact y_rp C hR dX6_count_127
      refine y_if (fun h16 => ?_) (fun h16 => ?_)
      · refine y_swIn (tgt := 128) C 114 dX6_count_14 (by rw [h16]; decide) (by rw [h16]; decide) (by rw [h16]; rfl) (by decide) ?_
        refine y_aload_n (n := 129) C dX6_count_128 0 rfl rfl ?_
        refine y_get (ci := 6) (f := 0) (n := 132) C in_X6 hO.1 rfl (by decide) wd_731 rfl rfl dX6_count_129 rfl ?_
        refine y_sipush (n := 135) C (566 : Int32) dX6_count_132 (by decide) rfl ?_
        refine y_iald (n := 136) C hO.2.1 dX6_count_135 rfl (fun v17 hv17 => ?_)
        exact y_rp C hR dX6_count_136
      refine y_if (fun h18 => ?_) (fun h18 => ?_)
      · refine y_swIn (tgt := 137) C 123 dX6_count_14 (by rw [h18]; decide) (by rw [h18]; decide) (by rw [h18]; rfl) (by decide) ?_
        refine y_aload_n (n := 138) C dX6_count_137 0 rfl rfl ?_
        refine y_get (ci := 6) (f := 0) (n := 141) C in_X6 hO.1 rfl (by decide) wd_731 rfl rfl dX6_count_138 rfl ?_
        refine y_sipush (n := 144) C (567 : Int32) dX6_count_141 (by decide) rfl ?_
        refine y_iald (n := 145) C hO.2.1 dX6_count_144 rfl (fun v19 hv19 => ?_)
        exact y_rp C hR dX6_count_145
      refine y_if (fun h20 => ?_) (fun h20 => ?_)
      · refine y_swIn (tgt := 146) C 132 dX6_count_14 (by rw [h20]; decide) (by rw [h20]; decide) (by rw [h20]; rfl) (by decide) ?_
        refine y_aload_n (n := 147) C dX6_count_146 0 rfl rfl ?_
        refine y_get (ci := 6) (f := 5) (n := 150) C in_X6 hO.1 rfl (by decide) wd_736 rfl rfl dX6_count_147 rfl ?_
        exact y_rp C hR dX6_count_150
      refine y_swOut (tgt := 151) C dX6_count_14 (by have gh3 := sw_ne (k := 0) (by decide) h3; have gh5 := sw_ne (k := 1) (by decide) h5; have gh7 := sw_ne (k := 2) (by decide) h7; have gh9 := sw_ne (k := 3) (by decide) h9; have gh12 := sw_ne (k := 4) (by decide) h12; have gh14 := sw_ne (k := 5) (by decide) h14; have gh16 := sw_ne (k := 6) (by decide) h16; have gh18 := sw_ne (k := 7) (by decide) h18; have gh20 := sw_ne (k := 8) (by decide) h20; omega) (by decide) ?_
      refine y_aload_n (n := 152) C dX6_count_151 0 rfl rfl ?_
      refine y_get (ci := 6) (f := 8) (n := 155) C in_X6 hO.1 rfl (by decide) wd_739 rfl rfl dX6_count_152 rfl ?_
      exact y_rp C hR dX6_count_155
    · refine y_bipush (n := 12) C ((-2) : Int32) dX6_count_10 (by decide) rfl ?_
      exact y_rp C hR dX6_count_12
theorem mX6_count {E : Ex} {o : Nat} (hO : shM E.2.2.2.2.2.1 o) (w : Wd) (a1 : Int32) (l : Launch) : MP l yX6_count cX6_count 4 (some .int) { frames := 5, cells := 0, slots := 0, locals := 113 } E [.ref (E.2.2.2.2.1 + o), .int a1] w (fX6_count w o a1) :=
  y_met (Qc := fun r => yQi E (r, w)) (by decide +kernel) (Nat.le_of_ble_eq_true rfl) (fun g C hR => eX6_count C hR hO w a1) l
def fX6_delete (w : Wd) (o : Nat) (a1 : Int32) : Option (Int32 × Wd) :=
  ob2 (fX6_gone w o a1 1) fun v1 w2 =>
  some (v1, w2)
set_option maxRecDepth 4000 in
theorem eX6_delete {g : Gx} {E : Ex} (C : CC g E cX6_delete 2 RX6 3 69) (hR : RT g (some .int)) {o : Nat} (hO : shM E.2.2.2.2.2.1 o) (w : Wd) (a1 : Int32) : YO g E 2 (QI g E) (fX6_delete w o a1) w 0 [(0, .ref (E.2.2.2.2.1 + o)), (1, .int a1)] [] := by
  unfold fX6_delete
  refine y_aload_n (n := 1) C dX6_delete_0 0 rfl rfl ?_
  refine y_iload_n (n := 2) C dX6_delete_1 1 rfl rfl ?_
  refine y_iconst (n := 3) C (1 : Int32) dX6_delete_2 (by decide) rfl ?_
  refine y_ci2 (n := 6) C (fun r hr H locs la hP hS hl => y_runV (ci := 6) (st := []) C ky_X6_gone wd_818 ⟨Nat.le_of_ble_eq_true rfl, Nat.le_of_ble_eq_true rfl⟩ hO.1 rfl (mX6_gone hO w a1 1 g.2.1 r hr) rfl (Nat.le_of_ble_eq_true rfl) rfl dX6_delete_3 hP hS hl) rfl (fun v1 w2 hv1 => ?_)
  exact y_ri C hR dX6_delete_6
theorem mX6_delete {E : Ex} {o : Nat} (hO : shM E.2.2.2.2.2.1 o) (w : Wd) (a1 : Int32) (l : Launch) : MI l yX6_delete cX6_delete 2 (some .int) { frames := 3, cells := 0, slots := 0, locals := 69 } E [.ref (E.2.2.2.2.1 + o), .int a1] w (fX6_delete w o a1) :=
  y_met (Qc := yQi E) (by decide +kernel) (Nat.le_of_ble_eq_true rfl) (fun g C hR => eX6_delete C hR hO w a1) l
def fX6_document (w : Wd) (o : Nat) (a1 : Int32) (a2 : Int32) : Option (Int32) :=
  (fX6_isDocument w a1).bind fun v1 =>
  if v1 = 0 then
    some (-1)
  else
    if a2 < 0 then
      some (-2)
    else
      if a2 ≤ 3 then
        if a2 = 0 then
          (ldI 706 w (o + 1) (498 + a1)).bind fun v12 =>
          some v12
        else
          if a2 = 1 then
            (fX6_value w o a1).bind fun v11 =>
            some v11
          else
            if a2 = 2 then
              (fX6_listsOf w o a1).bind fun v10 =>
              some v10
            else
              (fX6_wantedPlace w o a1).bind fun v8 =>
              if 0 ≤ v8 then
                some v8
              else
                some (-5)
      else
        some (-2)
set_option maxRecDepth 4000 in
theorem eX6_document {g : Gx} {E : Ex} (C : CC g E cX6_document 4 RX6 5 116) (hR : RT g (some .int)) {o : Nat} (hO : shM E.2.2.2.2.2.1 o) (w : Wd) (a1 : Int32) (a2 : Int32) : YO g E 4 (QP g E w) (fX6_document w o a1 a2) w 0 [(0, .ref (E.2.2.2.2.1 + o)), (1, .int a1), (2, .int a2)] [] := by
  unfold fX6_document
  refine y_iload_n (n := 1) C dX6_document_0 1 rfl rfl ?_
  refine y_cp (n := 4) C (fun r hr H locs la hP hS hl => y_runS (st := []) C ky_X6_isDocument wd_795 ⟨Nat.le_of_ble_eq_true rfl, Nat.le_of_ble_eq_true rfl⟩ (mX6_isDocument w a1 g.2.1 r hr) rfl (Nat.le_of_ble_eq_true rfl) rfl dX6_document_1 hP hS hl) rfl (fun v1 hv1 => ?_)
  refine y_if_ne (tgt := 9) (n := 7) C dX6_document_4 (by decide) rfl (fun h2 => ?_) (fun h2 => ?_)
  · refine y_iload_n (n := 10) C dX6_document_9 2 rfl rfl ?_
    refine y_if_lt (tgt := 18) (n := 13) C dX6_document_10 (by decide) rfl (fun h3 => ?_) (fun h3 => ?_)
    · refine y_bipush (n := 20) C ((-2) : Int32) dX6_document_18 (by decide) rfl ?_
      exact y_rp C hR dX6_document_20
    · refine y_iload_n (n := 14) C dX6_document_13 2 rfl rfl ?_
      refine y_iconst (n := 15) C (3 : Int32) dX6_document_14 (by decide) rfl ?_
      refine y_icmp_le (tgt := 21) (n := 18) C dX6_document_15 (by decide) rfl (fun h4 => ?_) (fun h4 => ?_)
      · refine y_iload_n (n := 22) C dX6_document_21 2 rfl rfl ?_
        refine y_if_ne (tgt := 36) (n := 25) C dX6_document_22 (by decide) rfl (fun h5 => ?_) (fun h5 => ?_)
        · refine y_iload_n (n := 37) C dX6_document_36 2 rfl rfl ?_
          refine y_iconst (n := 38) C (1 : Int32) dX6_document_37 (by decide) rfl ?_
          refine y_icmp_ne (tgt := 47) (n := 41) C dX6_document_38 (by decide) rfl (fun h6 => ?_) (fun h6 => ?_)
          · refine y_iload_n (n := 48) C dX6_document_47 2 rfl rfl ?_
            refine y_iconst (n := 49) C (2 : Int32) dX6_document_48 (by decide) rfl ?_
            refine y_icmp_ne (tgt := 58) (n := 52) C dX6_document_49 (by decide) rfl (fun h7 => ?_) (fun h7 => ?_)
            · refine y_aload_n (n := 59) C dX6_document_58 0 rfl rfl ?_
              refine y_iload_n (n := 60) C dX6_document_59 1 rfl rfl ?_
              refine y_cp (n := 63) C (fun r hr H locs la hP hS hl => y_runV (ci := 6) (st := []) C ky_X6_wantedPlace wd_853 ⟨Nat.le_of_ble_eq_true rfl, Nat.le_of_ble_eq_true rfl⟩ hO.1 rfl (mX6_wantedPlace hO w a1 g.2.1 r hr) rfl (Nat.le_of_ble_eq_true rfl) rfl dX6_document_60 hP hS hl) rfl (fun v8 hv8 => ?_)
              refine y_istore_n (n := 64) (ls' := [(3, .int v8), (0, .ref (E.2.2.2.2.1 + o)), (1, .int a1), (2, .int a2)]) C dX6_document_63 (by decide) rfl rfl ?_
              refine y_iload_n (n := 65) C dX6_document_64 0 rfl rfl ?_
              refine y_if_ge (tgt := 73) (n := 68) C dX6_document_65 (by decide) rfl (fun h9 => ?_) (fun h9 => ?_)
              · refine y_iload_n (n := 74) C dX6_document_73 0 rfl rfl ?_
                exact y_rp C hR dX6_document_74
              · refine y_bipush (n := 70) C ((-5) : Int32) dX6_document_68 (by decide) rfl ?_
                refine y_goto (tgt := 74) C dX6_document_70 (by decide) ?_
                exact y_rp C hR dX6_document_74
            · refine y_aload_n (n := 53) C dX6_document_52 0 rfl rfl ?_
              refine y_iload_n (n := 54) C dX6_document_53 1 rfl rfl ?_
              refine y_cp (n := 57) C (fun r hr H locs la hP hS hl => y_runV (ci := 6) (st := []) C ky_X6_listsOf wd_822 ⟨Nat.le_of_ble_eq_true rfl, Nat.le_of_ble_eq_true rfl⟩ hO.1 rfl (mX6_listsOf hO w a1 g.2.1 r hr) rfl (Nat.le_of_ble_eq_true rfl) rfl dX6_document_54 hP hS hl) rfl (fun v10 hv10 => ?_)
              exact y_rp C hR dX6_document_57
          · refine y_aload_n (n := 42) C dX6_document_41 0 rfl rfl ?_
            refine y_iload_n (n := 43) C dX6_document_42 1 rfl rfl ?_
            refine y_cp (n := 46) C (fun r hr H locs la hP hS hl => y_runV (ci := 6) (st := []) C ky_X6_value wd_861 ⟨Nat.le_of_ble_eq_true rfl, Nat.le_of_ble_eq_true rfl⟩ hO.1 rfl (mX6_value hO w a1 g.2.1 r hr) rfl (Nat.le_of_ble_eq_true rfl) rfl dX6_document_43 hP hS hl) rfl (fun v11 hv11 => ?_)
            exact y_rp C hR dX6_document_46
        · refine y_aload_n (n := 26) C dX6_document_25 0 rfl rfl ?_
          refine y_get (ci := 6) (f := 0) (n := 29) C in_X6 hO.1 rfl (by decide) wd_731 rfl rfl dX6_document_26 rfl ?_
          refine y_sipush (n := 32) C (498 : Int32) dX6_document_29 (by decide) rfl ?_
          refine y_iload_n (n := 33) C dX6_document_32 1 rfl rfl ?_
          refine y_iadd (n := 34) C dX6_document_33 rfl ?_
          refine y_iald (n := 35) C hO.2.1 dX6_document_34 rfl (fun v12 hv12 => ?_)
          exact y_rp C hR dX6_document_35
      · refine y_bipush (n := 20) C ((-2) : Int32) dX6_document_18 (by decide) rfl ?_
        exact y_rp C hR dX6_document_20
  · refine y_iconst (n := 8) C ((-1) : Int32) dX6_document_7 (by decide) rfl ?_
    exact y_rp C hR dX6_document_8
theorem mX6_document {E : Ex} {o : Nat} (hO : shM E.2.2.2.2.2.1 o) (w : Wd) (a1 : Int32) (a2 : Int32) (l : Launch) : MP l yX6_document cX6_document 4 (some .int) { frames := 5, cells := 0, slots := 0, locals := 116 } E [.ref (E.2.2.2.2.1 + o), .int a1, .int a2] w (fX6_document w o a1 a2) :=
  y_met (Qc := fun r => yQi E (r, w)) (by decide +kernel) (Nat.le_of_ble_eq_true rfl) (fun g C hR => eX6_document C hR hO w a1 a2) l
def fX6_drop (w : Wd) (o : Nat) (a1 : Int32) (a2 : Int32) : Option (Int32 × Wd) :=
  (fX6_isList w a1).bind fun v1 =>
  if v1 = 0 then
    some ((-1), w)
  else
    (fX6_isDocument w a2).bind fun v3 =>
    if v3 = 0 then
      some ((-1), w)
    else
      (fX6_placeOf w o a1 a2).bind fun v5 =>
      if 0 ≤ v5 then
        (ldI 706 w (o + 1) 559).bind fun v7 =>
        if v7 = 1 then
          some ((-4), w)
        else
          (fX6_record w o).bind fun w9 =>
          (fX6_takeOut w9 o a1 v5).bind fun w10 =>
          (ldI 706 w10 (o + 1) (480 + a1)).bind fun v11 =>
          some (v11, w10)
      else
        some ((-1), w)
set_option maxRecDepth 4000 in
theorem eX6_drop {g : Gx} {E : Ex} (C : CC g E cX6_drop 4 RX6 1 24) (hR : RT g (some .int)) {o : Nat} (hO : shM E.2.2.2.2.2.1 o) (w : Wd) (a1 : Int32) (a2 : Int32) : YO g E 4 (QI g E) (fX6_drop w o a1 a2) w 0 [(0, .ref (E.2.2.2.2.1 + o)), (1, .int a1), (2, .int a2)] [] := by
  unfold fX6_drop
  refine y_iload_n (n := 1) C dX6_drop_0 1 rfl rfl ?_
  refine y_cp (n := 4) C (fun r hr H locs la hP hS hl => y_runS (st := []) C ky_X6_isList wd_792 ⟨Nat.le_of_ble_eq_true rfl, Nat.le_of_ble_eq_true rfl⟩ (mX6_isList w a1 g.2.1 r hr) rfl (Nat.le_of_ble_eq_true rfl) rfl dX6_drop_1 hP hS hl) rfl (fun v1 hv1 => ?_)
  refine y_if_eq (tgt := 14) (n := 7) C dX6_drop_4 (by decide) rfl (fun h2 => ?_) (fun h2 => ?_)
  · refine y_iconst (n := 15) C ((-1) : Int32) dX6_drop_14 (by decide) rfl ?_
    exact y_ri C hR dX6_drop_15
  · refine y_iload_n (n := 8) C dX6_drop_7 2 rfl rfl ?_
    refine y_cp (n := 11) C (fun r hr H locs la hP hS hl => y_runS (st := []) C ky_X6_isDocument wd_795 ⟨Nat.le_of_ble_eq_true rfl, Nat.le_of_ble_eq_true rfl⟩ (mX6_isDocument w a2 g.2.1 r hr) rfl (Nat.le_of_ble_eq_true rfl) rfl dX6_drop_8 hP hS hl) rfl (fun v3 hv3 => ?_)
    refine y_if_ne (tgt := 16) (n := 14) C dX6_drop_11 (by decide) rfl (fun h4 => ?_) (fun h4 => ?_)
    · refine y_aload_n (n := 17) C dX6_drop_16 0 rfl rfl ?_
      refine y_iload_n (n := 18) C dX6_drop_17 1 rfl rfl ?_
      refine y_iload_n (n := 19) C dX6_drop_18 2 rfl rfl ?_
      refine y_cp (n := 22) C (fun r hr H locs la hP hS hl => y_runV (ci := 6) (st := []) C ky_X6_placeOf wd_798 ⟨Nat.le_of_ble_eq_true rfl, Nat.le_of_ble_eq_true rfl⟩ hO.1 rfl (mX6_placeOf hO w a1 a2 g.2.1 r hr) rfl (Nat.le_of_ble_eq_true rfl) rfl dX6_drop_19 hP hS hl) rfl (fun v5 hv5 => ?_)
      refine y_istore_n (n := 23) (ls' := [(3, .int v5), (0, .ref (E.2.2.2.2.1 + o)), (1, .int a1), (2, .int a2)]) C dX6_drop_22 (by decide) rfl rfl ?_
      refine y_iload_n (n := 24) C dX6_drop_23 0 rfl rfl ?_
      refine y_if_ge (tgt := 29) (n := 27) C dX6_drop_24 (by decide) rfl (fun h6 => ?_) (fun h6 => ?_)
      · refine y_aload_n (n := 30) C dX6_drop_29 1 rfl rfl ?_
        refine y_get (ci := 6) (f := 0) (n := 33) C in_X6 hO.1 rfl (by decide) wd_731 rfl rfl dX6_drop_30 rfl ?_
        refine y_sipush (n := 36) C (559 : Int32) dX6_drop_33 (by decide) rfl ?_
        refine y_iald (n := 37) C hO.2.1 dX6_drop_36 rfl (fun v7 hv7 => ?_)
        refine y_iconst (n := 38) C (1 : Int32) dX6_drop_37 (by decide) rfl ?_
        refine y_icmp_ne (tgt := 44) (n := 41) C dX6_drop_38 (by decide) rfl (fun h8 => ?_) (fun h8 => ?_)
        · refine y_aload_n (n := 45) C dX6_drop_44 1 rfl rfl ?_
          refine y_cv (n := 48) C (fun r hr H locs la hP hS hl => y_runV (ci := 6) (st := []) C ky_X6_record wd_784 ⟨Nat.le_of_ble_eq_true rfl, Nat.le_of_ble_eq_true rfl⟩ hO.1 rfl (mX6_record hO w g.2.1 r hr) rfl (Nat.le_of_ble_eq_true rfl) rfl dX6_drop_45 hP hS hl) rfl (fun w9 hw9 => ?_)
          refine y_aload_n (n := 49) C dX6_drop_48 1 rfl rfl ?_
          refine y_iload_n (n := 50) C dX6_drop_49 2 rfl rfl ?_
          refine y_iload_n (n := 51) C dX6_drop_50 0 rfl rfl ?_
          refine y_cv (n := 54) C (fun r hr H locs la hP hS hl => y_runV (ci := 6) (st := []) C ky_X6_takeOut wd_802 ⟨Nat.le_of_ble_eq_true rfl, Nat.le_of_ble_eq_true rfl⟩ hO.1 rfl (mX6_takeOut hO w9 a1 v5 g.2.1 r hr) rfl (Nat.le_of_ble_eq_true rfl) rfl dX6_drop_51 hP hS hl) rfl (fun w10 hw10 => ?_)
          refine y_aload_n (n := 55) C dX6_drop_54 1 rfl rfl ?_
          refine y_get (ci := 6) (f := 0) (n := 58) C in_X6 hO.1 rfl (by decide) wd_731 rfl rfl dX6_drop_55 rfl ?_
          refine y_sipush (n := 61) C (480 : Int32) dX6_drop_58 (by decide) rfl ?_
          refine y_iload_n (n := 62) C dX6_drop_61 2 rfl rfl ?_
          refine y_iadd (n := 63) C dX6_drop_62 rfl ?_
          refine y_iald (n := 64) C hO.2.1 dX6_drop_63 rfl (fun v11 hv11 => ?_)
          exact y_ri C hR dX6_drop_64
        · refine y_bipush (n := 43) C ((-4) : Int32) dX6_drop_41 (by decide) rfl ?_
          exact y_ri C hR dX6_drop_43
      · refine y_iconst (n := 28) C ((-1) : Int32) dX6_drop_27 (by decide) rfl ?_
        exact y_ri C hR dX6_drop_28
    · refine y_iconst (n := 15) C ((-1) : Int32) dX6_drop_14 (by decide) rfl ?_
      exact y_ri C hR dX6_drop_15
theorem mX6_drop {E : Ex} {o : Nat} (hO : shM E.2.2.2.2.2.1 o) (w : Wd) (a1 : Int32) (a2 : Int32) (l : Launch) : MI l yX6_drop cX6_drop 4 (some .int) { frames := 1, cells := 0, slots := 0, locals := 24 } E [.ref (E.2.2.2.2.1 + o), .int a1, .int a2] w (fX6_drop w o a1 a2) :=
  y_met (Qc := yQi E) (by decide +kernel) (Nat.le_of_ble_eq_true rfl) (fun g C hR => eX6_drop C hR hO w a1 a2) l
def fX6_want (w : Wd) (o : Nat) (a1 : Int32) : Option (Int32 × Wd) :=
  if a1 < 1 then
    some ((-2), w)
  else
    if a1 ≤ 10 then
      (ldI 706 w (o + 1) 559).bind fun v3 =>
      if v3 = 1 then
        some ((-4), w)
      else
        (ldI 706 w (o + 1) 558).bind fun v5 =>
        if v5 = a1 then
          some ((-5), w)
        else
          (fX6_record w o).bind fun w7 =>
          (stI 706 w7 (o + 1) 558 a1).bind fun w8 =>
          some (v5, w8)
    else
      some ((-2), w)
set_option maxRecDepth 4000 in
theorem eX6_want {g : Gx} {E : Ex} (C : CC g E cX6_want 3 RX6 1 21) (hR : RT g (some .int)) {o : Nat} (hO : shM E.2.2.2.2.2.1 o) (w : Wd) (a1 : Int32) : YO g E 3 (QI g E) (fX6_want w o a1) w 0 [(0, .ref (E.2.2.2.2.1 + o)), (1, .int a1)] [] := by
  unfold fX6_want
  refine y_iload_n (n := 1) C dX6_want_0 1 rfl rfl ?_
  refine y_iconst (n := 2) C (1 : Int32) dX6_want_1 (by decide) rfl ?_
  refine y_icmp_lt (tgt := 11) (n := 5) C dX6_want_2 (by decide) rfl (fun h1 => ?_) (fun h1 => ?_)
  · refine y_bipush (n := 13) C ((-2) : Int32) dX6_want_11 (by decide) rfl ?_
    exact y_ri C hR dX6_want_13
  · refine y_iload_n (n := 6) C dX6_want_5 1 rfl rfl ?_
    refine y_bipush (n := 8) C (10 : Int32) dX6_want_6 (by decide) rfl ?_
    refine y_icmp_le (tgt := 14) (n := 11) C dX6_want_8 (by decide) rfl (fun h2 => ?_) (fun h2 => ?_)
    · refine y_aload_n (n := 15) C dX6_want_14 0 rfl rfl ?_
      refine y_get (ci := 6) (f := 0) (n := 18) C in_X6 hO.1 rfl (by decide) wd_731 rfl rfl dX6_want_15 rfl ?_
      refine y_sipush (n := 21) C (559 : Int32) dX6_want_18 (by decide) rfl ?_
      refine y_iald (n := 22) C hO.2.1 dX6_want_21 rfl (fun v3 hv3 => ?_)
      refine y_iconst (n := 23) C (1 : Int32) dX6_want_22 (by decide) rfl ?_
      refine y_icmp_ne (tgt := 29) (n := 26) C dX6_want_23 (by decide) rfl (fun h4 => ?_) (fun h4 => ?_)
      · refine y_aload_n (n := 30) C dX6_want_29 0 rfl rfl ?_
        refine y_get (ci := 6) (f := 0) (n := 33) C in_X6 hO.1 rfl (by decide) wd_731 rfl rfl dX6_want_30 rfl ?_
        refine y_sipush (n := 36) C (558 : Int32) dX6_want_33 (by decide) rfl ?_
        refine y_iald (n := 37) C hO.2.1 dX6_want_36 rfl (fun v5 hv5 => ?_)
        refine y_istore_n (n := 38) (ls' := [(2, .int v5), (0, .ref (E.2.2.2.2.1 + o)), (1, .int a1)]) C dX6_want_37 (by decide) rfl rfl ?_
        refine y_iload_n (n := 39) C dX6_want_38 0 rfl rfl ?_
        refine y_iload_n (n := 40) C dX6_want_39 2 rfl rfl ?_
        refine y_icmp_ne (tgt := 46) (n := 43) C dX6_want_40 (by decide) rfl (fun h6 => ?_) (fun h6 => ?_)
        · refine y_aload_n (n := 47) C dX6_want_46 1 rfl rfl ?_
          refine y_cv (n := 50) C (fun r hr H locs la hP hS hl => y_runV (ci := 6) (st := []) C ky_X6_record wd_784 ⟨Nat.le_of_ble_eq_true rfl, Nat.le_of_ble_eq_true rfl⟩ hO.1 rfl (mX6_record hO w g.2.1 r hr) rfl (Nat.le_of_ble_eq_true rfl) rfl dX6_want_47 hP hS hl) rfl (fun w7 hw7 => ?_)
          refine y_aload_n (n := 51) C dX6_want_50 1 rfl rfl ?_
          refine y_get (ci := 6) (f := 0) (n := 54) C in_X6 hO.1 rfl (by decide) wd_731 rfl rfl dX6_want_51 rfl ?_
          refine y_sipush (n := 57) C (558 : Int32) dX6_want_54 (by decide) rfl ?_
          refine y_iload_n (n := 58) C dX6_want_57 2 rfl rfl ?_
          refine y_iast (n := 59) C hO.2.1 dX6_want_58 rfl (fun w8 hw8 => ?_)
          refine y_iload_n (n := 60) C dX6_want_59 0 rfl rfl ?_
          exact y_ri C hR dX6_want_60
        · refine y_bipush (n := 45) C ((-5) : Int32) dX6_want_43 (by decide) rfl ?_
          exact y_ri C hR dX6_want_45
      · refine y_bipush (n := 28) C ((-4) : Int32) dX6_want_26 (by decide) rfl ?_
        exact y_ri C hR dX6_want_28
    · refine y_bipush (n := 13) C ((-2) : Int32) dX6_want_11 (by decide) rfl ?_
      exact y_ri C hR dX6_want_13
theorem mX6_want {E : Ex} {o : Nat} (hO : shM E.2.2.2.2.2.1 o) (w : Wd) (a1 : Int32) (l : Launch) : MI l yX6_want cX6_want 3 (some .int) { frames := 1, cells := 0, slots := 0, locals := 21 } E [.ref (E.2.2.2.2.1 + o), .int a1] w (fX6_want w o a1) :=
  y_met (Qc := yQi E) (by decide +kernel) (Nat.le_of_ble_eq_true rfl) (fun g C hR => eX6_want C hR hO w a1) l
def fX6_weight (w : Wd) (o : Nat) (a1 : Int32) (a2 : Int32) : Option (Int32 × Wd) :=
  ob2 (fX6_setOf w o 486 a1 a2 9) fun v1 w2 =>
  some (v1, w2)
set_option maxRecDepth 4000 in
theorem eX6_weight {g : Gx} {E : Ex} (C : CC g E cX6_weight 3 RX6 2 46) (hR : RT g (some .int)) {o : Nat} (hO : shM E.2.2.2.2.2.1 o) (w : Wd) (a1 : Int32) (a2 : Int32) : YO g E 3 (QI g E) (fX6_weight w o a1 a2) w 0 [(0, .ref (E.2.2.2.2.1 + o)), (1, .int a1), (2, .int a2)] [] := by
  unfold fX6_weight
  refine y_aload_n (n := 1) C dX6_weight_0 0 rfl rfl ?_
  refine y_sipush (n := 4) C (486 : Int32) dX6_weight_1 (by decide) rfl ?_
  refine y_iload_n (n := 5) C dX6_weight_4 1 rfl rfl ?_
  refine y_iload_n (n := 6) C dX6_weight_5 2 rfl rfl ?_
  refine y_bipush (n := 8) C (9 : Int32) dX6_weight_6 (by decide) rfl ?_
  refine y_ci2 (n := 11) C (fun r hr H locs la hP hS hl => y_runV (ci := 6) (st := []) C ky_X6_setOf wd_837 ⟨Nat.le_of_ble_eq_true rfl, Nat.le_of_ble_eq_true rfl⟩ hO.1 rfl (mX6_setOf hO w 486 a1 a2 9 g.2.1 r hr) rfl (Nat.le_of_ble_eq_true rfl) rfl dX6_weight_8 hP hS hl) rfl (fun v1 w2 hv1 => ?_)
  exact y_ri C hR dX6_weight_11
theorem mX6_weight {E : Ex} {o : Nat} (hO : shM E.2.2.2.2.2.1 o) (w : Wd) (a1 : Int32) (a2 : Int32) (l : Launch) : MI l yX6_weight cX6_weight 3 (some .int) { frames := 2, cells := 0, slots := 0, locals := 46 } E [.ref (E.2.2.2.2.1 + o), .int a1, .int a2] w (fX6_weight w o a1 a2) :=
  y_met (Qc := yQi E) (by decide +kernel) (Nat.le_of_ble_eq_true rfl) (fun g C hR => eX6_weight C hR hO w a1 a2) l
def fX6_does (w : Wd) (o : Nat) (a1 : Int32) : Option (Int32 × Wd) :=
  if a1 = 0 then
    (ldI 3 w (o + 7) 0).bind fun v2 =>
    (ldI 3 w (o + 7) 1).bind fun v3 =>
    (ldI 3 w (o + 7) 2).bind fun v4 =>
    ob2 (fX6_add w o v2 v3 v4) fun v5 w6 =>
    some (v5, w6)
  else
  if a1 = 1 then
    (ldI 3 w (o + 7) 0).bind fun v8 =>
    (ldI 3 w (o + 7) 1).bind fun v9 =>
    ob2 (fX6_drop w o v8 v9) fun v10 w11 =>
    some (v10, w11)
  else
  if a1 = 2 then
    (ldI 3 w (o + 7) 0).bind fun v13 =>
    (ldI 3 w (o + 7) 1).bind fun v14 =>
    ob2 (fX6_weight w o v13 v14) fun v15 w16 =>
    some (v15, w16)
  else
  if a1 = 3 then
    (ldI 3 w (o + 7) 0).bind fun v18 =>
    (ldI 3 w (o + 7) 1).bind fun v19 =>
    ob2 (fX6_bribe w o v18 v19) fun v20 w21 =>
    some (v20, w21)
  else
  if a1 = 4 then
    (ldI 3 w (o + 7) 0).bind fun v23 =>
    ob2 (fX6_delete w o v23) fun v24 w25 =>
    some (v24, w25)
  else
  if a1 = 5 then
    (ldI 3 w (o + 7) 0).bind fun v27 =>
    ob2 (fX6_bring w o v27) fun v28 w29 =>
    some (v28, w29)
  else
  (ldI 3 w (o + 7) 0).bind fun v30 =>
  ob2 (fX6_want w o v30) fun v31 w32 =>
  some (v31, w32)
set_option maxRecDepth 4000 in
theorem eX6_does {g : Gx} {E : Ex} (C : CC g E cX6_does 2 RX6 4 90) (hR : RT g (some .int)) {o : Nat} (hO : shM E.2.2.2.2.2.1 o) (w : Wd) (a1 : Int32) : YO g E 2 (QI g E) (fX6_does w o a1) w 0 [(0, .ref (E.2.2.2.2.1 + o)), (1, .int a1)] [] := by
  unfold fX6_does
  refine y_iload_n (n := 1) C dX6_does_0 1 rfl rfl ?_
  refine y_if (fun h1 => ?_) (fun h1 => ?_)
  · refine y_swIn (tgt := 40) C 39 dX6_does_1 (by rw [h1]; decide) (by rw [h1]; decide) (by rw [h1]; rfl) (by decide) ?_
    refine y_aload_n (n := 41) C dX6_does_40 0 rfl rfl ?_
    refine y_aload_n (n := 42) C dX6_does_41 0 rfl rfl ?_
    refine y_get (ci := 6) (f := 11) (n := 45) C in_X6 hO.1 rfl (by decide) wd_742 rfl rfl dX6_does_42 rfl ?_
    refine y_iconst (n := 46) C (0 : Int32) dX6_does_45 (by decide) rfl ?_
    refine y_iald (n := 47) C hO.2.2.2.2.2.2.2 dX6_does_46 rfl (fun v2 hv2 => ?_)
    refine y_aload_n (n := 48) C dX6_does_47 0 rfl rfl ?_
    refine y_get (ci := 6) (f := 11) (n := 51) C in_X6 hO.1 rfl (by decide) wd_742 rfl rfl dX6_does_48 rfl ?_
    refine y_iconst (n := 52) C (1 : Int32) dX6_does_51 (by decide) rfl ?_
    refine y_iald (n := 53) C hO.2.2.2.2.2.2.2 dX6_does_52 rfl (fun v3 hv3 => ?_)
    refine y_aload_n (n := 54) C dX6_does_53 0 rfl rfl ?_
    refine y_get (ci := 6) (f := 11) (n := 57) C in_X6 hO.1 rfl (by decide) wd_742 rfl rfl dX6_does_54 rfl ?_
    refine y_iconst (n := 58) C (2 : Int32) dX6_does_57 (by decide) rfl ?_
    refine y_iald (n := 59) C hO.2.2.2.2.2.2.2 dX6_does_58 rfl (fun v4 hv4 => ?_)
    refine y_ci2 (n := 62) C (fun r hr H locs la hP hS hl => y_runV (ci := 6) (st := []) C ky_X6_add wd_1075 ⟨Nat.le_of_ble_eq_true rfl, Nat.le_of_ble_eq_true rfl⟩ hO.1 rfl (mX6_add hO w v2 v3 v4 g.2.1 r hr) rfl (Nat.le_of_ble_eq_true rfl) rfl dX6_does_59 hP hS hl) rfl (fun v5 w6 hv5 => ?_)
    exact y_ri C hR dX6_does_62
  refine y_if (fun h7 => ?_) (fun h7 => ?_)
  · refine y_swIn (tgt := 63) C 62 dX6_does_1 (by rw [h7]; decide) (by rw [h7]; decide) (by rw [h7]; rfl) (by decide) ?_
    refine y_aload_n (n := 64) C dX6_does_63 0 rfl rfl ?_
    refine y_aload_n (n := 65) C dX6_does_64 0 rfl rfl ?_
    refine y_get (ci := 6) (f := 11) (n := 68) C in_X6 hO.1 rfl (by decide) wd_742 rfl rfl dX6_does_65 rfl ?_
    refine y_iconst (n := 69) C (0 : Int32) dX6_does_68 (by decide) rfl ?_
    refine y_iald (n := 70) C hO.2.2.2.2.2.2.2 dX6_does_69 rfl (fun v8 hv8 => ?_)
    refine y_aload_n (n := 71) C dX6_does_70 0 rfl rfl ?_
    refine y_get (ci := 6) (f := 11) (n := 74) C in_X6 hO.1 rfl (by decide) wd_742 rfl rfl dX6_does_71 rfl ?_
    refine y_iconst (n := 75) C (1 : Int32) dX6_does_74 (by decide) rfl ?_
    refine y_iald (n := 76) C hO.2.2.2.2.2.2.2 dX6_does_75 rfl (fun v9 hv9 => ?_)
    refine y_ci2 (n := 79) C (fun r hr H locs la hP hS hl => y_runV (ci := 6) (st := []) C ky_X6_drop wd_1076 ⟨Nat.le_of_ble_eq_true rfl, Nat.le_of_ble_eq_true rfl⟩ hO.1 rfl (mX6_drop hO w v8 v9 g.2.1 r hr) rfl (Nat.le_of_ble_eq_true rfl) rfl dX6_does_76 hP hS hl) rfl (fun v10 w11 hv10 => ?_)
    exact y_ri C hR dX6_does_79
  refine y_if (fun h12 => ?_) (fun h12 => ?_)
  · refine y_swIn (tgt := 80) C 79 dX6_does_1 (by rw [h12]; decide) (by rw [h12]; decide) (by rw [h12]; rfl) (by decide) ?_
    refine y_aload_n (n := 81) C dX6_does_80 0 rfl rfl ?_
    refine y_aload_n (n := 82) C dX6_does_81 0 rfl rfl ?_
    refine y_get (ci := 6) (f := 11) (n := 85) C in_X6 hO.1 rfl (by decide) wd_742 rfl rfl dX6_does_82 rfl ?_
    refine y_iconst (n := 86) C (0 : Int32) dX6_does_85 (by decide) rfl ?_
    refine y_iald (n := 87) C hO.2.2.2.2.2.2.2 dX6_does_86 rfl (fun v13 hv13 => ?_)
    refine y_aload_n (n := 88) C dX6_does_87 0 rfl rfl ?_
    refine y_get (ci := 6) (f := 11) (n := 91) C in_X6 hO.1 rfl (by decide) wd_742 rfl rfl dX6_does_88 rfl ?_
    refine y_iconst (n := 92) C (1 : Int32) dX6_does_91 (by decide) rfl ?_
    refine y_iald (n := 93) C hO.2.2.2.2.2.2.2 dX6_does_92 rfl (fun v14 hv14 => ?_)
    refine y_ci2 (n := 96) C (fun r hr H locs la hP hS hl => y_runV (ci := 6) (st := []) C ky_X6_weight wd_1077 ⟨Nat.le_of_ble_eq_true rfl, Nat.le_of_ble_eq_true rfl⟩ hO.1 rfl (mX6_weight hO w v13 v14 g.2.1 r hr) rfl (Nat.le_of_ble_eq_true rfl) rfl dX6_does_93 hP hS hl) rfl (fun v15 w16 hv15 => ?_)
    exact y_ri C hR dX6_does_96
  refine y_if (fun h17 => ?_) (fun h17 => ?_)
  · refine y_swIn (tgt := 97) C 96 dX6_does_1 (by rw [h17]; decide) (by rw [h17]; decide) (by rw [h17]; rfl) (by decide) ?_
    refine y_aload_n (n := 98) C dX6_does_97 0 rfl rfl ?_
    refine y_aload_n (n := 99) C dX6_does_98 0 rfl rfl ?_
    refine y_get (ci := 6) (f := 11) (n := 102) C in_X6 hO.1 rfl (by decide) wd_742 rfl rfl dX6_does_99 rfl ?_
    refine y_iconst (n := 103) C (0 : Int32) dX6_does_102 (by decide) rfl ?_
    refine y_iald (n := 104) C hO.2.2.2.2.2.2.2 dX6_does_103 rfl (fun v18 hv18 => ?_)
    refine y_aload_n (n := 105) C dX6_does_104 0 rfl rfl ?_
    refine y_get (ci := 6) (f := 11) (n := 108) C in_X6 hO.1 rfl (by decide) wd_742 rfl rfl dX6_does_105 rfl ?_
    refine y_iconst (n := 109) C (1 : Int32) dX6_does_108 (by decide) rfl ?_
    refine y_iald (n := 110) C hO.2.2.2.2.2.2.2 dX6_does_109 rfl (fun v19 hv19 => ?_)
    refine y_ci2 (n := 113) C (fun r hr H locs la hP hS hl => y_runV (ci := 6) (st := []) C ky_X6_bribe wd_1078 ⟨Nat.le_of_ble_eq_true rfl, Nat.le_of_ble_eq_true rfl⟩ hO.1 rfl (mX6_bribe hO w v18 v19 g.2.1 r hr) rfl (Nat.le_of_ble_eq_true rfl) rfl dX6_does_110 hP hS hl) rfl (fun v20 w21 hv20 => ?_)
    exact y_ri C hR dX6_does_113
  refine y_if (fun h22 => ?_) (fun h22 => ?_)
  · refine y_swIn (tgt := 114) C 113 dX6_does_1 (by rw [h22]; decide) (by rw [h22]; decide) (by rw [h22]; rfl) (by decide) ?_
    refine y_aload_n (n := 115) C dX6_does_114 0 rfl rfl ?_
    refine y_aload_n (n := 116) C dX6_does_115 0 rfl rfl ?_
    refine y_get (ci := 6) (f := 11) (n := 119) C in_X6 hO.1 rfl (by decide) wd_742 rfl rfl dX6_does_116 rfl ?_
    refine y_iconst (n := 120) C (0 : Int32) dX6_does_119 (by decide) rfl ?_
    refine y_iald (n := 121) C hO.2.2.2.2.2.2.2 dX6_does_120 rfl (fun v23 hv23 => ?_)
    refine y_ci2 (n := 124) C (fun r hr H locs la hP hS hl => y_runV (ci := 6) (st := []) C ky_X6_delete wd_1079 ⟨Nat.le_of_ble_eq_true rfl, Nat.le_of_ble_eq_true rfl⟩ hO.1 rfl (mX6_delete hO w v23 g.2.1 r hr) rfl (Nat.le_of_ble_eq_true rfl) rfl dX6_does_121 hP hS hl) rfl (fun v24 w25 hv24 => ?_)
    exact y_ri C hR dX6_does_124
  refine y_if (fun h26 => ?_) (fun h26 => ?_)
  · refine y_swIn (tgt := 125) C 124 dX6_does_1 (by rw [h26]; decide) (by rw [h26]; decide) (by rw [h26]; rfl) (by decide) ?_
    refine y_aload_n (n := 126) C dX6_does_125 0 rfl rfl ?_
    refine y_aload_n (n := 127) C dX6_does_126 0 rfl rfl ?_
    refine y_get (ci := 6) (f := 11) (n := 130) C in_X6 hO.1 rfl (by decide) wd_742 rfl rfl dX6_does_127 rfl ?_
    refine y_iconst (n := 131) C (0 : Int32) dX6_does_130 (by decide) rfl ?_
    refine y_iald (n := 132) C hO.2.2.2.2.2.2.2 dX6_does_131 rfl (fun v27 hv27 => ?_)
    refine y_ci2 (n := 135) C (fun r hr H locs la hP hS hl => y_runV (ci := 6) (st := []) C ky_X6_bring wd_1080 ⟨Nat.le_of_ble_eq_true rfl, Nat.le_of_ble_eq_true rfl⟩ hO.1 rfl (mX6_bring hO w v27 g.2.1 r hr) rfl (Nat.le_of_ble_eq_true rfl) rfl dX6_does_132 hP hS hl) rfl (fun v28 w29 hv28 => ?_)
    exact y_ri C hR dX6_does_135
  refine y_swOut (tgt := 136) C dX6_does_1 (by have gh1 := sw_ne (k := 0) (by decide) h1; have gh7 := sw_ne (k := 1) (by decide) h7; have gh12 := sw_ne (k := 2) (by decide) h12; have gh17 := sw_ne (k := 3) (by decide) h17; have gh22 := sw_ne (k := 4) (by decide) h22; have gh26 := sw_ne (k := 5) (by decide) h26; omega) (by decide) ?_
  refine y_aload_n (n := 137) C dX6_does_136 0 rfl rfl ?_
  refine y_aload_n (n := 138) C dX6_does_137 0 rfl rfl ?_
  refine y_get (ci := 6) (f := 11) (n := 141) C in_X6 hO.1 rfl (by decide) wd_742 rfl rfl dX6_does_138 rfl ?_
  refine y_iconst (n := 142) C (0 : Int32) dX6_does_141 (by decide) rfl ?_
  refine y_iald (n := 143) C hO.2.2.2.2.2.2.2 dX6_does_142 rfl (fun v30 hv30 => ?_)
  refine y_ci2 (n := 146) C (fun r hr H locs la hP hS hl => y_runV (ci := 6) (st := []) C ky_X6_want wd_1081 ⟨Nat.le_of_ble_eq_true rfl, Nat.le_of_ble_eq_true rfl⟩ hO.1 rfl (mX6_want hO w v30 g.2.1 r hr) rfl (Nat.le_of_ble_eq_true rfl) rfl dX6_does_143 hP hS hl) rfl (fun v31 w32 hv31 => ?_)
  exact y_ri C hR dX6_does_146
theorem mX6_does {E : Ex} {o : Nat} (hO : shM E.2.2.2.2.2.1 o) (w : Wd) (a1 : Int32) (l : Launch) : MI l yX6_does cX6_does 2 (some .int) { frames := 4, cells := 0, slots := 0, locals := 90 } E [.ref (E.2.2.2.2.1 + o), .int a1] w (fX6_does w o a1) :=
  y_met (Qc := yQi E) (by decide +kernel) (Nat.le_of_ble_eq_true rfl) (fun g C hR => eX6_does C hR hO w a1) l
