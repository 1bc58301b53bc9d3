/-! X6_canBeRead X6_isSeen X6_frontPlace X6_frontAt X6_isKnown X6_high X6_scoreOf X6_low X6_reckon X6_seenMany X6_isOver X6_startReading X6_begin -/
def fX6_canBeRead (w : Wd) (o : Nat) (a1 : Int32) : Option (Int32) :=
  (fX6_isAsked w o a1).bind fun v1 =>
  if v1 = 0 then
    rtZ 0
  else
    (fX6_left w o a1).bind fun v3 =>
    if v3 ≤ 0 then
      rtZ 0
    else
      rtZ 1
set_option maxRecDepth 4000 in
theorem eX6_canBeRead {g : Gx} {E : Ex} (C : CC g E cX6_canBeRead 2 RX6 1 21) (hR : RT g (some .boolean)) {o : Nat} (hO : shM E.2.2.2.2.2.1 o) (w : Wd) (a1 : Int32) : YO g E 2 (QP g E w) (fX6_canBeRead w o a1) w 0 [(0, .ref (E.2.2.2.2.1 + o)), (1, .int a1)] [] := by
  unfold fX6_canBeRead
  refine y_aload_n (n := 1) C dX6_canBeRead_0 0 rfl rfl ?_
  refine y_iload_n (n := 2) C dX6_canBeRead_1 1 rfl rfl ?_
  refine y_cp (n := 5) C (fun r hr H locs la hP hS hl => y_runV (ci := 6) (st := []) C ky_X6_isAsked wd_889 ⟨Nat.le_of_ble_eq_true rfl, Nat.le_of_ble_eq_true rfl⟩ hO.1 rfl (mX6_isAsked hO w a1 g.2.1 r hr) rfl (Nat.le_of_ble_eq_true rfl) rfl dX6_canBeRead_2 hP hS hl) rfl (fun v1 hv1 => ?_)
  refine y_if_eq (tgt := 20) (n := 8) C dX6_canBeRead_5 (by decide) rfl (fun h2 => ?_) (fun h2 => ?_)
  · refine y_iconst (n := 21) C (0 : Int32) dX6_canBeRead_20 (by decide) rfl ?_
    exact y_rz C hR dX6_canBeRead_21
  · refine y_aload_n (n := 9) C dX6_canBeRead_8 0 rfl rfl ?_
    refine y_iload_n (n := 10) C dX6_canBeRead_9 1 rfl rfl ?_
    refine y_cp (n := 13) C (fun r hr H locs la hP hS hl => y_runV (ci := 6) (st := []) C ky_X6_left wd_905 ⟨Nat.le_of_ble_eq_true rfl, Nat.le_of_ble_eq_true rfl⟩ hO.1 rfl (mX6_left hO w a1 g.2.1 r hr) rfl (Nat.le_of_ble_eq_true rfl) rfl dX6_canBeRead_10 hP hS hl) rfl (fun v3 hv3 => ?_)
    refine y_if_le (tgt := 20) (n := 16) C dX6_canBeRead_13 (by decide) rfl (fun h4 => ?_) (fun h4 => ?_)
    · refine y_iconst (n := 21) C (0 : Int32) dX6_canBeRead_20 (by decide) rfl ?_
      exact y_rz C hR dX6_canBeRead_21
    · refine y_iconst (n := 17) C (1 : Int32) dX6_canBeRead_16 (by decide) rfl ?_
      refine y_goto (tgt := 21) C dX6_canBeRead_17 (by decide) ?_
      exact y_rz C hR dX6_canBeRead_21
theorem mX6_canBeRead {E : Ex} {o : Nat} (hO : shM E.2.2.2.2.2.1 o) (w : Wd) (a1 : Int32) (l : Launch) : MP l yX6_canBeRead cX6_canBeRead 2 (some .boolean) { frames := 1, cells := 0, slots := 0, locals := 21 } E [.ref (E.2.2.2.2.1 + o), .int a1] w (fX6_canBeRead w o a1) :=
  y_met (Qc := fun r => yQi E (r, w)) (by decide +kernel) (Nat.le_of_ble_eq_true rfl) (fun g C hR => eX6_canBeRead C hR hO w a1) l
def fX6_isSeen (w : Wd) (o : Nat) (a1 : Int32) : Option (Int32) :=
  (ldI 706 w (o + 1) (586 + a1)).bind fun v1 =>
  if v1 ≤ 0 then
    rtZ 0
  else
    rtZ 1
set_option maxRecDepth 4000 in
theorem eX6_isSeen {g : Gx} {E : Ex} (C : CC g E cX6_isSeen 2 RX6 0 0) (hR : RT g (some .boolean)) {o : Nat} (hO : shM E.2.2.2.2.2.1 o) (w : Wd) (a1 : Int32) : YO g E 2 (QP g E w) (fX6_isSeen w o a1) w 0 [(0, .ref (E.2.2.2.2.1 + o)), (1, .int a1)] [] := by
  unfold fX6_isSeen
  refine y_aload_n (n := 1) C dX6_isSeen_0 0 rfl rfl ?_
  refine y_get (ci := 6) (f := 0) (n := 4) C in_X6 hO.1 rfl (by decide) wd_731 rfl rfl dX6_isSeen_1 rfl ?_
  refine y_sipush (n := 7) C (586 : Int32) dX6_isSeen_4 (by decide) rfl ?_
  refine y_iload_n (n := 8) C dX6_isSeen_7 1 rfl rfl ?_
  refine y_iadd (n := 9) C dX6_isSeen_8 rfl ?_
  refine y_iald (n := 10) C hO.2.1 dX6_isSeen_9 rfl (fun v1 hv1 => ?_)
  refine y_if_le (tgt := 17) (n := 13) C dX6_isSeen_10 (by decide) rfl (fun h2 => ?_) (fun h2 => ?_)
  · refine y_iconst (n := 18) C (0 : Int32) dX6_isSeen_17 (by decide) rfl ?_
    exact y_rz C hR dX6_isSeen_18
  · refine y_iconst (n := 14) C (1 : Int32) dX6_isSeen_13 (by decide) rfl ?_
    refine y_goto (tgt := 18) C dX6_isSeen_14 (by decide) ?_
    exact y_rz C hR dX6_isSeen_18
theorem mX6_isSeen {E : Ex} {o : Nat} (hO : shM E.2.2.2.2.2.1 o) (w : Wd) (a1 : Int32) (l : Launch) : MP l yX6_isSeen cX6_isSeen 2 (some .boolean) { frames := 0, cells := 0, slots := 0, locals := 0 } E [.ref (E.2.2.2.2.1 + o), .int a1] w (fX6_isSeen w o a1) :=
  y_met (Qc := fun r => yQi E (r, w)) (by decide +kernel) (Nat.le_of_ble_eq_true rfl) (fun g C hR => eX6_isSeen C hR hO w a1) l
def lX6_frontPlace_12 (o : Nat) : Nat → Wd → Int32 → Int32 → Int32 → Int32 → Option (Int32)
  | 0, _, _, _, _, _ => none
  | n + 1, w, x1, x2, x3, x4 =>
    if 60 ≤ x4 then
      some x3
    else
      (ldI 60 w (o + 5) x4).bind fun v3 =>
      if x2 < v3 then
        (fX6_isSeen w o x4).bind fun v5 =>
        if v5 = 0 then
          lX6_frontPlace_12 o n w x1 x2 (x3 + 0) (x4 + 1)
        else
          lX6_frontPlace_12 o n w x1 x2 (x3 + 1) (x4 + 1)
      else
        (ldI 60 w (o + 5) x4).bind fun v7 =>
        if v7 = x2 then
          if x1 ≤ x4 then
            (fX6_isSeen w o x4).bind fun v12 =>
            if v12 = 0 then
              lX6_frontPlace_12 o n w x1 x2 (x3 + 0) (x4 + 1)
            else
              lX6_frontPlace_12 o n w x1 x2 (x3 + 0) (x4 + 1)
          else
            (fX6_isSeen w o x4).bind fun v14 =>
            if v14 = 0 then
              lX6_frontPlace_12 o n w x1 x2 (x3 + 0) (x4 + 1)
            else
              lX6_frontPlace_12 o n w x1 x2 (x3 + 1) (x4 + 1)
        else
          (fX6_isSeen w o x4).bind fun v9 =>
          if v9 = 0 then
            lX6_frontPlace_12 o n w x1 x2 (x3 + 0) (x4 + 1)
          else
            lX6_frontPlace_12 o n w x1 x2 (x3 + 0) (x4 + 1)
set_option maxRecDepth 4000 in
theorem clX6_frontPlace_12 {g : Gx} {E : Ex} (C : CC g E cX6_frontPlace 6 RX6 1 21) (hR : RT g (some .int)) {o : Nat} (hO : shM E.2.2.2.2.2.1 o) (w : Wd) : ∀ (n : Nat) (x1 : Int32) (x2 : Int32) (x3 : Int32) (x4 : Int32), YO g E 6 (QP g E w) (lX6_frontPlace_12 o n w x1 x2 x3 x4) w 12 [(0, .ref (E.2.2.2.2.1 + o)), (1, .int x1), (2, .int x2), (3, .int x3), (4, .int x4)] [] := by
  intro n
  induction n with
  | zero => intro x1 x2 x3 x4; exact y_no
  | succ n ih =>
    intro x1 x2 x3 x4
    rw [lX6_frontPlace_12]
    refine y_iload (n := 14) C dX6_frontPlace_12 4 rfl rfl ?_
    refine y_bipush (n := 16) C (60 : Int32) dX6_frontPlace_14 (by decide) rfl ?_
    refine y_icmp_ge (tgt := 82) (n := 19) C dX6_frontPlace_16 (by decide) rfl (fun h2 => ?_) (fun h2 => ?_)
    · refine y_iload_n (n := 83) C dX6_frontPlace_82 3 rfl rfl ?_
      exact y_rp C hR dX6_frontPlace_83
    · refine y_aload_n (n := 20) C dX6_frontPlace_19 0 rfl rfl ?_
      refine y_get (ci := 6) (f := 4) (n := 23) C in_X6 hO.1 rfl (by decide) wd_735 rfl rfl dX6_frontPlace_20 rfl ?_
      refine y_iload (n := 25) C dX6_frontPlace_23 4 rfl rfl ?_
      refine y_iald (n := 26) C hO.2.2.2.2.2.1 dX6_frontPlace_25 rfl (fun v3 hv3 => ?_)
      refine y_iload_n (n := 27) C dX6_frontPlace_26 2 rfl rfl ?_
      refine y_icmp_gt (tgt := 47) (n := 30) C dX6_frontPlace_27 (by decide) rfl (fun h4 => ?_) (fun h4 => ?_)
      · refine y_iconst (n := 48) C (1 : Int32) dX6_frontPlace_47 (by decide) rfl ?_
        refine y_goto (tgt := 52) C dX6_frontPlace_48 (by decide) ?_
        refine y_istore (n := 54) (ls' := [(5, .int 1), (0, .ref (E.2.2.2.2.1 + o)), (1, .int x1), (2, .int x2), (3, .int x3), (4, .int x4)]) C dX6_frontPlace_52 (by decide) rfl rfl ?_
        refine y_iload_n (n := 55) C dX6_frontPlace_54 4 rfl rfl ?_
        refine y_aload_n (n := 56) C dX6_frontPlace_55 1 rfl rfl ?_
        refine y_iload (n := 58) C dX6_frontPlace_56 5 rfl rfl ?_
        refine y_cp (n := 61) C (fun r hr H locs la hP hS hl => y_runV (ci := 6) (st := [.int x3]) C ky_X6_isSeen wd_913 ⟨Nat.le_of_ble_eq_true rfl, Nat.le_of_ble_eq_true rfl⟩ hO.1 rfl (mX6_isSeen hO w x4 g.2.1 r hr) rfl (Nat.le_of_ble_eq_true rfl) rfl dX6_frontPlace_58 hP hS hl) rfl (fun v5 hv5 => ?_)
        refine y_if_eq (tgt := 73) (n := 64) C dX6_frontPlace_61 (by decide) rfl (fun h6 => ?_) (fun h6 => ?_)
        · refine y_iconst (n := 74) C (0 : Int32) dX6_frontPlace_73 (by decide) rfl ?_
          refine y_iadd (n := 75) C dX6_frontPlace_74 rfl ?_
          refine y_istore_n (n := 76) (ls' := [(3, .int (x3 + 0)), (5, .int 1), (0, .ref (E.2.2.2.2.1 + o)), (1, .int x1), (2, .int x2), (4, .int x4)]) C dX6_frontPlace_75 (by decide) rfl rfl ?_
          refine y_iinc (n := 79) (v := x4 + 1) (ls' := [(4, .int (x4 + 1)), (3, .int (x3 + 0)), (5, .int 1), (0, .ref (E.2.2.2.2.1 + o)), (1, .int x1), (2, .int x2)]) C dX6_frontPlace_76 5 rfl rfl (by decide) rfl rfl ?_
          refine y_goto (tgt := 12) C dX6_frontPlace_79 (by decide) ?_
          refine y_ls [3, 4, 5, 1, 0] rfl ?_
          exact ih x1 x2 (x3 + 0) (x4 + 1)
        · refine y_iload (n := 66) C dX6_frontPlace_64 0 rfl rfl ?_
          refine y_if_eq_F (tgt := 73) (n := 69) C dX6_frontPlace_66 (by decide) rfl (by decide) ?_
          refine y_iconst (n := 70) C (1 : Int32) dX6_frontPlace_69 (by decide) rfl ?_
          refine y_goto (tgt := 74) C dX6_frontPlace_70 (by decide) ?_
          refine y_iadd (n := 75) C dX6_frontPlace_74 rfl ?_
          refine y_istore_n (n := 76) (ls' := [(3, .int (x3 + 1)), (5, .int 1), (0, .ref (E.2.2.2.2.1 + o)), (1, .int x1), (2, .int x2), (4, .int x4)]) C dX6_frontPlace_75 (by decide) rfl rfl ?_
          refine y_iinc (n := 79) (v := x4 + 1) (ls' := [(4, .int (x4 + 1)), (3, .int (x3 + 1)), (5, .int 1), (0, .ref (E.2.2.2.2.1 + o)), (1, .int x1), (2, .int x2)]) C dX6_frontPlace_76 5 rfl rfl (by decide) rfl rfl ?_
          refine y_goto (tgt := 12) C dX6_frontPlace_79 (by decide) ?_
          refine y_ls [3, 4, 5, 1, 0] rfl ?_
          exact ih x1 x2 (x3 + 1) (x4 + 1)
      · refine y_aload_n (n := 31) C dX6_frontPlace_30 0 rfl rfl ?_
        refine y_get (ci := 6) (f := 4) (n := 34) C in_X6 hO.1 rfl (by decide) wd_735 rfl rfl dX6_frontPlace_31 rfl ?_
        refine y_iload (n := 36) C dX6_frontPlace_34 4 rfl rfl ?_
        refine y_iald (n := 37) C hO.2.2.2.2.2.1 dX6_frontPlace_36 rfl (fun v7 hv7 => ?_)
        refine y_iload_n (n := 38) C dX6_frontPlace_37 2 rfl rfl ?_
        refine y_icmp_ne (tgt := 51) (n := 41) C dX6_frontPlace_38 (by decide) rfl (fun h8 => ?_) (fun h8 => ?_)
        · refine y_iconst (n := 52) C (0 : Int32) dX6_frontPlace_51 (by decide) rfl ?_
          refine y_istore (n := 54) (ls' := [(5, .int 0), (0, .ref (E.2.2.2.2.1 + o)), (1, .int x1), (2, .int x2), (3, .int x3), (4, .int x4)]) C dX6_frontPlace_52 (by decide) rfl rfl ?_
          refine y_iload_n (n := 55) C dX6_frontPlace_54 4 rfl rfl ?_
          refine y_aload_n (n := 56) C dX6_frontPlace_55 1 rfl rfl ?_
          refine y_iload (n := 58) C dX6_frontPlace_56 5 rfl rfl ?_
          refine y_cp (n := 61) C (fun r hr H locs la hP hS hl => y_runV (ci := 6) (st := [.int x3]) C ky_X6_isSeen wd_913 ⟨Nat.le_of_ble_eq_true rfl, Nat.le_of_ble_eq_true rfl⟩ hO.1 rfl (mX6_isSeen hO w x4 g.2.1 r hr) rfl (Nat.le_of_ble_eq_true rfl) rfl dX6_frontPlace_58 hP hS hl) rfl (fun v9 hv9 => ?_)
          refine y_if_eq (tgt := 73) (n := 64) C dX6_frontPlace_61 (by decide) rfl (fun h10 => ?_) (fun h10 => ?_)
          · refine y_iconst (n := 74) C (0 : Int32) dX6_frontPlace_73 (by decide) rfl ?_
            refine y_iadd (n := 75) C dX6_frontPlace_74 rfl ?_
            refine y_istore_n (n := 76) (ls' := [(3, .int (x3 + 0)), (5, .int 0), (0, .ref (E.2.2.2.2.1 + o)), (1, .int x1), (2, .int x2), (4, .int x4)]) C dX6_frontPlace_75 (by decide) rfl rfl ?_
            refine y_iinc (n := 79) (v := x4 + 1) (ls' := [(4, .int (x4 + 1)), (3, .int (x3 + 0)), (5, .int 0), (0, .ref (E.2.2.2.2.1 + o)), (1, .int x1), (2, .int x2)]) C dX6_frontPlace_76 5 rfl rfl (by decide) rfl rfl ?_
            refine y_goto (tgt := 12) C dX6_frontPlace_79 (by decide) ?_
            refine y_ls [3, 4, 5, 1, 0] rfl ?_
            exact ih x1 x2 (x3 + 0) (x4 + 1)
          · refine y_iload (n := 66) C dX6_frontPlace_64 0 rfl rfl ?_
            refine y_if_eq_T (tgt := 73) C dX6_frontPlace_66 (by decide) (by decide) ?_
            refine y_iconst (n := 74) C (0 : Int32) dX6_frontPlace_73 (by decide) rfl ?_
            refine y_iadd (n := 75) C dX6_frontPlace_74 rfl ?_
            refine y_istore_n (n := 76) (ls' := [(3, .int (x3 + 0)), (5, .int 0), (0, .ref (E.2.2.2.2.1 + o)), (1, .int x1), (2, .int x2), (4, .int x4)]) C dX6_frontPlace_75 (by decide) rfl rfl ?_
            refine y_iinc (n := 79) (v := x4 + 1) (ls' := [(4, .int (x4 + 1)), (3, .int (x3 + 0)), (5, .int 0), (0, .ref (E.2.2.2.2.1 + o)), (1, .int x1), (2, .int x2)]) C dX6_frontPlace_76 5 rfl rfl (by decide) rfl rfl ?_
            refine y_goto (tgt := 12) C dX6_frontPlace_79 (by decide) ?_
            refine y_ls [3, 4, 5, 1, 0] rfl ?_
            exact ih x1 x2 (x3 + 0) (x4 + 1)
        · refine y_iload (n := 43) C dX6_frontPlace_41 4 rfl rfl ?_
          refine y_iload_n (n := 44) C dX6_frontPlace_43 1 rfl rfl ?_
          refine y_icmp_ge (tgt := 51) (n := 47) C dX6_frontPlace_44 (by decide) rfl (fun h11 => ?_) (fun h11 => ?_)
          · refine y_iconst (n := 52) C (0 : Int32) dX6_frontPlace_51 (by decide) rfl ?_
            refine y_istore (n := 54) (ls' := [(5, .int 0), (0, .ref (E.2.2.2.2.1 + o)), (1, .int x1), (2, .int x2), (3, .int x3), (4, .int x4)]) C dX6_frontPlace_52 (by decide) rfl rfl ?_
            refine y_iload_n (n := 55) C dX6_frontPlace_54 4 rfl rfl ?_
            refine y_aload_n (n := 56) C dX6_frontPlace_55 1 rfl rfl ?_
            refine y_iload (n := 58) C dX6_frontPlace_56 5 rfl rfl ?_
            refine y_cp (n := 61) C (fun r hr H locs la hP hS hl => y_runV (ci := 6) (st := [.int x3]) C ky_X6_isSeen wd_913 ⟨Nat.le_of_ble_eq_true rfl, Nat.le_of_ble_eq_true rfl⟩ hO.1 rfl (mX6_isSeen hO w x4 g.2.1 r hr) rfl (Nat.le_of_ble_eq_true rfl) rfl dX6_frontPlace_58 hP hS hl) rfl (fun v12 hv12 => ?_)
            refine y_if_eq (tgt := 73) (n := 64) C dX6_frontPlace_61 (by decide) rfl (fun h13 => ?_) (fun h13 => ?_)
            · refine y_iconst (n := 74) C (0 : Int32) dX6_frontPlace_73 (by decide) rfl ?_
              refine y_iadd (n := 75) C dX6_frontPlace_74 rfl ?_
              refine y_istore_n (n := 76) (ls' := [(3, .int (x3 + 0)), (5, .int 0), (0, .ref (E.2.2.2.2.1 + o)), (1, .int x1), (2, .int x2), (4, .int x4)]) C dX6_frontPlace_75 (by decide) rfl rfl ?_
              refine y_iinc (n := 79) (v := x4 + 1) (ls' := [(4, .int (x4 + 1)), (3, .int (x3 + 0)), (5, .int 0), (0, .ref (E.2.2.2.2.1 + o)), (1, .int x1), (2, .int x2)]) C dX6_frontPlace_76 5 rfl rfl (by decide) rfl rfl ?_
              refine y_goto (tgt := 12) C dX6_frontPlace_79 (by decide) ?_
              refine y_ls [3, 4, 5, 1, 0] rfl ?_
              exact ih x1 x2 (x3 + 0) (x4 + 1)
            · refine y_iload (n := 66) C dX6_frontPlace_64 0 rfl rfl ?_
              refine y_if_eq_T (tgt := 73) C dX6_frontPlace_66 (by decide) (by decide) ?_
              refine y_iconst (n := 74) C (0 : Int32) dX6_frontPlace_73 (by decide) rfl ?_
              refine y_iadd (n := 75) C dX6_frontPlace_74 rfl ?_
              refine y_istore_n (n := 76) (ls' := [(3, .int (x3 + 0)), (5, .int 0), (0, .ref (E.2.2.2.2.1 + o)), (1, .int x1), (2, .int x2), (4, .int x4)]) C dX6_frontPlace_75 (by decide) rfl rfl ?_
              refine y_iinc (n := 79) (v := x4 + 1) (ls' := [(4, .int (x4 + 1)), (3, .int (x3 + 0)), (5, .int 0), (0, .ref (E.2.2.2.2.1 + o)), (1, .int x1), (2, .int x2)]) C dX6_frontPlace_76 5 rfl rfl (by decide) rfl rfl ?_
              refine y_goto (tgt := 12) C dX6_frontPlace_79 (by decide) ?_
              refine y_ls [3, 4, 5, 1, 0] rfl ?_
              exact ih x1 x2 (x3 + 0) (x4 + 1)
          · refine y_iconst (n := 48) C (1 : Int32) dX6_frontPlace_47 (by decide) rfl ?_
            refine y_goto (tgt := 52) C dX6_frontPlace_48 (by decide) ?_
            refine y_istore (n := 54) (ls' := [(5, .int 1), (0, .ref (E.2.2.2.2.1 + o)), (1, .int x1), (2, .int x2), (3, .int x3), (4, .int x4)]) C dX6_frontPlace_52 (by decide) rfl rfl ?_
            refine y_iload_n (n := 55) C dX6_frontPlace_54 4 rfl rfl ?_
            refine y_aload_n (n := 56) C dX6_frontPlace_55 1 rfl rfl ?_
            refine y_iload (n := 58) C dX6_frontPlace_56 5 rfl rfl ?_
            refine y_cp (n := 61) C (fun r hr H locs la hP hS hl => y_runV (ci := 6) (st := [.int x3]) C ky_X6_isSeen wd_913 ⟨Nat.le_of_ble_eq_true rfl, Nat.le_of_ble_eq_true rfl⟩ hO.1 rfl (mX6_isSeen hO w x4 g.2.1 r hr) rfl (Nat.le_of_ble_eq_true rfl) rfl dX6_frontPlace_58 hP hS hl) rfl (fun v14 hv14 => ?_)
            refine y_if_eq (tgt := 73) (n := 64) C dX6_frontPlace_61 (by decide) rfl (fun h15 => ?_) (fun h15 => ?_)
            · refine y_iconst (n := 74) C (0 : Int32) dX6_frontPlace_73 (by decide) rfl ?_
              refine y_iadd (n := 75) C dX6_frontPlace_74 rfl ?_
              refine y_istore_n (n := 76) (ls' := [(3, .int (x3 + 0)), (5, .int 1), (0, .ref (E.2.2.2.2.1 + o)), (1, .int x1), (2, .int x2), (4, .int x4)]) C dX6_frontPlace_75 (by decide) rfl rfl ?_
              refine y_iinc (n := 79) (v := x4 + 1) (ls' := [(4, .int (x4 + 1)), (3, .int (x3 + 0)), (5, .int 1), (0, .ref (E.2.2.2.2.1 + o)), (1, .int x1), (2, .int x2)]) C dX6_frontPlace_76 5 rfl rfl (by decide) rfl rfl ?_
              refine y_goto (tgt := 12) C dX6_frontPlace_79 (by decide) ?_
              refine y_ls [3, 4, 5, 1, 0] rfl ?_
              exact ih x1 x2 (x3 + 0) (x4 + 1)
            · refine y_iload (n := 66) C dX6_frontPlace_64 0 rfl rfl ?_
              refine y_if_eq_F (tgt := 73) (n := 69) C dX6_frontPlace_66 (by decide) rfl (by decide) ?_
              refine y_iconst (n := 70) C (1 : Int32) dX6_frontPlace_69 (by decide) rfl ?_
              refine y_goto (tgt := 74) C dX6_frontPlace_70 (by decide) ?_
              refine y_iadd (n := 75) C dX6_frontPlace_74 rfl ?_
              refine y_istore_n (n := 76) (ls' := [(3, .int (x3 + 1)), (5, .int 1), (0, .ref (E.2.2.2.2.1 + o)), (1, .int x1), (2, .int x2), (4, .int x4)]) C dX6_frontPlace_75 (by decide) rfl rfl ?_
              refine y_iinc (n := 79) (v := x4 + 1) (ls' := [(4, .int (x4 + 1)), (3, .int (x3 + 1)), (5, .int 1), (0, .ref (E.2.2.2.2.1 + o)), (1, .int x1), (2, .int x2)]) C dX6_frontPlace_76 5 rfl rfl (by decide) rfl rfl ?_
              refine y_goto (tgt := 12) C dX6_frontPlace_79 (by decide) ?_
              refine y_ls [3, 4, 5, 1, 0] rfl ?_
              exact ih x1 x2 (x3 + 1) (x4 + 1)
def fX6_frontPlace (w : Wd) (o : Nat) (a1 : Int32) : Option (Int32) :=
  (ldI 60 w (o + 5) a1).bind fun v1 =>
  lX6_frontPlace_12 o 4096 w a1 v1 0 0
set_option maxRecDepth 4000 in
theorem eX6_frontPlace {g : Gx} {E : Ex} (C : CC g E cX6_frontPlace 6 RX6 1 21) (hR : RT g (some .int)) {o : Nat} (hO : shM E.2.2.2.2.2.1 o) (w : Wd) (a1 : Int32) : YO g E 6 (QP g E w) (fX6_frontPlace w o a1) w 0 [(0, .ref (E.2.2.2.2.1 + o)), (1, .int a1)] [] := by
  unfold fX6_frontPlace
  refine y_aload_n (n := 1) C dX6_frontPlace_0 0 rfl rfl ?_
  refine y_get (ci := 6) (f := 4) (n := 4) C in_X6 hO.1 rfl (by decide) wd_735 rfl rfl dX6_frontPlace_1 rfl ?_
  refine y_iload_n (n := 5) C dX6_frontPlace_4 1 rfl rfl ?_
  refine y_iald (n := 6) C hO.2.2.2.2.2.1 dX6_frontPlace_5 rfl (fun v1 hv1 => ?_)
  refine y_istore_n (n := 7) (ls' := [(2, .int v1), (0, .ref (E.2.2.2.2.1 + o)), (1, .int a1)]) C dX6_frontPlace_6 (by decide) rfl rfl ?_
  refine y_iconst (n := 8) C (0 : Int32) dX6_frontPlace_7 (by decide) rfl ?_
  refine y_istore_n (n := 9) (ls' := [(3, .int 0), (2, .int v1), (0, .ref (E.2.2.2.2.1 + o)), (1, .int a1)]) C dX6_frontPlace_8 (by decide) rfl rfl ?_
  refine y_iconst (n := 10) C (0 : Int32) dX6_frontPlace_9 (by decide) rfl ?_
  refine y_istore (n := 12) (ls' := [(4, .int 0), (3, .int 0), (2, .int v1), (0, .ref (E.2.2.2.2.1 + o)), (1, .int a1)]) C dX6_frontPlace_10 (by decide) rfl rfl ?_
  refine y_ls [3, 4, 2, 1, 0] rfl ?_
  exact clX6_frontPlace_12 C hR hO w 4096 a1 v1 0 0
theorem mX6_frontPlace {E : Ex} {o : Nat} (hO : shM E.2.2.2.2.2.1 o) (w : Wd) (a1 : Int32) (l : Launch) : MP l yX6_frontPlace cX6_frontPlace 6 (some .int) { frames := 1, cells := 0, slots := 0, locals := 21 } E [.ref (E.2.2.2.2.1 + o), .int a1] w (fX6_frontPlace w o a1) :=
  y_met (Qc := fun r => yQi E (r, w)) (by decide +kernel) (Nat.le_of_ble_eq_true rfl) (fun g C hR => eX6_frontPlace C hR hO w a1) l
def lX6_frontAt_4 (o : Nat) : Nat → Wd → Int32 → Int32 → Int32 → Option (Int32)
  | 0, _, _, _, _ => none
  | n + 1, w, x1, x2, x3 =>
    if 60 ≤ x3 then
      some x2
    else
      (fX6_isSeen w o x3).bind fun v2 =>
      if v2 = 0 then
        lX6_frontAt_4 o n w x1 x2 (x3 + 1)
      else
        (fX6_frontPlace w o x3).bind fun v4 =>
        if v4 = x1 then
          lX6_frontAt_4 o n w x1 x3 (x3 + 1)
        else
          lX6_frontAt_4 o n w x1 x2 (x3 + 1)
set_option maxRecDepth 4000 in
theorem clX6_frontAt_4 {g : Gx} {E : Ex} (C : CC g E cX6_frontAt 4 RX6 2 46) (hR : RT g (some .int)) {o : Nat} (hO : shM E.2.2.2.2.2.1 o) (w : Wd) : ∀ (n : Nat) (x1 : Int32) (x2 : Int32) (x3 : Int32), YO g E 4 (QP g E w) (lX6_frontAt_4 o n w x1 x2 x3) w 4 [(0, .ref (E.2.2.2.2.1 + o)), (1, .int x1), (2, .int x2), (3, .int x3)] [] := by
  intro n
  induction n with
  | zero => intro x1 x2 x3; exact y_no
  | succ n ih =>
    intro x1 x2 x3
    rw [lX6_frontAt_4]
    refine y_iload_n (n := 5) C dX6_frontAt_4 3 rfl rfl ?_
    refine y_bipush (n := 7) C (60 : Int32) dX6_frontAt_5 (by decide) rfl ?_
    refine y_icmp_ge (tgt := 39) (n := 10) C dX6_frontAt_7 (by decide) rfl (fun h1 => ?_) (fun h1 => ?_)
    · refine y_iload_n (n := 40) C dX6_frontAt_39 2 rfl rfl ?_
      exact y_rp C hR dX6_frontAt_40
    · refine y_aload_n (n := 11) C dX6_frontAt_10 0 rfl rfl ?_
      refine y_iload_n (n := 12) C dX6_frontAt_11 3 rfl rfl ?_
      refine y_cp (n := 15) C (fun r hr H locs la hP hS hl => y_runV (ci := 6) (st := []) C ky_X6_isSeen wd_913 ⟨Nat.le_of_ble_eq_true rfl, Nat.le_of_ble_eq_true rfl⟩ hO.1 rfl (mX6_isSeen hO w x3 g.2.1 r hr) rfl (Nat.le_of_ble_eq_true rfl) rfl dX6_frontAt_12 hP hS hl) rfl (fun v2 hv2 => ?_)
      refine y_if_eq (tgt := 31) (n := 18) C dX6_frontAt_15 (by decide) rfl (fun h3 => ?_) (fun h3 => ?_)
      · refine y_iload_n (n := 32) C dX6_frontAt_31 2 rfl rfl ?_
        refine y_istore_n (n := 33) (ls' := [(2, .int x2), (0, .ref (E.2.2.2.2.1 + o)), (1, .int x1), (3, .int x3)]) C dX6_frontAt_32 (by decide) rfl rfl ?_
        refine y_iinc (n := 36) (v := x3 + 1) (ls' := [(3, .int (x3 + 1)), (2, .int x2), (0, .ref (E.2.2.2.2.1 + o)), (1, .int x1)]) C dX6_frontAt_33 3 rfl rfl (by decide) rfl rfl ?_
        refine y_goto (tgt := 4) C dX6_frontAt_36 (by decide) ?_
        refine y_ls [2, 3, 1, 0] rfl ?_
        exact ih x1 x2 (x3 + 1)
      · refine y_aload_n (n := 19) C dX6_frontAt_18 0 rfl rfl ?_
        refine y_iload_n (n := 20) C dX6_frontAt_19 3 rfl rfl ?_
        refine y_cp (n := 23) C (fun r hr H locs la hP hS hl => y_runV (ci := 6) (st := []) C ky_X6_frontPlace wd_933 ⟨Nat.le_of_ble_eq_true rfl, Nat.le_of_ble_eq_true rfl⟩ hO.1 rfl (mX6_frontPlace hO w x3 g.2.1 r hr) rfl (Nat.le_of_ble_eq_true rfl) rfl dX6_frontAt_20 hP hS hl) rfl (fun v4 hv4 => ?_)
        refine y_iload_n (n := 24) C dX6_frontAt_23 1 rfl rfl ?_
        refine y_icmp_ne (tgt := 31) (n := 27) C dX6_frontAt_24 (by decide) rfl (fun h5 => ?_) (fun h5 => ?_)
        · refine y_iload_n (n := 32) C dX6_frontAt_31 2 rfl rfl ?_
          refine y_istore_n (n := 33) (ls' := [(2, .int x2), (0, .ref (E.2.2.2.2.1 + o)), (1, .int x1), (3, .int x3)]) C dX6_frontAt_32 (by decide) rfl rfl ?_
          refine y_iinc (n := 36) (v := x3 + 1) (ls' := [(3, .int (x3 + 1)), (2, .int x2), (0, .ref (E.2.2.2.2.1 + o)), (1, .int x1)]) C dX6_frontAt_33 3 rfl rfl (by decide) rfl rfl ?_
          refine y_goto (tgt := 4) C dX6_frontAt_36 (by decide) ?_
          refine y_ls [2, 3, 1, 0] rfl ?_
          exact ih x1 x2 (x3 + 1)
        · refine y_iload_n (n := 28) C dX6_frontAt_27 3 rfl rfl ?_
          refine y_goto (tgt := 32) C dX6_frontAt_28 (by decide) ?_
          refine y_istore_n (n := 33) (ls' := [(2, .int x3), (0, .ref (E.2.2.2.2.1 + o)), (1, .int x1), (3, .int x3)]) C dX6_frontAt_32 (by decide) rfl rfl ?_
          refine y_iinc (n := 36) (v := x3 + 1) (ls' := [(3, .int (x3 + 1)), (2, .int x3), (0, .ref (E.2.2.2.2.1 + o)), (1, .int x1)]) C dX6_frontAt_33 3 rfl rfl (by decide) rfl rfl ?_
          refine y_goto (tgt := 4) C dX6_frontAt_36 (by decide) ?_
          refine y_ls [2, 3, 1, 0] rfl ?_
          exact ih x1 x3 (x3 + 1)
def fX6_frontAt (w : Wd) (o : Nat) (a1 : Int32) : Option (Int32) :=
  lX6_frontAt_4 o 4096 w a1 (-1) 0
set_option maxRecDepth 4000 in
theorem eX6_frontAt {g : Gx} {E : Ex} (C : CC g E cX6_frontAt 4 RX6 2 46) (hR : RT g (some .int)) {o : Nat} (hO : shM E.2.2.2.2.2.1 o) (w : Wd) (a1 : Int32) : YO g E 4 (QP g E w) (fX6_frontAt w o a1) w 0 [(0, .ref (E.2.2.2.2.1 + o)), (1, .int a1)] [] := by
  unfold fX6_frontAt
  refine y_iconst (n := 1) C ((-1) : Int32) dX6_frontAt_0 (by decide) rfl ?_
  refine y_istore_n (n := 2) (ls' := [(2, .int (-1)), (0, .ref (E.2.2.2.2.1 + o)), (1, .int a1)]) C dX6_frontAt_1 (by decide) rfl rfl ?_
  refine y_iconst (n := 3) C (0 : Int32) dX6_frontAt_2 (by decide) rfl ?_
  refine y_istore_n (n := 4) (ls' := [(3, .int 0), (2, .int (-1)), (0, .ref (E.2.2.2.2.1 + o)), (1, .int a1)]) C dX6_frontAt_3 (by decide) rfl rfl ?_
  refine y_ls [2, 3, 1, 0] rfl ?_
  exact clX6_frontAt_4 C hR hO w 4096 a1 (-1) 0
theorem mX6_frontAt {E : Ex} {o : Nat} (hO : shM E.2.2.2.2.2.1 o) (w : Wd) (a1 : Int32) (l : Launch) : MP l yX6_frontAt cX6_frontAt 4 (some .int) { frames := 2, cells := 0, slots := 0, locals := 46 } E [.ref (E.2.2.2.2.1 + o), .int a1] w (fX6_frontAt w o a1) :=
  y_met (Qc := fun r => yQi E (r, w)) (by decide +kernel) (Nat.le_of_ble_eq_true rfl) (fun g C hR => eX6_frontAt C hR hO w a1) l
def fX6_isKnown (w : Wd) (o : Nat) (a1 : Int32) (a2 : Int32) : Option (Int32) :=
  (fX6_left w o a1).bind fun v1 =>
  if v1 = 0 then
    rtZ 1
  else
    (ldI 706 w (o + 1) (646 + a2)).bind fun v3 =>
    if ((v3 >>> (a1 &&& 31)) &&& 1) = 1 then
      rtZ 1
    else
      rtZ 0
set_option maxRecDepth 4000 in
theorem eX6_isKnown {g : Gx} {E : Ex} (C : CC g E cX6_isKnown 3 RX6 1 21) (hR : RT g (some .boolean)) {o : Nat} (hO : shM E.2.2.2.2.2.1 o) (w : Wd) (a1 : Int32) (a2 : Int32) : YO g E 3 (QP g E w) (fX6_isKnown w o a1 a2) w 0 [(0, .ref (E.2.2.2.2.1 + o)), (1, .int a1), (2, .int a2)] [] := by
  unfold fX6_isKnown
  refine y_aload_n (n := 1) C dX6_isKnown_0 0 rfl rfl ?_
  refine y_iload_n (n := 2) C dX6_isKnown_1 1 rfl rfl ?_
  refine y_cp (n := 5) C (fun r hr H locs la hP hS hl => y_runV (ci := 6) (st := []) C ky_X6_left wd_905 ⟨Nat.le_of_ble_eq_true rfl, Nat.le_of_ble_eq_true rfl⟩ hO.1 rfl (mX6_left hO w a1 g.2.1 r hr) rfl (Nat.le_of_ble_eq_true rfl) rfl dX6_isKnown_2 hP hS hl) rfl (fun v1 hv1 => ?_)
  refine y_if_eq (tgt := 26) (n := 8) C dX6_isKnown_5 (by decide) rfl (fun h2 => ?_) (fun h2 => ?_)
  · refine y_iconst (n := 27) C (1 : Int32) dX6_isKnown_26 (by decide) rfl ?_
    refine y_goto (tgt := 31) C dX6_isKnown_27 (by decide) ?_
    exact y_rz C hR dX6_isKnown_31
  · refine y_aload_n (n := 9) C dX6_isKnown_8 0 rfl rfl ?_
    refine y_get (ci := 6) (f := 0) (n := 12) C in_X6 hO.1 rfl (by decide) wd_731 rfl rfl dX6_isKnown_9 rfl ?_
    refine y_sipush (n := 15) C (646 : Int32) dX6_isKnown_12 (by decide) rfl ?_
    refine y_iload_n (n := 16) C dX6_isKnown_15 2 rfl rfl ?_
    refine y_iadd (n := 17) C dX6_isKnown_16 rfl ?_
    refine y_iald (n := 18) C hO.2.1 dX6_isKnown_17 rfl (fun v3 hv3 => ?_)
    refine y_iload_n (n := 19) C dX6_isKnown_18 1 rfl rfl ?_
    refine y_ishr (n := 20) C dX6_isKnown_19 rfl ?_
    refine y_iconst (n := 21) C (1 : Int32) dX6_isKnown_20 (by decide) rfl ?_
    refine y_iand (n := 22) C dX6_isKnown_21 rfl ?_
    refine y_iconst (n := 23) C (1 : Int32) dX6_isKnown_22 (by decide) rfl ?_
    refine y_icmp_ne (tgt := 30) (n := 26) C dX6_isKnown_23 (by decide) rfl (fun h4 => ?_) (fun h4 => ?_)
    · refine y_iconst (n := 31) C (0 : Int32) dX6_isKnown_30 (by decide) rfl ?_
      exact y_rz C hR dX6_isKnown_31
    · refine y_iconst (n := 27) C (1 : Int32) dX6_isKnown_26 (by decide) rfl ?_
      refine y_goto (tgt := 31) C dX6_isKnown_27 (by decide) ?_
      exact y_rz C hR dX6_isKnown_31
theorem mX6_isKnown {E : Ex} {o : Nat} (hO : shM E.2.2.2.2.2.1 o) (w : Wd) (a1 : Int32) (a2 : Int32) (l : Launch) : MP l yX6_isKnown cX6_isKnown 3 (some .boolean) { frames := 1, cells := 0, slots := 0, locals := 21 } E [.ref (E.2.2.2.2.1 + o), .int a1, .int a2] w (fX6_isKnown w o a1 a2) :=
  y_met (Qc := fun r => yQi E (r, w)) (by decide +kernel) (Nat.le_of_ble_eq_true rfl) (fun g C hR => eX6_isKnown C hR hO w a1 a2) l
def lX6_high_9 (o : Nat) : Nat → Wd → Int32 → Int32 → Int32 → Option (Int32)
  | 0, _, _, _, _ => none
  | n + 1, w, x1, x2, x3 =>
    if 6 ≤ x3 then
      some x2
    else
      (fX6_isAsked w o x3).bind fun v3 =>
      if v3 = 0 then
        lX6_high_9 o n w x1 (x2 + 0) (x3 + 1)
      else
        (fX6_isKnown w o x3 x1).bind fun v5 =>
        if v5 = 0 then
          (ldI 706 w (o + 1) (486 + x3)).bind fun v7 =>
          (fX6_toldBound w o x3).bind fun v8 =>
          lX6_high_9 o n w x1 (x2 + (v7 * v8)) (x3 + 1)
        else
          lX6_high_9 o n w x1 (x2 + 0) (x3 + 1)
set_option maxRecDepth 4000 in
theorem clX6_high_9 {g : Gx} {E : Ex} (C : CC g E cX6_high 4 RX6 3 65) (hR : RT g (some .int)) {o : Nat} (hO : shM E.2.2.2.2.2.1 o) (w : Wd) : ∀ (n : Nat) (x1 : Int32) (x2 : Int32) (x3 : Int32), YO g E 4 (QP g E w) (lX6_high_9 o n w x1 x2 x3) w 9 [(0, .ref (E.2.2.2.2.1 + o)), (1, .int x1), (2, .int x2), (3, .int x3)] [] := by
  intro n
  induction n with
  | zero => intro x1 x2 x3; exact y_no
  | succ n ih =>
    intro x1 x2 x3
    rw [lX6_high_9]
    refine y_iload_n (n := 10) C dX6_high_9 3 rfl rfl ?_
    refine y_bipush (n := 12) C (6 : Int32) dX6_high_10 (by decide) rfl ?_
    refine y_icmp_ge (tgt := 61) (n := 15) C dX6_high_12 (by decide) rfl (fun h2 => ?_) (fun h2 => ?_)
    · refine y_iload_n (n := 62) C dX6_high_61 2 rfl rfl ?_
      exact y_rp C hR dX6_high_62
    · refine y_iload_n (n := 16) C dX6_high_15 2 rfl rfl ?_
      refine y_aload_n (n := 17) C dX6_high_16 0 rfl rfl ?_
      refine y_iload_n (n := 18) C dX6_high_17 3 rfl rfl ?_
      refine y_cp (n := 21) C (fun r hr H locs la hP hS hl => y_runV (ci := 6) (st := [.int x2]) C ky_X6_isAsked wd_889 ⟨Nat.le_of_ble_eq_true rfl, Nat.le_of_ble_eq_true rfl⟩ hO.1 rfl (mX6_isAsked hO w x3 g.2.1 r hr) rfl (Nat.le_of_ble_eq_true rfl) rfl dX6_high_18 hP hS hl) rfl (fun v3 hv3 => ?_)
      refine y_if_eq (tgt := 52) (n := 24) C dX6_high_21 (by decide) rfl (fun h4 => ?_) (fun h4 => ?_)
      · refine y_iconst (n := 53) C (0 : Int32) dX6_high_52 (by decide) rfl ?_
        refine y_iadd (n := 54) C dX6_high_53 rfl ?_
        refine y_istore_n (n := 55) (ls' := [(2, .int (x2 + 0)), (0, .ref (E.2.2.2.2.1 + o)), (1, .int x1), (3, .int x3)]) C dX6_high_54 (by decide) rfl rfl ?_
        refine y_iinc (n := 58) (v := x3 + 1) (ls' := [(3, .int (x3 + 1)), (2, .int (x2 + 0)), (0, .ref (E.2.2.2.2.1 + o)), (1, .int x1)]) C dX6_high_55 3 rfl rfl (by decide) rfl rfl ?_
        refine y_goto (tgt := 9) C dX6_high_58 (by decide) ?_
        refine y_ls [2, 3, 1, 0] rfl ?_
        exact ih x1 (x2 + 0) (x3 + 1)
      · refine y_aload_n (n := 25) C dX6_high_24 0 rfl rfl ?_
        refine y_iload_n (n := 26) C dX6_high_25 3 rfl rfl ?_
        refine y_iload_n (n := 27) C dX6_high_26 1 rfl rfl ?_
        refine y_cp (n := 30) C (fun r hr H locs la hP hS hl => y_runV (ci := 6) (st := [.int x2]) C ky_X6_isKnown wd_925 ⟨Nat.le_of_ble_eq_true rfl, Nat.le_of_ble_eq_true rfl⟩ hO.1 rfl (mX6_isKnown hO w x3 x1 g.2.1 r hr) rfl (Nat.le_of_ble_eq_true rfl) rfl dX6_high_27 hP hS hl) rfl (fun v5 hv5 => ?_)
        refine y_if_ne (tgt := 52) (n := 33) C dX6_high_30 (by decide) rfl (fun h6 => ?_) (fun h6 => ?_)
        · refine y_iconst (n := 53) C (0 : Int32) dX6_high_52 (by decide) rfl ?_
          refine y_iadd (n := 54) C dX6_high_53 rfl ?_
          refine y_istore_n (n := 55) (ls' := [(2, .int (x2 + 0)), (0, .ref (E.2.2.2.2.1 + o)), (1, .int x1), (3, .int x3)]) C dX6_high_54 (by decide) rfl rfl ?_
          refine y_iinc (n := 58) (v := x3 + 1) (ls' := [(3, .int (x3 + 1)), (2, .int (x2 + 0)), (0, .ref (E.2.2.2.2.1 + o)), (1, .int x1)]) C dX6_high_55 3 rfl rfl (by decide) rfl rfl ?_
          refine y_goto (tgt := 9) C dX6_high_58 (by decide) ?_
          refine y_ls [2, 3, 1, 0] rfl ?_
          exact ih x1 (x2 + 0) (x3 + 1)
        · refine y_aload_n (n := 34) C dX6_high_33 0 rfl rfl ?_
          refine y_get (ci := 6) (f := 0) (n := 37) C in_X6 hO.1 rfl (by decide) wd_731 rfl rfl dX6_high_34 rfl ?_
          refine y_sipush (n := 40) C (486 : Int32) dX6_high_37 (by decide) rfl ?_
          refine y_iload_n (n := 41) C dX6_high_40 3 rfl rfl ?_
          refine y_iadd (n := 42) C dX6_high_41 rfl ?_
          refine y_iald (n := 43) C hO.2.1 dX6_high_42 rfl (fun v7 hv7 => ?_)
          refine y_aload_n (n := 44) C dX6_high_43 0 rfl rfl ?_
          refine y_iload_n (n := 45) C dX6_high_44 3 rfl rfl ?_
          refine y_cp (n := 48) C (fun r hr H locs la hP hS hl => y_runV (ci := 6) (st := [.int v7, .int x2]) C ky_X6_toldBound wd_941 ⟨Nat.le_of_ble_eq_true rfl, Nat.le_of_ble_eq_true rfl⟩ hO.1 rfl (mX6_toldBound hO w x3 g.2.1 r hr) rfl (Nat.le_of_ble_eq_true rfl) rfl dX6_high_45 hP hS hl) rfl (fun v8 hv8 => ?_)
          refine y_imul (n := 49) C dX6_high_48 rfl ?_
          refine y_goto (tgt := 53) C dX6_high_49 (by decide) ?_
          refine y_iadd (n := 54) C dX6_high_53 rfl ?_
          refine y_istore_n (n := 55) (ls' := [(2, .int (x2 + (v7 * v8))), (0, .ref (E.2.2.2.2.1 + o)), (1, .int x1), (3, .int x3)]) C dX6_high_54 (by decide) rfl rfl ?_
          refine y_iinc (n := 58) (v := x3 + 1) (ls' := [(3, .int (x3 + 1)), (2, .int (x2 + (v7 * v8))), (0, .ref (E.2.2.2.2.1 + o)), (1, .int x1)]) C dX6_high_55 3 rfl rfl (by decide) rfl rfl ?_
          refine y_goto (tgt := 9) C dX6_high_58 (by decide) ?_
          refine y_ls [2, 3, 1, 0] rfl ?_
          exact ih x1 (x2 + (v7 * v8)) (x3 + 1)
def fX6_high (w : Wd) (o : Nat) (a1 : Int32) : Option (Int32) :=
  (ldI 60 w (o + 5) a1).bind fun v1 =>
  lX6_high_9 o 4096 w a1 v1 0
set_option maxRecDepth 4000 in
theorem eX6_high {g : Gx} {E : Ex} (C : CC g E cX6_high 4 RX6 3 65) (hR : RT g (some .int)) {o : Nat} (hO : shM E.2.2.2.2.2.1 o) (w : Wd) (a1 : Int32) : YO g E 4 (QP g E w) (fX6_high w o a1) w 0 [(0, .ref (E.2.2.2.2.1 + o)), (1, .int a1)] [] := by
  unfold fX6_high
  refine y_aload_n (n := 1) C dX6_high_0 0 rfl rfl ?_
  refine y_get (ci := 6) (f := 4) (n := 4) C in_X6 hO.1 rfl (by decide) wd_735 rfl rfl dX6_high_1 rfl ?_
  refine y_iload_n (n := 5) C dX6_high_4 1 rfl rfl ?_
  refine y_iald (n := 6) C hO.2.2.2.2.2.1 dX6_high_5 rfl (fun v1 hv1 => ?_)
  refine y_istore_n (n := 7) (ls' := [(2, .int v1), (0, .ref (E.2.2.2.2.1 + o)), (1, .int a1)]) C dX6_high_6 (by decide) rfl rfl ?_
  refine y_iconst (n := 8) C (0 : Int32) dX6_high_7 (by decide) rfl ?_
  refine y_istore_n (n := 9) (ls' := [(3, .int 0), (2, .int v1), (0, .ref (E.2.2.2.2.1 + o)), (1, .int a1)]) C dX6_high_8 (by decide) rfl rfl ?_
  refine y_ls [2, 3, 1, 0] rfl ?_
  exact clX6_high_9 C hR hO w 4096 a1 v1 0
theorem mX6_high {E : Ex} {o : Nat} (hO : shM E.2.2.2.2.2.1 o) (w : Wd) (a1 : Int32) (l : Launch) : MP l yX6_high cX6_high 4 (some .int) { frames := 3, cells := 0, slots := 0, locals := 65 } E [.ref (E.2.2.2.2.1 + o), .int a1] w (fX6_high w o a1) :=
  y_met (Qc := fun r => yQi E (r, w)) (by decide +kernel) (Nat.le_of_ble_eq_true rfl) (fun g C hR => eX6_high C hR hO w a1) l
def fX6_scoreOf (w : Wd) (o : Nat) (a1 : Int32) (a2 : Int32) : Option (Int32) :=
  (fX6_placeOf w o a1 a2).bind fun v1 =>
  if 0 ≤ v1 then
    (ldI 706 w (o + 1) ((240 + (40 * a1)) + v1)).bind fun v3 =>
    some v3
  else
    some 0
set_option maxRecDepth 4000 in
theorem eX6_scoreOf {g : Gx} {E : Ex} (C : CC g E cX6_scoreOf 4 RX6 1 24) (hR : RT g (some .int)) {o : Nat} (hO : shM E.2.2.2.2.2.1 o) (w : Wd) (a1 : Int32) (a2 : Int32) : YO g E 4 (QP g E w) (fX6_scoreOf w o a1 a2) w 0 [(0, .ref (E.2.2.2.2.1 + o)), (1, .int a1), (2, .int a2)] [] := by
  unfold fX6_scoreOf
  refine y_aload_n (n := 1) C dX6_scoreOf_0 0 rfl rfl ?_
  refine y_iload_n (n := 2) C dX6_scoreOf_1 1 rfl rfl ?_
  refine y_iload_n (n := 3) C dX6_scoreOf_2 2 rfl rfl ?_
  refine y_cp (n := 6) C (fun r hr H locs la hP hS hl => y_runV (ci := 6) (st := []) C ky_X6_placeOf wd_798 ⟨Nat.le_of_ble_eq_true rfl, Nat.le_of_ble_eq_true rfl⟩ hO.1 rfl (mX6_placeOf hO w a1 a2 g.2.1 r hr) rfl (Nat.le_of_ble_eq_true rfl) rfl dX6_scoreOf_3 hP hS hl) rfl (fun v1 hv1 => ?_)
  refine y_istore_n (n := 7) (ls' := [(3, .int v1), (0, .ref (E.2.2.2.2.1 + o)), (1, .int a1), (2, .int a2)]) C dX6_scoreOf_6 (by decide) rfl rfl ?_
  refine y_iload_n (n := 8) C dX6_scoreOf_7 0 rfl rfl ?_
  refine y_if_ge (tgt := 15) (n := 11) C dX6_scoreOf_8 (by decide) rfl (fun h2 => ?_) (fun h2 => ?_)
  · refine y_aload_n (n := 16) C dX6_scoreOf_15 1 rfl rfl ?_
    refine y_get (ci := 6) (f := 0) (n := 19) C in_X6 hO.1 rfl (by decide) wd_731 rfl rfl dX6_scoreOf_16 rfl ?_
    refine y_sipush (n := 22) C (240 : Int32) dX6_scoreOf_19 (by decide) rfl ?_
    refine y_bipush (n := 24) C (40 : Int32) dX6_scoreOf_22 (by decide) rfl ?_
    refine y_iload_n (n := 25) C dX6_scoreOf_24 2 rfl rfl ?_
    refine y_imul (n := 26) C dX6_scoreOf_25 rfl ?_
    refine y_iadd (n := 27) C dX6_scoreOf_26 rfl ?_
    refine y_iload_n (n := 28) C dX6_scoreOf_27 0 rfl rfl ?_
    refine y_iadd (n := 29) C dX6_scoreOf_28 rfl ?_
    refine y_iald (n := 30) C hO.2.1 dX6_scoreOf_29 rfl (fun v3 hv3 => ?_)
    exact y_rp C hR dX6_scoreOf_30
  · refine y_iconst (n := 12) C (0 : Int32) dX6_scoreOf_11 (by decide) rfl ?_
    refine y_goto (tgt := 30) C dX6_scoreOf_12 (by decide) ?_
    exact y_rp C hR dX6_scoreOf_30
theorem mX6_scoreOf {E : Ex} {o : Nat} (hO : shM E.2.2.2.2.2.1 o) (w : Wd) (a1 : Int32) (a2 : Int32) (l : Launch) : MP l yX6_scoreOf cX6_scoreOf 4 (some .int) { frames := 1, cells := 0, slots := 0, locals := 24 } E [.ref (E.2.2.2.2.1 + o), .int a1, .int a2] w (fX6_scoreOf w o a1 a2) :=
  y_met (Qc := fun r => yQi E (r, w)) (by decide +kernel) (Nat.le_of_ble_eq_true rfl) (fun g C hR => eX6_scoreOf C hR hO w a1 a2) l
def lX6_low_4 (o : Nat) : Nat → Wd → Int32 → Int32 → Int32 → Option (Int32)
  | 0, _, _, _, _ => none
  | n + 1, w, x1, x2, x3 =>
    if 6 ≤ x3 then
      some x2
    else
      (fX6_isAsked w o x3).bind fun v2 =>
      if v2 = 0 then
        lX6_low_4 o n w x1 (x2 + 0) (x3 + 1)
      else
        (fX6_isKnown w o x3 x1).bind fun v4 =>
        if v4 = 0 then
          lX6_low_4 o n w x1 (x2 + 0) (x3 + 1)
        else
          (ldI 706 w (o + 1) (486 + x3)).bind fun v6 =>
          (fX6_scoreOf w o x3 x1).bind fun v7 =>
          lX6_low_4 o n w x1 (x2 + (v6 * v7)) (x3 + 1)
set_option maxRecDepth 4000 in
theorem clX6_low_4 {g : Gx} {E : Ex} (C : CC g E cX6_low 4 RX6 2 47) (hR : RT g (some .int)) {o : Nat} (hO : shM E.2.2.2.2.2.1 o) (w : Wd) : ∀ (n : Nat) (x1 : Int32) (x2 : Int32) (x3 : Int32), YO g E 4 (QP g E w) (lX6_low_4 o n w x1 x2 x3) w 4 [(0, .ref (E.2.2.2.2.1 + o)), (1, .int x1), (2, .int x2), (3, .int x3)] [] := by
  intro n
  induction n with
  | zero => intro x1 x2 x3; exact y_no
  | succ n ih =>
    intro x1 x2 x3
    rw [lX6_low_4]
    refine y_iload_n (n := 5) C dX6_low_4 3 rfl rfl ?_
    refine y_bipush (n := 7) C (6 : Int32) dX6_low_5 (by decide) rfl ?_
    refine y_icmp_ge (tgt := 57) (n := 10) C dX6_low_7 (by decide) rfl (fun h1 => ?_) (fun h1 => ?_)
    · refine y_iload_n (n := 58) C dX6_low_57 2 rfl rfl ?_
      exact y_rp C hR dX6_low_58
    · refine y_iload_n (n := 11) C dX6_low_10 2 rfl rfl ?_
      refine y_aload_n (n := 12) C dX6_low_11 0 rfl rfl ?_
      refine y_iload_n (n := 13) C dX6_low_12 3 rfl rfl ?_
      refine y_cp (n := 16) C (fun r hr H locs la hP hS hl => y_runV (ci := 6) (st := [.int x2]) C ky_X6_isAsked wd_889 ⟨Nat.le_of_ble_eq_true rfl, Nat.le_of_ble_eq_true rfl⟩ hO.1 rfl (mX6_isAsked hO w x3 g.2.1 r hr) rfl (Nat.le_of_ble_eq_true rfl) rfl dX6_low_13 hP hS hl) rfl (fun v2 hv2 => ?_)
      refine y_if_eq (tgt := 48) (n := 19) C dX6_low_16 (by decide) rfl (fun h3 => ?_) (fun h3 => ?_)
      · refine y_iconst (n := 49) C (0 : Int32) dX6_low_48 (by decide) rfl ?_
        refine y_iadd (n := 50) C dX6_low_49 rfl ?_
        refine y_istore_n (n := 51) (ls' := [(2, .int (x2 + 0)), (0, .ref (E.2.2.2.2.1 + o)), (1, .int x1), (3, .int x3)]) C dX6_low_50 (by decide) rfl rfl ?_
        refine y_iinc (n := 54) (v := x3 + 1) (ls' := [(3, .int (x3 + 1)), (2, .int (x2 + 0)), (0, .ref (E.2.2.2.2.1 + o)), (1, .int x1)]) C dX6_low_51 3 rfl rfl (by decide) rfl rfl ?_
        refine y_goto (tgt := 4) C dX6_low_54 (by decide) ?_
        refine y_ls [2, 3, 1, 0] rfl ?_
        exact ih x1 (x2 + 0) (x3 + 1)
      · refine y_aload_n (n := 20) C dX6_low_19 0 rfl rfl ?_
        refine y_iload_n (n := 21) C dX6_low_20 3 rfl rfl ?_
        refine y_iload_n (n := 22) C dX6_low_21 1 rfl rfl ?_
        refine y_cp (n := 25) C (fun r hr H locs la hP hS hl => y_runV (ci := 6) (st := [.int x2]) C ky_X6_isKnown wd_925 ⟨Nat.le_of_ble_eq_true rfl, Nat.le_of_ble_eq_true rfl⟩ hO.1 rfl (mX6_isKnown hO w x3 x1 g.2.1 r hr) rfl (Nat.le_of_ble_eq_true rfl) rfl dX6_low_22 hP hS hl) rfl (fun v4 hv4 => ?_)
        refine y_if_eq (tgt := 48) (n := 28) C dX6_low_25 (by decide) rfl (fun h5 => ?_) (fun h5 => ?_)
        · refine y_iconst (n := 49) C (0 : Int32) dX6_low_48 (by decide) rfl ?_
          refine y_iadd (n := 50) C dX6_low_49 rfl ?_
          refine y_istore_n (n := 51) (ls' := [(2, .int (x2 + 0)), (0, .ref (E.2.2.2.2.1 + o)), (1, .int x1), (3, .int x3)]) C dX6_low_50 (by decide) rfl rfl ?_
          refine y_iinc (n := 54) (v := x3 + 1) (ls' := [(3, .int (x3 + 1)), (2, .int (x2 + 0)), (0, .ref (E.2.2.2.2.1 + o)), (1, .int x1)]) C dX6_low_51 3 rfl rfl (by decide) rfl rfl ?_
          refine y_goto (tgt := 4) C dX6_low_54 (by decide) ?_
          refine y_ls [2, 3, 1, 0] rfl ?_
          exact ih x1 (x2 + 0) (x3 + 1)
        · refine y_aload_n (n := 29) C dX6_low_28 0 rfl rfl ?_
          refine y_get (ci := 6) (f := 0) (n := 32) C in_X6 hO.1 rfl (by decide) wd_731 rfl rfl dX6_low_29 rfl ?_
          refine y_sipush (n := 35) C (486 : Int32) dX6_low_32 (by decide) rfl ?_
          refine y_iload_n (n := 36) C dX6_low_35 3 rfl rfl ?_
          refine y_iadd (n := 37) C dX6_low_36 rfl ?_
          refine y_iald (n := 38) C hO.2.1 dX6_low_37 rfl (fun v6 hv6 => ?_)
          refine y_aload_n (n := 39) C dX6_low_38 0 rfl rfl ?_
          refine y_iload_n (n := 40) C dX6_low_39 3 rfl rfl ?_
          refine y_iload_n (n := 41) C dX6_low_40 1 rfl rfl ?_
          refine y_cp (n := 44) C (fun r hr H locs la hP hS hl => y_runV (ci := 6) (st := [.int v6, .int x2]) C ky_X6_scoreOf wd_865 ⟨Nat.le_of_ble_eq_true rfl, Nat.le_of_ble_eq_true rfl⟩ hO.1 rfl (mX6_scoreOf hO w x3 x1 g.2.1 r hr) rfl (Nat.le_of_ble_eq_true rfl) rfl dX6_low_41 hP hS hl) rfl (fun v7 hv7 => ?_)
          refine y_imul (n := 45) C dX6_low_44 rfl ?_
          refine y_goto (tgt := 49) C dX6_low_45 (by decide) ?_
          refine y_iadd (n := 50) C dX6_low_49 rfl ?_
          refine y_istore_n (n := 51) (ls' := [(2, .int (x2 + (v6 * v7))), (0, .ref (E.2.2.2.2.1 + o)), (1, .int x1), (3, .int x3)]) C dX6_low_50 (by decide) rfl rfl ?_
          refine y_iinc (n := 54) (v := x3 + 1) (ls' := [(3, .int (x3 + 1)), (2, .int (x2 + (v6 * v7))), (0, .ref (E.2.2.2.2.1 + o)), (1, .int x1)]) C dX6_low_51 3 rfl rfl (by decide) rfl rfl ?_
          refine y_goto (tgt := 4) C dX6_low_54 (by decide) ?_
          refine y_ls [2, 3, 1, 0] rfl ?_
          exact ih x1 (x2 + (v6 * v7)) (x3 + 1)
def fX6_low (w : Wd) (o : Nat) (a1 : Int32) : Option (Int32) :=
  lX6_low_4 o 4096 w a1 0 0
set_option maxRecDepth 4000 in
theorem eX6_low {g : Gx} {E : Ex} (C : CC g E cX6_low 4 RX6 2 47) (hR : RT g (some .int)) {o : Nat} (hO : shM E.2.2.2.2.2.1 o) (w : Wd) (a1 : Int32) : YO g E 4 (QP g E w) (fX6_low w o a1) w 0 [(0, .ref (E.2.2.2.2.1 + o)), (1, .int a1)] [] := by
  unfold fX6_low
  refine y_iconst (n := 1) C (0 : Int32) dX6_low_0 (by decide) rfl ?_
  refine y_istore_n (n := 2) (ls' := [(2, .int 0), (0, .ref (E.2.2.2.2.1 + o)), (1, .int a1)]) C dX6_low_1 (by decide) rfl rfl ?_
  refine y_iconst (n := 3) C (0 : Int32) dX6_low_2 (by decide) rfl ?_
  refine y_istore_n (n := 4) (ls' := [(3, .int 0), (2, .int 0), (0, .ref (E.2.2.2.2.1 + o)), (1, .int a1)]) C dX6_low_3 (by decide) rfl rfl ?_
  refine y_ls [2, 3, 1, 0] rfl ?_
  exact clX6_low_4 C hR hO w 4096 a1 0 0
theorem mX6_low {E : Ex} {o : Nat} (hO : shM E.2.2.2.2.2.1 o) (w : Wd) (a1 : Int32) (l : Launch) : MP l yX6_low cX6_low 4 (some .int) { frames := 2, cells := 0, slots := 0, locals := 47 } E [.ref (E.2.2.2.2.1 + o), .int a1] w (fX6_low w o a1) :=
  y_met (Qc := fun r => yQi E (r, w)) (by decide +kernel) (Nat.le_of_ble_eq_true rfl) (fun g C hR => eX6_low C hR hO w a1) l
def lX6_reckon_2 (o : Nat) : Nat → Wd → Int32 → Option (Wd)
  | 0, _, _ => none
  | n + 1, w, x1 =>
    if 60 ≤ x1 then
      some w
    else
      (fX6_isSeen w o x1).bind fun v2 =>
      if v2 = 0 then
        (stI 60 w (o + 5) x1 0).bind fun w4 =>
        lX6_reckon_2 o n w4 (x1 + 1)
      else
        (fX6_low w o x1).bind fun v5 =>
        (stI 60 w (o + 5) x1 v5).bind fun w6 =>
        lX6_reckon_2 o n w6 (x1 + 1)
set_option maxRecDepth 4000 in
theorem clX6_reckon_2 {g : Gx} {E : Ex} (C : CC g E cX6_reckon 2 RX6 3 70) (hR : RT g none) {o : Nat} (hO : shM E.2.2.2.2.2.1 o) : ∀ (n : Nat) (w : Wd) (x1 : Int32), YO g E 2 (QV g E) (lX6_reckon_2 o n w x1) w 2 [(0, .ref (E.2.2.2.2.1 + o)), (1, .int x1)] [] := by
  intro n
  induction n with
  | zero => intro w x1; exact y_no
  | succ n ih =>
    intro w x1
    rw [lX6_reckon_2]
    refine y_iload_n (n := 3) C dX6_reckon_2 1 rfl rfl ?_
    refine y_bipush (n := 5) C (60 : Int32) dX6_reckon_3 (by decide) rfl ?_
    refine y_icmp_ge (tgt := 37) (n := 8) C dX6_reckon_5 (by decide) rfl (fun h1 => ?_) (fun h1 => ?_)
    · exact y_rv C hR dX6_reckon_37
    · refine y_aload_n (n := 9) C dX6_reckon_8 0 rfl rfl ?_
      refine y_get (ci := 6) (f := 4) (n := 12) C in_X6 hO.1 rfl (by decide) wd_735 rfl rfl dX6_reckon_9 rfl ?_
      refine y_iload_n (n := 13) C dX6_reckon_12 1 rfl rfl ?_
      refine y_aload_n (n := 14) C dX6_reckon_13 0 rfl rfl ?_
      refine y_iload_n (n := 15) C dX6_reckon_14 1 rfl rfl ?_
      refine y_cp (n := 18) C (fun r hr H locs la hP hS hl => y_runV (ci := 6) (st := [.int x1, .ref (E.2.2.2.2.1 + (o + 5))]) C ky_X6_isSeen wd_913 ⟨Nat.le_of_ble_eq_true rfl, Nat.le_of_ble_eq_true rfl⟩ hO.1 rfl (mX6_isSeen hO w x1 g.2.1 r hr) rfl (Nat.le_of_ble_eq_true rfl) rfl dX6_reckon_15 hP hS hl) rfl (fun v2 hv2 => ?_)
      refine y_if_eq (tgt := 29) (n := 21) C dX6_reckon_18 (by decide) rfl (fun h3 => ?_) (fun h3 => ?_)
      · refine y_iconst (n := 30) C (0 : Int32) dX6_reckon_29 (by decide) rfl ?_
        refine y_iast (n := 31) C hO.2.2.2.2.2.1 dX6_reckon_30 rfl (fun w4 hw4 => ?_)
        refine y_iinc (n := 34) (v := x1 + 1) (ls' := [(1, .int (x1 + 1)), (0, .ref (E.2.2.2.2.1 + o))]) C dX6_reckon_31 1 rfl rfl (by decide) rfl rfl ?_
        refine y_goto (tgt := 2) C dX6_reckon_34 (by decide) ?_
        refine y_ls [1, 0] rfl ?_
        exact ih w4 (x1 + 1)
      · refine y_aload_n (n := 22) C dX6_reckon_21 0 rfl rfl ?_
        refine y_iload_n (n := 23) C dX6_reckon_22 1 rfl rfl ?_
        refine y_cp (n := 26) C (fun r hr H locs la hP hS hl => y_runV (ci := 6) (st := [.int x1, .ref (E.2.2.2.2.1 + (o + 5))]) C ky_X6_low wd_921 ⟨Nat.le_of_ble_eq_true rfl, Nat.le_of_ble_eq_true rfl⟩ hO.1 rfl (mX6_low hO w x1 g.2.1 r hr) rfl (Nat.le_of_ble_eq_true rfl) rfl dX6_reckon_23 hP hS hl) rfl (fun v5 hv5 => ?_)
        refine y_goto (tgt := 30) C dX6_reckon_26 (by decide) ?_
        refine y_iast (n := 31) C hO.2.2.2.2.2.1 dX6_reckon_30 rfl (fun w6 hw6 => ?_)
        refine y_iinc (n := 34) (v := x1 + 1) (ls' := [(1, .int (x1 + 1)), (0, .ref (E.2.2.2.2.1 + o))]) C dX6_reckon_31 1 rfl rfl (by decide) rfl rfl ?_
        refine y_goto (tgt := 2) C dX6_reckon_34 (by decide) ?_
        refine y_ls [1, 0] rfl ?_
        exact ih w6 (x1 + 1)
def fX6_reckon (w : Wd) (o : Nat)  : Option (Wd) :=
  lX6_reckon_2 o 4096 w 0
set_option maxRecDepth 4000 in
theorem eX6_reckon {g : Gx} {E : Ex} (C : CC g E cX6_reckon 2 RX6 3 70) (hR : RT g none) {o : Nat} (hO : shM E.2.2.2.2.2.1 o) (w : Wd)  : YO g E 2 (QV g E) (fX6_reckon w o) w 0 [(0, .ref (E.2.2.2.2.1 + o))] [] := by
  unfold fX6_reckon
  refine y_iconst (n := 1) C (0 : Int32) dX6_reckon_0 (by decide) rfl ?_
  refine y_istore_n (n := 2) (ls' := [(1, .int 0), (0, .ref (E.2.2.2.2.1 + o))]) C dX6_reckon_1 (by decide) rfl rfl ?_
  refine y_ls [1, 0] rfl ?_
  exact clX6_reckon_2 C hR hO 4096 w 0
theorem mX6_reckon {E : Ex} {o : Nat} (hO : shM E.2.2.2.2.2.1 o) (w : Wd)  (l : Launch) : MV l yX6_reckon cX6_reckon 2 none { frames := 3, cells := 0, slots := 0, locals := 70 } E [.ref (E.2.2.2.2.1 + o)] w (fX6_reckon w o) :=
  y_met (Qc := yQv E) (by decide +kernel) (Nat.le_of_ble_eq_true rfl) (fun g C hR => eX6_reckon C hR hO w ) l
def lX6_seenMany_4 (o : Nat) : Nat → Wd → Int32 → Int32 → Option (Int32)
  | 0, _, _, _ => none
  | n + 1, w, x1, x2 =>
    if 60 ≤ x2 then
      some x1
    else
      (fX6_isSeen w o x2).bind fun v2 =>
      if v2 = 0 then
        lX6_seenMany_4 o n w (x1 + 0) (x2 + 1)
      else
        lX6_seenMany_4 o n w (x1 + 1) (x2 + 1)
set_option maxRecDepth 4000 in
theorem clX6_seenMany_4 {g : Gx} {E : Ex} (C : CC g E cX6_seenMany 3 RX6 1 21) (hR : RT g (some .int)) {o : Nat} (hO : shM E.2.2.2.2.2.1 o) (w : Wd) : ∀ (n : Nat) (x1 : Int32) (x2 : Int32), YO g E 3 (QP g E w) (lX6_seenMany_4 o n w x1 x2) w 4 [(0, .ref (E.2.2.2.2.1 + o)), (1, .int x1), (2, .int x2)] [] := by
  intro n
  induction n with
  | zero => intro x1 x2; exact y_no
  | succ n ih =>
    intro x1 x2
    rw [lX6_seenMany_4]
    refine y_iload_n (n := 5) C dX6_seenMany_4 2 rfl rfl ?_
    refine y_bipush (n := 7) C (60 : Int32) dX6_seenMany_5 (by decide) rfl ?_
    refine y_icmp_ge (tgt := 32) (n := 10) C dX6_seenMany_7 (by decide) rfl (fun h1 => ?_) (fun h1 => ?_)
    · refine y_iload_n (n := 33) C dX6_seenMany_32 1 rfl rfl ?_
      exact y_rp C hR dX6_seenMany_33
    · refine y_iload_n (n := 11) C dX6_seenMany_10 1 rfl rfl ?_
      refine y_aload_n (n := 12) C dX6_seenMany_11 0 rfl rfl ?_
      refine y_iload_n (n := 13) C dX6_seenMany_12 2 rfl rfl ?_
      refine y_cp (n := 16) C (fun r hr H locs la hP hS hl => y_runV (ci := 6) (st := [.int x1]) C ky_X6_isSeen wd_913 ⟨Nat.le_of_ble_eq_true rfl, Nat.le_of_ble_eq_true rfl⟩ hO.1 rfl (mX6_isSeen hO w x2 g.2.1 r hr) rfl (Nat.le_of_ble_eq_true rfl) rfl dX6_seenMany_13 hP hS hl) rfl (fun v2 hv2 => ?_)
      refine y_if_eq (tgt := 23) (n := 19) C dX6_seenMany_16 (by decide) rfl (fun h3 => ?_) (fun h3 => ?_)
      · refine y_iconst (n := 24) C (0 : Int32) dX6_seenMany_23 (by decide) rfl ?_
        refine y_iadd (n := 25) C dX6_seenMany_24 rfl ?_
        refine y_istore_n (n := 26) (ls' := [(1, .int (x1 + 0)), (0, .ref (E.2.2.2.2.1 + o)), (2, .int x2)]) C dX6_seenMany_25 (by decide) rfl rfl ?_
        refine y_iinc (n := 29) (v := x2 + 1) (ls' := [(2, .int (x2 + 1)), (1, .int (x1 + 0)), (0, .ref (E.2.2.2.2.1 + o))]) C dX6_seenMany_26 2 rfl rfl (by decide) rfl rfl ?_
        refine y_goto (tgt := 4) C dX6_seenMany_29 (by decide) ?_
        refine y_ls [2, 1, 0] rfl ?_
        exact ih (x1 + 0) (x2 + 1)
      · refine y_iconst (n := 20) C (1 : Int32) dX6_seenMany_19 (by decide) rfl ?_
        refine y_goto (tgt := 24) C dX6_seenMany_20 (by decide) ?_
        refine y_iadd (n := 25) C dX6_seenMany_24 rfl ?_
        refine y_istore_n (n := 26) (ls' := [(1, .int (x1 + 1)), (0, .ref (E.2.2.2.2.1 + o)), (2, .int x2)]) C dX6_seenMany_25 (by decide) rfl rfl ?_
        refine y_iinc (n := 29) (v := x2 + 1) (ls' := [(2, .int (x2 + 1)), (1, .int (x1 + 1)), (0, .ref (E.2.2.2.2.1 + o))]) C dX6_seenMany_26 2 rfl rfl (by decide) rfl rfl ?_
        refine y_goto (tgt := 4) C dX6_seenMany_29 (by decide) ?_
        refine y_ls [2, 1, 0] rfl ?_
        exact ih (x1 + 1) (x2 + 1)
def fX6_seenMany (w : Wd) (o : Nat)  : Option (Int32) :=
  lX6_seenMany_4 o 4096 w 0 0
set_option maxRecDepth 4000 in
theorem eX6_seenMany {g : Gx} {E : Ex} (C : CC g E cX6_seenMany 3 RX6 1 21) (hR : RT g (some .int)) {o : Nat} (hO : shM E.2.2.2.2.2.1 o) (w : Wd)  : YO g E 3 (QP g E w) (fX6_seenMany w o) w 0 [(0, .ref (E.2.2.2.2.1 + o))] [] := by
  unfold fX6_seenMany
  refine y_iconst (n := 1) C (0 : Int32) dX6_seenMany_0 (by decide) rfl ?_
  refine y_istore_n (n := 2) (ls' := [(1, .int 0), (0, .ref (E.2.2.2.2.1 + o))]) C dX6_seenMany_1 (by decide) rfl rfl ?_
  refine y_iconst (n := 3) C (0 : Int32) dX6_seenMany_2 (by decide) rfl ?_
  refine y_istore_n (n := 4) (ls' := [(2, .int 0), (1, .int 0), (0, .ref (E.2.2.2.2.1 + o))]) C dX6_seenMany_3 (by decide) rfl rfl ?_
  refine y_ls [2, 1, 0] rfl ?_
  exact clX6_seenMany_4 C hR hO w 4096 0 0
theorem mX6_seenMany {E : Ex} {o : Nat} (hO : shM E.2.2.2.2.2.1 o) (w : Wd)  (l : Launch) : MP l yX6_seenMany cX6_seenMany 3 (some .int) { frames := 1, cells := 0, slots := 0, locals := 21 } E [.ref (E.2.2.2.2.1 + o)] w (fX6_seenMany w o) :=
  y_met (Qc := fun r => yQi E (r, w)) (by decide +kernel) (Nat.le_of_ble_eq_true rfl) (fun g C hR => eX6_seenMany C hR hO w ) l
def lX6_isOver_99 (o : Nat) : Nat → Wd → Int32 → Int32 → Int32 → Int32 → Option (Int32 × Wd)
  | 0, _, _, _, _, _ => none
  | n + 1, w, x2, x3, x4, x5 =>
    if 60 ≤ x5 then
      (rtZ x4).bind fun z => some (z, w)
    else
      if x4 = 0 then
        (rtZ x4).bind fun z => some (z, w)
      else
        (fX6_isSeen w o x5).bind fun v14 =>
        if v14 = 0 then
          lX6_isOver_99 o n w x2 x3 x4 (x5 + 1)
        else
          (fX6_frontPlace w o x5).bind fun v16 =>
          (ldI 706 w (o + 1) 558).bind fun v17 =>
          if v16 < v17 then
            lX6_isOver_99 o n w x2 x3 x4 (x5 + 1)
          else
            (fX6_high w o x5).bind fun v19 =>
            if v19 < x3 then
              lX6_isOver_99 o n w x2 x3 1 (x5 + 1)
            else
              if v19 = x3 then
                if x5 ≤ x2 then
                  lX6_isOver_99 o n w x2 x3 0 (x5 + 1)
                else
                  lX6_isOver_99 o n w x2 x3 1 (x5 + 1)
              else
                lX6_isOver_99 o n w x2 x3 0 (x5 + 1)
set_option maxRecDepth 4000 in
theorem clX6_isOver_99 {g : Gx} {E : Ex} (C : CC g E cX6_isOver 7 RX6 4 91) (hR : RT g (some .boolean)) {o : Nat} (hO : shM E.2.2.2.2.2.1 o) : ∀ (n : Nat) (w : Wd) (x2 : Int32) (x3 : Int32) (x4 : Int32) (x5 : Int32), YO g E 7 (QI g E) (lX6_isOver_99 o n w x2 x3 x4 x5) w 99 [(0, .ref (E.2.2.2.2.1 + o)), (2, .int x2), (3, .int x3), (4, .int x4), (5, .int x5)] [] := by
  intro n
  induction n with
  | zero => intro w x2 x3 x4 x5; exact y_no
  | succ n ih =>
    intro w x2 x3 x4 x5
    rw [lX6_isOver_99]
    refine y_iload (n := 101) C dX6_isOver_99 4 rfl rfl ?_
    refine y_bipush (n := 103) C (60 : Int32) dX6_isOver_101 (by decide) rfl ?_
    refine y_icmp_ge (tgt := 176) (n := 106) C dX6_isOver_103 (by decide) rfl (fun h12 => ?_) (fun h12 => ?_)
    · refine y_iload (n := 178) C dX6_isOver_176 3 rfl rfl ?_
      exact y_rzi C hR dX6_isOver_178
    · refine y_iload (n := 108) C dX6_isOver_106 3 rfl rfl ?_
      refine y_if_eq (tgt := 176) (n := 111) C dX6_isOver_108 (by decide) rfl (fun h13 => ?_) (fun h13 => ?_)
      · refine y_iload (n := 178) C dX6_isOver_176 3 rfl rfl ?_
        exact y_rzi C hR dX6_isOver_178
      · refine y_aload_n (n := 112) C dX6_isOver_111 0 rfl rfl ?_
        refine y_iload (n := 114) C dX6_isOver_112 4 rfl rfl ?_
        refine y_cp (n := 117) C (fun r hr H locs la hP hS hl => y_runV (ci := 6) (st := []) C ky_X6_isSeen wd_913 ⟨Nat.le_of_ble_eq_true rfl, Nat.le_of_ble_eq_true rfl⟩ hO.1 rfl (mX6_isSeen hO w x5 g.2.1 r hr) rfl (Nat.le_of_ble_eq_true rfl) rfl dX6_isOver_114 hP hS hl) rfl (fun v14 hv14 => ?_)
        refine y_if_eq (tgt := 170) (n := 120) C dX6_isOver_117 (by decide) rfl (fun h15 => ?_) (fun h15 => ?_)
        · refine y_iinc (n := 173) (v := x5 + 1) (ls' := [(5, .int (x5 + 1)), (0, .ref (E.2.2.2.2.1 + o)), (2, .int x2), (3, .int x3), (4, .int x4)]) C dX6_isOver_170 4 rfl rfl (by decide) rfl rfl ?_
          refine y_goto (tgt := 99) C dX6_isOver_173 (by decide) ?_
          refine y_ls [1, 2, 3, 4, 0] rfl ?_
          exact ih w x2 x3 x4 (x5 + 1)
        · refine y_aload_n (n := 121) C dX6_isOver_120 0 rfl rfl ?_
          refine y_iload (n := 123) C dX6_isOver_121 4 rfl rfl ?_
          refine y_cp (n := 126) C (fun r hr H locs la hP hS hl => y_runV (ci := 6) (st := []) C ky_X6_frontPlace wd_933 ⟨Nat.le_of_ble_eq_true rfl, Nat.le_of_ble_eq_true rfl⟩ hO.1 rfl (mX6_frontPlace hO w x5 g.2.1 r hr) rfl (Nat.le_of_ble_eq_true rfl) rfl dX6_isOver_123 hP hS hl) rfl (fun v16 hv16 => ?_)
          refine y_aload_n (n := 127) C dX6_isOver_126 0 rfl rfl ?_
          refine y_get (ci := 6) (f := 0) (n := 130) C in_X6 hO.1 rfl (by decide) wd_731 rfl rfl dX6_isOver_127 rfl ?_
          refine y_sipush (n := 133) C (558 : Int32) dX6_isOver_130 (by decide) rfl ?_
          refine y_iald (n := 134) C hO.2.1 dX6_isOver_133 rfl (fun v17 hv17 => ?_)
          refine y_icmp_lt (tgt := 170) (n := 137) C dX6_isOver_134 (by decide) rfl (fun h18 => ?_) (fun h18 => ?_)
          · refine y_iinc (n := 173) (v := x5 + 1) (ls' := [(5, .int (x5 + 1)), (0, .ref (E.2.2.2.2.1 + o)), (2, .int x2), (3, .int x3), (4, .int x4)]) C dX6_isOver_170 4 rfl rfl (by decide) rfl rfl ?_
            refine y_goto (tgt := 99) C dX6_isOver_173 (by decide) ?_
            refine y_ls [1, 2, 3, 4, 0] rfl ?_
            exact ih w x2 x3 x4 (x5 + 1)
          · refine y_aload_n (n := 138) C dX6_isOver_137 0 rfl rfl ?_
            refine y_iload (n := 140) C dX6_isOver_138 4 rfl rfl ?_
            refine y_cp (n := 143) C (fun r hr H locs la hP hS hl => y_runV (ci := 6) (st := []) C ky_X6_high wd_949 ⟨Nat.le_of_ble_eq_true rfl, Nat.le_of_ble_eq_true rfl⟩ hO.1 rfl (mX6_high hO w x5 g.2.1 r hr) rfl (Nat.le_of_ble_eq_true rfl) rfl dX6_isOver_140 hP hS hl) rfl (fun v19 hv19 => ?_)
            refine y_istore (n := 145) (ls' := [(6, .int v19), (0, .ref (E.2.2.2.2.1 + o)), (2, .int x2), (3, .int x3), (4, .int x4), (5, .int x5)]) C dX6_isOver_143 (by decide) rfl rfl ?_
            refine y_iload (n := 147) C dX6_isOver_145 0 rfl rfl ?_
            refine y_iload_n (n := 148) C dX6_isOver_147 3 rfl rfl ?_
            refine y_icmp_lt (tgt := 163) (n := 151) C dX6_isOver_148 (by decide) rfl (fun h20 => ?_) (fun h20 => ?_)
            · refine y_iconst (n := 164) C (1 : Int32) dX6_isOver_163 (by decide) rfl ?_
              refine y_goto (tgt := 168) C dX6_isOver_164 (by decide) ?_
              refine y_istore (n := 170) (ls' := [(4, .int 1), (6, .int v19), (0, .ref (E.2.2.2.2.1 + o)), (2, .int x2), (3, .int x3), (5, .int x5)]) C dX6_isOver_168 (by decide) rfl rfl ?_
              refine y_iinc (n := 173) (v := x5 + 1) (ls' := [(5, .int (x5 + 1)), (4, .int 1), (6, .int v19), (0, .ref (E.2.2.2.2.1 + o)), (2, .int x2), (3, .int x3)]) C dX6_isOver_170 5 rfl rfl (by decide) rfl rfl ?_
              refine y_goto (tgt := 99) C dX6_isOver_173 (by decide) ?_
              refine y_ls [3, 4, 5, 1, 0] rfl ?_
              exact ih w x2 x3 1 (x5 + 1)
            · refine y_iload (n := 153) C dX6_isOver_151 0 rfl rfl ?_
              refine y_iload_n (n := 154) C dX6_isOver_153 3 rfl rfl ?_
              refine y_icmp_ne (tgt := 167) (n := 157) C dX6_isOver_154 (by decide) rfl (fun h21 => ?_) (fun h21 => ?_)
              · refine y_iconst (n := 168) C (0 : Int32) dX6_isOver_167 (by decide) rfl ?_
                refine y_istore (n := 170) (ls' := [(4, .int 0), (6, .int v19), (0, .ref (E.2.2.2.2.1 + o)), (2, .int x2), (3, .int x3), (5, .int x5)]) C dX6_isOver_168 (by decide) rfl rfl ?_
                refine y_iinc (n := 173) (v := x5 + 1) (ls' := [(5, .int (x5 + 1)), (4, .int 0), (6, .int v19), (0, .ref (E.2.2.2.2.1 + o)), (2, .int x2), (3, .int x3)]) C dX6_isOver_170 5 rfl rfl (by decide) rfl rfl ?_
                refine y_goto (tgt := 99) C dX6_isOver_173 (by decide) ?_
                refine y_ls [3, 4, 5, 1, 0] rfl ?_
                exact ih w x2 x3 0 (x5 + 1)
              · refine y_iload (n := 159) C dX6_isOver_157 5 rfl rfl ?_
                refine y_iload_n (n := 160) C dX6_isOver_159 2 rfl rfl ?_
                refine y_icmp_le (tgt := 167) (n := 163) C dX6_isOver_160 (by decide) rfl (fun h22 => ?_) (fun h22 => ?_)
                · refine y_iconst (n := 168) C (0 : Int32) dX6_isOver_167 (by decide) rfl ?_
                  refine y_istore (n := 170) (ls' := [(4, .int 0), (6, .int v19), (0, .ref (E.2.2.2.2.1 + o)), (2, .int x2), (3, .int x3), (5, .int x5)]) C dX6_isOver_168 (by decide) rfl rfl ?_
                  refine y_iinc (n := 173) (v := x5 + 1) (ls' := [(5, .int (x5 + 1)), (4, .int 0), (6, .int v19), (0, .ref (E.2.2.2.2.1 + o)), (2, .int x2), (3, .int x3)]) C dX6_isOver_170 5 rfl rfl (by decide) rfl rfl ?_
                  refine y_goto (tgt := 99) C dX6_isOver_173 (by decide) ?_
                  refine y_ls [3, 4, 5, 1, 0] rfl ?_
                  exact ih w x2 x3 0 (x5 + 1)
                · refine y_iconst (n := 164) C (1 : Int32) dX6_isOver_163 (by decide) rfl ?_
                  refine y_goto (tgt := 168) C dX6_isOver_164 (by decide) ?_
                  refine y_istore (n := 170) (ls' := [(4, .int 1), (6, .int v19), (0, .ref (E.2.2.2.2.1 + o)), (2, .int x2), (3, .int x3), (5, .int x5)]) C dX6_isOver_168 (by decide) rfl rfl ?_
                  refine y_iinc (n := 173) (v := x5 + 1) (ls' := [(5, .int (x5 + 1)), (4, .int 1), (6, .int v19), (0, .ref (E.2.2.2.2.1 + o)), (2, .int x2), (3, .int x3)]) C dX6_isOver_170 5 rfl rfl (by decide) rfl rfl ?_
                  refine y_goto (tgt := 99) C dX6_isOver_173 (by decide) ?_
                  refine y_ls [3, 4, 5, 1, 0] rfl ?_
                  exact ih w x2 x3 1 (x5 + 1)
def lX6_isOver_4 (o : Nat) : Nat → Wd → Int32 → Int32 → Option (Int32 × Wd)
  | 0, _, _, _ => none
  | n + 1, w, x1, x2 =>
    if 6 ≤ x2 then
      if x1 = 0 then
        (rtZ 1).bind fun z => some (z, w)
      else
        (fX6_seenMany w o).bind fun v3 =>
        (ldI 706 w (o + 1) 558).bind fun v4 =>
        if v4 ≤ v3 then
          (fX6_reckon w o).bind fun w6 =>
          (ldI 706 w6 (o + 1) 558).bind fun v7 =>
          (fX6_frontAt w6 o (v7 - 1)).bind fun v8 =>
          (ldI 60 w6 (o + 5) v8).bind fun v9 =>
          (fX6_boundsTogether w6 o).bind fun v10 =>
          if v9 ≤ v10 then
            lX6_isOver_99 o 4096 w6 v8 v9 0 0
          else
            lX6_isOver_99 o 4096 w6 v8 v9 1 0
        else
          (rtZ 0).bind fun z => some (z, w)
    else
      (fX6_canBeRead w o x2).bind fun v23 =>
      if v23 = 0 then
        lX6_isOver_4 o n w (x1 + 0) (x2 + 1)
      else
        lX6_isOver_4 o n w (x1 + 1) (x2 + 1)
set_option maxRecDepth 4000 in
theorem clX6_isOver_4 {g : Gx} {E : Ex} (C : CC g E cX6_isOver 7 RX6 4 91) (hR : RT g (some .boolean)) {o : Nat} (hO : shM E.2.2.2.2.2.1 o) : ∀ (n : Nat) (w : Wd) (x1 : Int32) (x2 : Int32), YO g E 7 (QI g E) (lX6_isOver_4 o n w x1 x2) w 4 [(0, .ref (E.2.2.2.2.1 + o)), (1, .int x1), (2, .int x2)] [] := by
  intro n
  induction n with
  | zero => intro w x1 x2; exact y_no
  | succ n ih =>
    intro w x1 x2
    rw [lX6_isOver_4]
    refine y_iload_n (n := 5) C dX6_isOver_4 2 rfl rfl ?_
    refine y_bipush (n := 7) C (6 : Int32) dX6_isOver_5 (by decide) rfl ?_
    refine y_icmp_ge (tgt := 32) (n := 10) C dX6_isOver_7 (by decide) rfl (fun h1 => ?_) (fun h1 => ?_)
    · refine y_iload_n (n := 33) C dX6_isOver_32 1 rfl rfl ?_
      refine y_if_ne (tgt := 38) (n := 36) C dX6_isOver_33 (by decide) rfl (fun h2 => ?_) (fun h2 => ?_)
      · refine y_aload_n (n := 39) C dX6_isOver_38 0 rfl rfl ?_
        refine y_cp (n := 42) C (fun r hr H locs la hP hS hl => y_runV (ci := 6) (st := []) C ky_X6_seenMany wd_909 ⟨Nat.le_of_ble_eq_true rfl, Nat.le_of_ble_eq_true rfl⟩ hO.1 rfl (mX6_seenMany hO w g.2.1 r hr) rfl (Nat.le_of_ble_eq_true rfl) rfl dX6_isOver_39 hP hS hl) rfl (fun v3 hv3 => ?_)
        refine y_aload_n (n := 43) C dX6_isOver_42 0 rfl rfl ?_
        refine y_get (ci := 6) (f := 0) (n := 46) C in_X6 hO.1 rfl (by decide) wd_731 rfl rfl dX6_isOver_43 rfl ?_
        refine y_sipush (n := 49) C (558 : Int32) dX6_isOver_46 (by decide) rfl ?_
        refine y_iald (n := 50) C hO.2.1 dX6_isOver_49 rfl (fun v4 hv4 => ?_)
        refine y_icmp_ge (tgt := 55) (n := 53) C dX6_isOver_50 (by decide) rfl (fun h5 => ?_) (fun h5 => ?_)
        · refine y_aload_n (n := 56) C dX6_isOver_55 0 rfl rfl ?_
          refine y_cv (n := 59) C (fun r hr H locs la hP hS hl => y_runV (ci := 6) (st := []) C ky_X6_reckon wd_917 ⟨Nat.le_of_ble_eq_true rfl, Nat.le_of_ble_eq_true rfl⟩ hO.1 rfl (mX6_reckon hO w g.2.1 r hr) rfl (Nat.le_of_ble_eq_true rfl) rfl dX6_isOver_56 hP hS hl) rfl (fun w6 hw6 => ?_)
          refine y_aload_n (n := 60) C dX6_isOver_59 0 rfl rfl ?_
          refine y_aload_n (n := 61) C dX6_isOver_60 0 rfl rfl ?_
          refine y_get (ci := 6) (f := 0) (n := 64) C in_X6 hO.1 rfl (by decide) wd_731 rfl rfl dX6_isOver_61 rfl ?_
          refine y_sipush (n := 67) C (558 : Int32) dX6_isOver_64 (by decide) rfl ?_
          refine y_iald (n := 68) C hO.2.1 dX6_isOver_67 rfl (fun v7 hv7 => ?_)
          refine y_iconst (n := 69) C (1 : Int32) dX6_isOver_68 (by decide) rfl ?_
          refine y_isub (n := 70) C dX6_isOver_69 rfl ?_
          refine y_cp (n := 73) C (fun r hr H locs la hP hS hl => y_runV (ci := 6) (st := []) C ky_X6_frontAt wd_929 ⟨Nat.le_of_ble_eq_true rfl, Nat.le_of_ble_eq_true rfl⟩ hO.1 rfl (mX6_frontAt hO w6 (v7 - 1) g.2.1 r hr) rfl (Nat.le_of_ble_eq_true rfl) rfl dX6_isOver_70 hP hS hl) rfl (fun v8 hv8 => ?_)
          refine y_istore_n (n := 74) (ls' := [(2, .int v8), (0, .ref (E.2.2.2.2.1 + o)), (1, .int x1)]) C dX6_isOver_73 (by decide) rfl rfl ?_
          refine y_aload_n (n := 75) C dX6_isOver_74 1 rfl rfl ?_
          refine y_get (ci := 6) (f := 4) (n := 78) C in_X6 hO.1 rfl (by decide) wd_735 rfl rfl dX6_isOver_75 rfl ?_
          refine y_iload_n (n := 79) C dX6_isOver_78 0 rfl rfl ?_
          refine y_iald (n := 80) C hO.2.2.2.2.2.1 dX6_isOver_79 rfl (fun v9 hv9 => ?_)
          refine y_istore_n (n := 81) (ls' := [(3, .int v9), (2, .int v8), (0, .ref (E.2.2.2.2.1 + o)), (1, .int x1)]) C dX6_isOver_80 (by decide) rfl rfl ?_
          refine y_aload_n (n := 82) C dX6_isOver_81 2 rfl rfl ?_
          refine y_cp (n := 85) C (fun r hr H locs la hP hS hl => y_runV (ci := 6) (st := []) C ky_X6_boundsTogether wd_937 ⟨Nat.le_of_ble_eq_true rfl, Nat.le_of_ble_eq_true rfl⟩ hO.1 rfl (mX6_boundsTogether hO w6 g.2.1 r hr) rfl (Nat.le_of_ble_eq_true rfl) rfl dX6_isOver_82 hP hS hl) rfl (fun v10 hv10 => ?_)
          refine y_iload_n (n := 86) C dX6_isOver_85 0 rfl rfl ?_
          refine y_icmp_ge (tgt := 93) (n := 89) C dX6_isOver_86 (by decide) rfl (fun h11 => ?_) (fun h11 => ?_)
          · refine y_iconst (n := 94) C (0 : Int32) dX6_isOver_93 (by decide) rfl ?_
            refine y_istore (n := 96) (ls' := [(4, .int 0), (3, .int v9), (2, .int v8), (0, .ref (E.2.2.2.2.1 + o)), (1, .int x1)]) C dX6_isOver_94 (by decide) rfl rfl ?_
            refine y_iconst (n := 97) C (0 : Int32) dX6_isOver_96 (by decide) rfl ?_
            refine y_istore (n := 99) (ls' := [(5, .int 0), (4, .int 0), (3, .int v9), (2, .int v8), (0, .ref (E.2.2.2.2.1 + o)), (1, .int x1)]) C dX6_isOver_97 (by decide) rfl rfl ?_
            refine y_ls [4, 3, 2, 1, 0] rfl ?_
            exact clX6_isOver_99 C hR hO 4096 w6 v8 v9 0 0
          · refine y_iconst (n := 90) C (1 : Int32) dX6_isOver_89 (by decide) rfl ?_
            refine y_goto (tgt := 94) C dX6_isOver_90 (by decide) ?_
            refine y_istore (n := 96) (ls' := [(4, .int 1), (3, .int v9), (2, .int v8), (0, .ref (E.2.2.2.2.1 + o)), (1, .int x1)]) C dX6_isOver_94 (by decide) rfl rfl ?_
            refine y_iconst (n := 97) C (0 : Int32) dX6_isOver_96 (by decide) rfl ?_
            refine y_istore (n := 99) (ls' := [(5, .int 0), (4, .int 1), (3, .int v9), (2, .int v8), (0, .ref (E.2.2.2.2.1 + o)), (1, .int x1)]) C dX6_isOver_97 (by decide) rfl rfl ?_
            refine y_ls [4, 3, 2, 1, 0] rfl ?_
            exact clX6_isOver_99 C hR hO 4096 w6 v8 v9 1 0
        · refine y_iconst (n := 54) C (0 : Int32) dX6_isOver_53 (by decide) rfl ?_
          exact y_rzi C hR dX6_isOver_54
      · refine y_iconst (n := 37) C (1 : Int32) dX6_isOver_36 (by decide) rfl ?_
        exact y_rzi C hR dX6_isOver_37
    · refine y_iload_n (n := 11) C dX6_isOver_10 1 rfl rfl ?_
      refine y_aload_n (n := 12) C dX6_isOver_11 0 rfl rfl ?_
      refine y_iload_n (n := 13) C dX6_isOver_12 2 rfl rfl ?_
      refine y_cp (n := 16) C (fun r hr H locs la hP hS hl => y_runV (ci := 6) (st := [.int x1]) C ky_X6_canBeRead wd_901 ⟨Nat.le_of_ble_eq_true rfl, Nat.le_of_ble_eq_true rfl⟩ hO.1 rfl (mX6_canBeRead hO w x2 g.2.1 r hr) rfl (Nat.le_of_ble_eq_true rfl) rfl dX6_isOver_13 hP hS hl) rfl (fun v23 hv23 => ?_)
      refine y_if_eq (tgt := 23) (n := 19) C dX6_isOver_16 (by decide) rfl (fun h24 => ?_) (fun h24 => ?_)
      · refine y_iconst (n := 24) C (0 : Int32) dX6_isOver_23 (by decide) rfl ?_
        refine y_iadd (n := 25) C dX6_isOver_24 rfl ?_
        refine y_istore_n (n := 26) (ls' := [(1, .int (x1 + 0)), (0, .ref (E.2.2.2.2.1 + o)), (2, .int x2)]) C dX6_isOver_25 (by decide) rfl rfl ?_
        refine y_iinc (n := 29) (v := x2 + 1) (ls' := [(2, .int (x2 + 1)), (1, .int (x1 + 0)), (0, .ref (E.2.2.2.2.1 + o))]) C dX6_isOver_26 2 rfl rfl (by decide) rfl rfl ?_
        refine y_goto (tgt := 4) C dX6_isOver_29 (by decide) ?_
        refine y_ls [2, 1, 0] rfl ?_
        exact ih w (x1 + 0) (x2 + 1)
      · refine y_iconst (n := 20) C (1 : Int32) dX6_isOver_19 (by decide) rfl ?_
        refine y_goto (tgt := 24) C dX6_isOver_20 (by decide) ?_
        refine y_iadd (n := 25) C dX6_isOver_24 rfl ?_
        refine y_istore_n (n := 26) (ls' := [(1, .int (x1 + 1)), (0, .ref (E.2.2.2.2.1 + o)), (2, .int x2)]) C dX6_isOver_25 (by decide) rfl rfl ?_
        refine y_iinc (n := 29) (v := x2 + 1) (ls' := [(2, .int (x2 + 1)), (1, .int (x1 + 1)), (0, .ref (E.2.2.2.2.1 + o))]) C dX6_isOver_26 2 rfl rfl (by decide) rfl rfl ?_
        refine y_goto (tgt := 4) C dX6_isOver_29 (by decide) ?_
        refine y_ls [2, 1, 0] rfl ?_
        exact ih w (x1 + 1) (x2 + 1)
def fX6_isOver (w : Wd) (o : Nat)  : Option (Int32 × Wd) :=
  lX6_isOver_4 o 4096 w 0 0
set_option maxRecDepth 4000 in
theorem eX6_isOver {g : Gx} {E : Ex} (C : CC g E cX6_isOver 7 RX6 4 91) (hR : RT g (some .boolean)) {o : Nat} (hO : shM E.2.2.2.2.2.1 o) (w : Wd)  : YO g E 7 (QI g E) (fX6_isOver w o) w 0 [(0, .ref (E.2.2.2.2.1 + o))] [] := by
  unfold fX6_isOver
  refine y_iconst (n := 1) C (0 : Int32) dX6_isOver_0 (by decide) rfl ?_
  refine y_istore_n (n := 2) (ls' := [(1, .int 0), (0, .ref (E.2.2.2.2.1 + o))]) C dX6_isOver_1 (by decide) rfl rfl ?_
  refine y_iconst (n := 3) C (0 : Int32) dX6_isOver_2 (by decide) rfl ?_
  refine y_istore_n (n := 4) (ls' := [(2, .int 0), (1, .int 0), (0, .ref (E.2.2.2.2.1 + o))]) C dX6_isOver_3 (by decide) rfl rfl ?_
  refine y_ls [2, 1, 0] rfl ?_
  exact clX6_isOver_4 C hR hO 4096 w 0 0
theorem mX6_isOver {E : Ex} {o : Nat} (hO : shM E.2.2.2.2.2.1 o) (w : Wd)  (l : Launch) : MI l yX6_isOver cX6_isOver 7 (some .boolean) { frames := 4, cells := 0, slots := 0, locals := 91 } E [.ref (E.2.2.2.2.1 + o)] w (fX6_isOver w o) :=
  y_met (Qc := yQi E) (by decide +kernel) (Nat.le_of_ble_eq_true rfl) (fun g C hR => eX6_isOver C hR hO w ) l
def lX6_startReading_111 (o : Nat) : Nat → Wd → Int32 → Option (Wd)
  | 0, _, _ => none
  | n + 1, w, x3 =>
    if 60 ≤ x3 then
      ob2 (fX6_isOver w o) fun v10 w11 =>
      if v10 = 0 then
        (stI 706 w11 (o + 1) 562 0).bind fun w13 =>
        some w13
      else
        (stI 706 w11 (o + 1) 562 1).bind fun w14 =>
        some w14
    else
      (stI 706 w (o + 1) (586 + x3) 0).bind fun w15 =>
      (stI 706 w15 (o + 1) (646 + x3) 0).bind fun w16 =>
      lX6_startReading_111 o n w16 (x3 + 1)
set_option maxRecDepth 4000 in
theorem clX6_startReading_111 {g : Gx} {E : Ex} (C : CC g E cX6_startReading 4 RX6 5 117) (hR : RT g none) {o : Nat} (hO : shM E.2.2.2.2.2.1 o) : ∀ (n : Nat) (w : Wd) (x3 : Int32), YO g E 4 (QV g E) (lX6_startReading_111 o n w x3) w 111 [(0, .ref (E.2.2.2.2.1 + o)), (3, .int x3)] [] := by
  intro n
  induction n with
  | zero => intro w x3; exact y_no
  | succ n ih =>
    intro w x3
    rw [lX6_startReading_111]
    refine y_iload_n (n := 112) C dX6_startReading_111 1 rfl rfl ?_
    refine y_bipush (n := 114) C (60 : Int32) dX6_startReading_112 (by decide) rfl ?_
    refine y_icmp_ge (tgt := 145) (n := 117) C dX6_startReading_114 (by decide) rfl (fun h9 => ?_) (fun h9 => ?_)
    · refine y_aload_n (n := 146) C dX6_startReading_145 0 rfl rfl ?_
      refine y_get (ci := 6) (f := 0) (n := 149) C in_X6 hO.1 rfl (by decide) wd_731 rfl rfl dX6_startReading_146 rfl ?_
      refine y_sipush (n := 152) C (562 : Int32) dX6_startReading_149 (by decide) rfl ?_
      refine y_aload_n (n := 153) C dX6_startReading_152 0 rfl rfl ?_
      refine y_ci2 (n := 156) C (fun r hr H locs la hP hS hl => y_runV (ci := 6) (st := [.int 562, .ref (E.2.2.2.2.1 + (o + 1))]) C ky_X6_isOver wd_897 ⟨Nat.le_of_ble_eq_true rfl, Nat.le_of_ble_eq_true rfl⟩ hO.1 rfl (mX6_isOver hO w g.2.1 r hr) rfl (Nat.le_of_ble_eq_true rfl) rfl dX6_startReading_153 hP hS hl) rfl (fun v10 w11 hv10 => ?_)
      refine y_if_eq (tgt := 163) (n := 159) C dX6_startReading_156 (by decide) rfl (fun h12 => ?_) (fun h12 => ?_)
      · refine y_iconst (n := 164) C (0 : Int32) dX6_startReading_163 (by decide) rfl ?_
        refine y_iast (n := 165) C hO.2.1 dX6_startReading_164 rfl (fun w13 hw13 => ?_)
        exact y_rv C hR dX6_startReading_165
      · refine y_iconst (n := 160) C (1 : Int32) dX6_startReading_159 (by decide) rfl ?_
        refine y_goto (tgt := 164) C dX6_startReading_160 (by decide) ?_
        refine y_iast (n := 165) C hO.2.1 dX6_startReading_164 rfl (fun w14 hw14 => ?_)
        exact y_rv C hR dX6_startReading_165
    · refine y_aload_n (n := 118) C dX6_startReading_117 0 rfl rfl ?_
      refine y_get (ci := 6) (f := 0) (n := 121) C in_X6 hO.1 rfl (by decide) wd_731 rfl rfl dX6_startReading_118 rfl ?_
      refine y_sipush (n := 124) C (586 : Int32) dX6_startReading_121 (by decide) rfl ?_
      refine y_iload_n (n := 125) C dX6_startReading_124 1 rfl rfl ?_
      refine y_iadd (n := 126) C dX6_startReading_125 rfl ?_
      refine y_iconst (n := 127) C (0 : Int32) dX6_startReading_126 (by decide) rfl ?_
      refine y_iast (n := 128) C hO.2.1 dX6_startReading_127 rfl (fun w15 hw15 => ?_)
      refine y_aload_n (n := 129) C dX6_startReading_128 0 rfl rfl ?_
      refine y_get (ci := 6) (f := 0) (n := 132) C in_X6 hO.1 rfl (by decide) wd_731 rfl rfl dX6_startReading_129 rfl ?_
      refine y_sipush (n := 135) C (646 : Int32) dX6_startReading_132 (by decide) rfl ?_
      refine y_iload_n (n := 136) C dX6_startReading_135 1 rfl rfl ?_
      refine y_iadd (n := 137) C dX6_startReading_136 rfl ?_
      refine y_iconst (n := 138) C (0 : Int32) dX6_startReading_137 (by decide) rfl ?_
      refine y_iast (n := 139) C hO.2.1 dX6_startReading_138 rfl (fun w16 hw16 => ?_)
      refine y_iinc (n := 142) (v := x3 + 1) (ls' := [(3, .int (x3 + 1)), (0, .ref (E.2.2.2.2.1 + o))]) C dX6_startReading_139 1 rfl rfl (by decide) rfl rfl ?_
      refine y_goto (tgt := 111) C dX6_startReading_142 (by decide) ?_
      refine y_ls [1, 0] rfl ?_
      exact ih w16 (x3 + 1)
def lX6_startReading_64 (o : Nat) : Nat → Wd → Int32 → Option (Wd)
  | 0, _, _ => none
  | n + 1, w, x3 =>
    if 6 ≤ x3 then
      lX6_startReading_111 o 4096 w 0
    else
      (stI 706 w (o + 1) (568 + x3) 0).bind fun w17 =>
      (stI 706 w17 (o + 1) (574 + x3) 0).bind fun w18 =>
      (stI 706 w18 (o + 1) (580 + x3) 0).bind fun w19 =>
      lX6_startReading_64 o n w19 (x3 + 1)
set_option maxRecDepth 4000 in
theorem clX6_startReading_64 {g : Gx} {E : Ex} (C : CC g E cX6_startReading 4 RX6 5 117) (hR : RT g none) {o : Nat} (hO : shM E.2.2.2.2.2.1 o) : ∀ (n : Nat) (w : Wd) (x3 : Int32), YO g E 4 (QV g E) (lX6_startReading_64 o n w x3) w 64 [(0, .ref (E.2.2.2.2.1 + o)), (3, .int x3)] [] := by
  intro n
  induction n with
  | zero => intro w x3; exact y_no
  | succ n ih =>
    intro w x3
    rw [lX6_startReading_64]
    refine y_iload_n (n := 65) C dX6_startReading_64 1 rfl rfl ?_
    refine y_bipush (n := 67) C (6 : Int32) dX6_startReading_65 (by decide) rfl ?_
    refine y_icmp_ge (tgt := 109) (n := 70) C dX6_startReading_67 (by decide) rfl (fun h8 => ?_) (fun h8 => ?_)
    · refine y_iconst (n := 110) C (0 : Int32) dX6_startReading_109 (by decide) rfl ?_
      refine y_istore_n (n := 111) (ls' := [(3, .int 0), (0, .ref (E.2.2.2.2.1 + o))]) C dX6_startReading_110 (by decide) rfl rfl ?_
      refine y_ls [1, 0] rfl ?_
      exact clX6_startReading_111 C hR hO 4096 w 0
    · refine y_aload_n (n := 71) C dX6_startReading_70 0 rfl rfl ?_
      refine y_get (ci := 6) (f := 0) (n := 74) C in_X6 hO.1 rfl (by decide) wd_731 rfl rfl dX6_startReading_71 rfl ?_
      refine y_sipush (n := 77) C (568 : Int32) dX6_startReading_74 (by decide) rfl ?_
      refine y_iload_n (n := 78) C dX6_startReading_77 1 rfl rfl ?_
      refine y_iadd (n := 79) C dX6_startReading_78 rfl ?_
      refine y_iconst (n := 80) C (0 : Int32) dX6_startReading_79 (by decide) rfl ?_
      refine y_iast (n := 81) C hO.2.1 dX6_startReading_80 rfl (fun w17 hw17 => ?_)
      refine y_aload_n (n := 82) C dX6_startReading_81 0 rfl rfl ?_
      refine y_get (ci := 6) (f := 0) (n := 85) C in_X6 hO.1 rfl (by decide) wd_731 rfl rfl dX6_startReading_82 rfl ?_
      refine y_sipush (n := 88) C (574 : Int32) dX6_startReading_85 (by decide) rfl ?_
      refine y_iload_n (n := 89) C dX6_startReading_88 1 rfl rfl ?_
      refine y_iadd (n := 90) C dX6_startReading_89 rfl ?_
      refine y_iconst (n := 91) C (0 : Int32) dX6_startReading_90 (by decide) rfl ?_
      refine y_iast (n := 92) C hO.2.1 dX6_startReading_91 rfl (fun w18 hw18 => ?_)
      refine y_aload_n (n := 93) C dX6_startReading_92 0 rfl rfl ?_
      refine y_get (ci := 6) (f := 0) (n := 96) C in_X6 hO.1 rfl (by decide) wd_731 rfl rfl dX6_startReading_93 rfl ?_
      refine y_sipush (n := 99) C (580 : Int32) dX6_startReading_96 (by decide) rfl ?_
      refine y_iload_n (n := 100) C dX6_startReading_99 1 rfl rfl ?_
      refine y_iadd (n := 101) C dX6_startReading_100 rfl ?_
      refine y_iconst (n := 102) C (0 : Int32) dX6_startReading_101 (by decide) rfl ?_
      refine y_iast (n := 103) C hO.2.1 dX6_startReading_102 rfl (fun w19 hw19 => ?_)
      refine y_iinc (n := 106) (v := x3 + 1) (ls' := [(3, .int (x3 + 1)), (0, .ref (E.2.2.2.2.1 + o))]) C dX6_startReading_103 1 rfl rfl (by decide) rfl rfl ?_
      refine y_goto (tgt := 64) C dX6_startReading_106 (by decide) ?_
      refine y_ls [1, 0] rfl ?_
      exact ih w19 (x3 + 1)
def fX6_startReading (w : Wd) (o : Nat) (a1 : Int32) (a2 : Int32) : Option (Wd) :=
  (stI 706 w (o + 1) 559 1).bind fun w1 =>
  (stI 706 w1 (o + 1) 560 a1).bind fun w2 =>
  if a2 = 0 then
    (stI 706 w2 (o + 1) 561 0).bind fun w4 =>
    (stI 706 w4 (o + 1) 563 (-1)).bind fun w5 =>
    (stI 706 w5 (o + 1) 564 0).bind fun w6 =>
    (stI 706 w6 (o + 1) 565 0).bind fun w7 =>
    lX6_startReading_64 o 4096 w7 0
  else
    (stI 706 w2 (o + 1) 561 1).bind fun w20 =>
    (stI 706 w20 (o + 1) 563 (-1)).bind fun w21 =>
    (stI 706 w21 (o + 1) 564 0).bind fun w22 =>
    (stI 706 w22 (o + 1) 565 0).bind fun w23 =>
    lX6_startReading_64 o 4096 w23 0
set_option maxRecDepth 4000 in
theorem eX6_startReading {g : Gx} {E : Ex} (C : CC g E cX6_startReading 4 RX6 5 117) (hR : RT g none) {o : Nat} (hO : shM E.2.2.2.2.2.1 o) (w : Wd) (a1 : Int32) (a2 : Int32) : YO g E 4 (QV g E) (fX6_startReading w o a1 a2) w 0 [(0, .ref (E.2.2.2.2.1 + o)), (1, .int a1), (2, .int a2)] [] := by
  unfold fX6_startReading
  refine y_aload_n (n := 1) C dX6_startReading_0 0 rfl rfl ?_
  refine y_get (ci := 6) (f := 0) (n := 4) C in_X6 hO.1 rfl (by decide) wd_731 rfl rfl dX6_startReading_1 rfl ?_
  refine y_sipush (n := 7) C (559 : Int32) dX6_startReading_4 (by decide) rfl ?_
  refine y_iconst (n := 8) C (1 : Int32) dX6_startReading_7 (by decide) rfl ?_
  refine y_iast (n := 9) C hO.2.1 dX6_startReading_8 rfl (fun w1 hw1 => ?_)
  refine y_aload_n (n := 10) C dX6_startReading_9 0 rfl rfl ?_
  refine y_get (ci := 6) (f := 0) (n := 13) C in_X6 hO.1 rfl (by decide) wd_731 rfl rfl dX6_startReading_10 rfl ?_
  refine y_sipush (n := 16) C (560 : Int32) dX6_startReading_13 (by decide) rfl ?_
  refine y_iload_n (n := 17) C dX6_startReading_16 1 rfl rfl ?_
  refine y_iast (n := 18) C hO.2.1 dX6_startReading_17 rfl (fun w2 hw2 => ?_)
  refine y_aload_n (n := 19) C dX6_startReading_18 0 rfl rfl ?_
  refine y_get (ci := 6) (f := 0) (n := 22) C in_X6 hO.1 rfl (by decide) wd_731 rfl rfl dX6_startReading_19 rfl ?_
  refine y_sipush (n := 25) C (561 : Int32) dX6_startReading_22 (by decide) rfl ?_
  refine y_iload_n (n := 26) C dX6_startReading_25 2 rfl rfl ?_
  refine y_if_eq (tgt := 33) (n := 29) C dX6_startReading_26 (by decide) rfl (fun h3 => ?_) (fun h3 => ?_)
  · refine y_iconst (n := 34) C (0 : Int32) dX6_startReading_33 (by decide) rfl ?_
    refine y_iast (n := 35) C hO.2.1 dX6_startReading_34 rfl (fun w4 hw4 => ?_)
    refine y_aload_n (n := 36) C dX6_startReading_35 0 rfl rfl ?_
    refine y_get (ci := 6) (f := 0) (n := 39) C in_X6 hO.1 rfl (by decide) wd_731 rfl rfl dX6_startReading_36 rfl ?_
    refine y_sipush (n := 42) C (563 : Int32) dX6_startReading_39 (by decide) rfl ?_
    refine y_iconst (n := 43) C ((-1) : Int32) dX6_startReading_42 (by decide) rfl ?_
    refine y_iast (n := 44) C hO.2.1 dX6_startReading_43 rfl (fun w5 hw5 => ?_)
    refine y_aload_n (n := 45) C dX6_startReading_44 0 rfl rfl ?_
    refine y_get (ci := 6) (f := 0) (n := 48) C in_X6 hO.1 rfl (by decide) wd_731 rfl rfl dX6_startReading_45 rfl ?_
    refine y_sipush (n := 51) C (564 : Int32) dX6_startReading_48 (by decide) rfl ?_
    refine y_iconst (n := 52) C (0 : Int32) dX6_startReading_51 (by decide) rfl ?_
    refine y_iast (n := 53) C hO.2.1 dX6_startReading_52 rfl (fun w6 hw6 => ?_)
    refine y_aload_n (n := 54) C dX6_startReading_53 0 rfl rfl ?_
    refine y_get (ci := 6) (f := 0) (n := 57) C in_X6 hO.1 rfl (by decide) wd_731 rfl rfl dX6_startReading_54 rfl ?_
    refine y_sipush (n := 60) C (565 : Int32) dX6_startReading_57 (by decide) rfl ?_
    refine y_iconst (n := 61) C (0 : Int32) dX6_startReading_60 (by decide) rfl ?_
    refine y_iast (n := 62) C hO.2.1 dX6_startReading_61 rfl (fun w7 hw7 => ?_)
    refine y_iconst (n := 63) C (0 : Int32) dX6_startReading_62 (by decide) rfl ?_
    refine y_istore_n (n := 64) (ls' := [(3, .int 0), (0, .ref (E.2.2.2.2.1 + o)), (1, .int a1), (2, .int a2)]) C dX6_startReading_63 (by decide) rfl rfl ?_
    refine y_ls [1, 0] rfl ?_
    exact clX6_startReading_64 C hR hO 4096 w7 0
  · refine y_iconst (n := 30) C (1 : Int32) dX6_startReading_29 (by decide) rfl ?_
    refine y_goto (tgt := 34) C dX6_startReading_30 (by decide) ?_
    refine y_iast (n := 35) C hO.2.1 dX6_startReading_34 rfl (fun w20 hw20 => ?_)
    refine y_aload_n (n := 36) C dX6_startReading_35 0 rfl rfl ?_
    refine y_get (ci := 6) (f := 0) (n := 39) C in_X6 hO.1 rfl (by decide) wd_731 rfl rfl dX6_startReading_36 rfl ?_
    refine y_sipush (n := 42) C (563 : Int32) dX6_startReading_39 (by decide) rfl ?_
    refine y_iconst (n := 43) C ((-1) : Int32) dX6_startReading_42 (by decide) rfl ?_
    refine y_iast (n := 44) C hO.2.1 dX6_startReading_43 rfl (fun w21 hw21 => ?_)
    refine y_aload_n (n := 45) C dX6_startReading_44 0 rfl rfl ?_
    refine y_get (ci := 6) (f := 0) (n := 48) C in_X6 hO.1 rfl (by decide) wd_731 rfl rfl dX6_startReading_45 rfl ?_
    refine y_sipush (n := 51) C (564 : Int32) dX6_startReading_48 (by decide) rfl ?_
    refine y_iconst (n := 52) C (0 : Int32) dX6_startReading_51 (by decide) rfl ?_
    refine y_iast (n := 53) C hO.2.1 dX6_startReading_52 rfl (fun w22 hw22 => ?_)
    refine y_aload_n (n := 54) C dX6_startReading_53 0 rfl rfl ?_
    refine y_get (ci := 6) (f := 0) (n := 57) C in_X6 hO.1 rfl (by decide) wd_731 rfl rfl dX6_startReading_54 rfl ?_
    refine y_sipush (n := 60) C (565 : Int32) dX6_startReading_57 (by decide) rfl ?_
    refine y_iconst (n := 61) C (0 : Int32) dX6_startReading_60 (by decide) rfl ?_
    refine y_iast (n := 62) C hO.2.1 dX6_startReading_61 rfl (fun w23 hw23 => ?_)
    refine y_iconst (n := 63) C (0 : Int32) dX6_startReading_62 (by decide) rfl ?_
    refine y_istore_n (n := 64) (ls' := [(3, .int 0), (0, .ref (E.2.2.2.2.1 + o)), (1, .int a1), (2, .int a2)]) C dX6_startReading_63 (by decide) rfl rfl ?_
    refine y_ls [1, 0] rfl ?_
    exact clX6_startReading_64 C hR hO 4096 w23 0
theorem mX6_startReading {E : Ex} {o : Nat} (hO : shM E.2.2.2.2.2.1 o) (w : Wd) (a1 : Int32) (a2 : Int32) (l : Launch) : MV l yX6_startReading cX6_startReading 4 none { frames := 5, cells := 0, slots := 0, locals := 117 } E [.ref (E.2.2.2.2.1 + o), .int a1, .int a2] w (fX6_startReading w o a1 a2) :=
  y_met (Qc := yQv E) (by decide +kernel) (Nat.le_of_ble_eq_true rfl) (fun g C hR => eX6_startReading C hR hO w a1 a2) l
def fX6_begin (w : Wd) (o : Nat) (a1 : Int32) (a2 : Int32) : Option (Int32 × Wd) :=
  if a1 < 0 then
    some ((-2), w)
  else
    if a1 ≤ 2 then
      (ldI 706 w (o + 1) 559).bind fun v3 =>
      if v3 = 1 then
        some ((-4), w)
      else
        (fX6_asked w o).bind fun v5 =>
        if v5 = 0 then
          some ((-4), w)
        else
          (fX6_record w o).bind fun w7 =>
          (ldI 706 w7 (o + 1) 566).bind fun v8 =>
          (stI 706 w7 (o + 1) 566 (v8 + 1)).bind fun w9 =>
          (fX6_startReading w9 o a1 a2).bind fun w10 =>
          (ldI 706 w10 (o + 1) 562).bind fun v11 =>
          some (v11, w10)
    else
      some ((-2), w)
set_option maxRecDepth 4000 in
theorem eX6_begin {g : Gx} {E : Ex} (C : CC g E cX6_begin 3 RX6 6 140) (hR : RT g (some .int)) {o : Nat} (hO : shM E.2.2.2.2.2.1 o) (w : Wd) (a1 : Int32) (a2 : Int32) : YO g E 3 (QI g E) (fX6_begin w o a1 a2) w 0 [(0, .ref (E.2.2.2.2.1 + o)), (1, .int a1), (2, .int a2)] [] := by
  unfold fX6_begin
  refine y_iload_n (n := 1) C dX6_begin_0 1 rfl rfl ?_
  refine y_if_lt (tgt := 9) (n := 4) C dX6_begin_1 (by decide) rfl (fun h1 => ?_) (fun h1 => ?_)
  · refine y_bipush (n := 11) C ((-2) : Int32) dX6_begin_9 (by decide) rfl ?_
    exact y_ri C hR dX6_begin_11
  · refine y_iload_n (n := 5) C dX6_begin_4 1 rfl rfl ?_
    refine y_iconst (n := 6) C (2 : Int32) dX6_begin_5 (by decide) rfl ?_
    refine y_icmp_le (tgt := 12) (n := 9) C dX6_begin_6 (by decide) rfl (fun h2 => ?_) (fun h2 => ?_)
    · refine y_aload_n (n := 13) C dX6_begin_12 0 rfl rfl ?_
      refine y_get (ci := 6) (f := 0) (n := 16) C in_X6 hO.1 rfl (by decide) wd_731 rfl rfl dX6_begin_13 rfl ?_
      refine y_sipush (n := 19) C (559 : Int32) dX6_begin_16 (by decide) rfl ?_
      refine y_iald (n := 20) C hO.2.1 dX6_begin_19 rfl (fun v3 hv3 => ?_)
      refine y_iconst (n := 21) C (1 : Int32) dX6_begin_20 (by decide) rfl ?_
      refine y_icmp_eq (tgt := 31) (n := 24) C dX6_begin_21 (by decide) rfl (fun h4 => ?_) (fun h4 => ?_)
      · refine y_bipush (n := 33) C ((-4) : Int32) dX6_begin_31 (by decide) rfl ?_
        exact y_ri C hR dX6_begin_33
      · refine y_aload_n (n := 25) C dX6_begin_24 0 rfl rfl ?_
        refine y_cp (n := 28) C (fun r hr H locs la hP hS hl => y_runV (ci := 6) (st := []) C ky_X6_asked wd_885 ⟨Nat.le_of_ble_eq_true rfl, Nat.le_of_ble_eq_true rfl⟩ hO.1 rfl (mX6_asked hO w g.2.1 r hr) rfl (Nat.le_of_ble_eq_true rfl) rfl dX6_begin_25 hP hS hl) rfl (fun v5 hv5 => ?_)
        refine y_if_ne (tgt := 34) (n := 31) C dX6_begin_28 (by decide) rfl (fun h6 => ?_) (fun h6 => ?_)
        · refine y_aload_n (n := 35) C dX6_begin_34 0 rfl rfl ?_
          refine y_cv (n := 38) C (fun r hr H locs la hP hS hl => y_runV (ci := 6) (st := []) C ky_X6_record wd_784 ⟨Nat.le_of_ble_eq_true rfl, Nat.le_of_ble_eq_true rfl⟩ hO.1 rfl (mX6_record hO w g.2.1 r hr) rfl (Nat.le_of_ble_eq_true rfl) rfl dX6_begin_35 hP hS hl) rfl (fun w7 hw7 => ?_)
          refine y_aload_n (n := 39) C dX6_begin_38 0 rfl rfl ?_
          refine y_get (ci := 6) (f := 0) (n := 42) C in_X6 hO.1 rfl (by decide) wd_731 rfl rfl dX6_begin_39 rfl ?_
          refine y_sipush (n := 45) C (566 : Int32) dX6_begin_42 (by decide) rfl ?_
          refine y_dup2 (n := 46) C dX6_begin_45 rfl rfl rfl ?_
          refine y_iald (n := 47) C hO.2.1 dX6_begin_46 rfl (fun v8 hv8 => ?_)
          refine y_iconst (n := 48) C (1 : Int32) dX6_begin_47 (by decide) rfl ?_
          refine y_iadd (n := 49) C dX6_begin_48 rfl ?_
          refine y_iast (n := 50) C hO.2.1 dX6_begin_49 rfl (fun w9 hw9 => ?_)
          refine y_aload_n (n := 51) C dX6_begin_50 0 rfl rfl ?_
          refine y_iload_n (n := 52) C dX6_begin_51 1 rfl rfl ?_
          refine y_iload_n (n := 53) C dX6_begin_52 2 rfl rfl ?_
          refine y_cv (n := 56) C (fun r hr H locs la hP hS hl => y_runV (ci := 6) (st := []) C ky_X6_startReading wd_893 ⟨Nat.le_of_ble_eq_true rfl, Nat.le_of_ble_eq_true rfl⟩ hO.1 rfl (mX6_startReading hO w9 a1 a2 g.2.1 r hr) rfl (Nat.le_of_ble_eq_true rfl) rfl dX6_begin_53 hP hS hl) rfl (fun w10 hw10 => ?_)
          refine y_aload_n (n := 57) C dX6_begin_56 0 rfl rfl ?_
          refine y_get (ci := 6) (f := 0) (n := 60) C in_X6 hO.1 rfl (by decide) wd_731 rfl rfl dX6_begin_57 rfl ?_
          refine y_sipush (n := 63) C (562 : Int32) dX6_begin_60 (by decide) rfl ?_
          refine y_iald (n := 64) C hO.2.1 dX6_begin_63 rfl (fun v11 hv11 => ?_)
          exact y_ri C hR dX6_begin_64
        · refine y_bipush (n := 33) C ((-4) : Int32) dX6_begin_31 (by decide) rfl ?_
          exact y_ri C hR dX6_begin_33
    · refine y_bipush (n := 11) C ((-2) : Int32) dX6_begin_9 (by decide) rfl ?_
      exact y_ri C hR dX6_begin_11
theorem mX6_begin {E : Ex} {o : Nat} (hO : shM E.2.2.2.2.2.1 o) (w : Wd) (a1 : Int32) (a2 : Int32) (l : Launch) : MI l yX6_begin cX6_begin 3 (some .int) { frames := 6, cells := 0, slots := 0, locals := 140 } E [.ref (E.2.2.2.2.1 + o), .int a1, .int a2] w (fX6_begin w o a1 a2) :=
  y_met (Qc := yQi E) (by decide +kernel) (Nat.le_of_ble_eq_true rfl) (fun g C hR => eX6_begin C hR hO w a1 a2) l
