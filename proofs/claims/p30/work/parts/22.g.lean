/-! X2_nextList X2_isSeen X2_learn X2_isAhead X2_moveAhead X2_see X2_readEntry X2_goOn X2_knownListsOf X2_toldSize X2_lowOfLastTold X2_start X2_tellingLess X2_toldNotWanted X5_isList X5_add -/
def fX2_nextList (w : Wd) (o o1 : Nat)  : Option (Int32) :=
  if (w.1 o 1) = 0 then
    (fX2_nextInTurn w o o1).bind fun v2 =>
    some v2
  else
  if (w.1 o 1) = 1 then
    (fX2_nextByBounds w o o1).bind fun v4 =>
    some v4
  else
  (fX2_nextByRest w o o1).bind fun v5 =>
  some v5
set_option maxRecDepth 4000 in
theorem eX2_nextList {g : Gx} {E : Ex} (C : CC g E cX2_nextList 2 RX2 4 89) (hR : RT g (some .int)) {o o1 : Nat} (hO : shR E.2.2.2.2.2.1 o) (hO1 : shO E.2.2.2.2.2.1 o1) (w : Wd)  : YO g E 2 (QP g E w) (fX2_nextList w o o1) w 0 [(0, .ref (E.2.2.2.2.1 + o)), (1, .ref (E.2.2.2.2.1 + o1))] [] := by
  unfold fX2_nextList
  refine y_aload_n (n := 1) C dX2_nextList_0 0 rfl rfl ?_
  refine y_get (ci := 2) (f := 1) (n := 4) C in_X2 hO.1 rfl (by decide) wd_69 rfl rfl dX2_nextList_1 rfl ?_
  refine y_if (fun h1 => ?_) (fun h1 => ?_)
  · refine y_lookup (tgt := 32) C 28 dX2_nextList_4 (by decide) (by rw [h1]; rfl) (by decide) ?_
    refine y_aload_n (n := 33) C dX2_nextList_32 0 rfl rfl ?_
    refine y_aload_n (n := 34) C dX2_nextList_33 1 rfl rfl ?_
    refine y_cp (n := 37) C (fun r hr H locs la hP hS hl => y_runV (ci := 2) (st := []) C ky_X2_nextInTurn wd_335 ⟨Nat.le_of_ble_eq_true rfl, Nat.le_of_ble_eq_true rfl⟩ hO.1 rfl (mX2_nextInTurn hO hO1 w g.2.1 r hr) rfl (Nat.le_of_ble_eq_true rfl) rfl dX2_nextList_34 hP hS hl) rfl (fun v2 hv2 => ?_)
    exact y_rp C hR dX2_nextList_37
  refine y_if (fun h3 => ?_) (fun h3 => ?_)
  · refine y_lookup (tgt := 38) C 34 dX2_nextList_4 (by decide) (by rw [h3]; rfl) (by decide) ?_
    refine y_aload_n (n := 39) C dX2_nextList_38 0 rfl rfl ?_
    refine y_aload_n (n := 40) C dX2_nextList_39 1 rfl rfl ?_
    refine y_cp (n := 43) C (fun r hr H locs la hP hS hl => y_runV (ci := 2) (st := []) C ky_X2_nextByBounds wd_392 ⟨Nat.le_of_ble_eq_true rfl, Nat.le_of_ble_eq_true rfl⟩ hO.1 rfl (mX2_nextByBounds hO hO1 w g.2.1 r hr) rfl (Nat.le_of_ble_eq_true rfl) rfl dX2_nextList_40 hP hS hl) rfl (fun v4 hv4 => ?_)
    exact y_rp C hR dX2_nextList_43
  refine y_lookup (tgt := 44) C 40 dX2_nextList_4 (by decide) (by have gh1 := sw_ne (k := 0) (by decide) h1; have gh3 := sw_ne (k := 1) (by decide) h3; exact sw_look gh1 gh3) (by decide) ?_
  refine y_aload_n (n := 45) C dX2_nextList_44 0 rfl rfl ?_
  refine y_aload_n (n := 46) C dX2_nextList_45 1 rfl rfl ?_
  refine y_cp (n := 49) C (fun r hr H locs la hP hS hl => y_runV (ci := 2) (st := []) C ky_X2_nextByRest wd_396 ⟨Nat.le_of_ble_eq_true rfl, Nat.le_of_ble_eq_true rfl⟩ hO.1 rfl (mX2_nextByRest hO hO1 w g.2.1 r hr) rfl (Nat.le_of_ble_eq_true rfl) rfl dX2_nextList_46 hP hS hl) rfl (fun v5 hv5 => ?_)
  exact y_rp C hR dX2_nextList_49
theorem mX2_nextList {E : Ex} {o o1 : Nat} (hO : shR E.2.2.2.2.2.1 o) (hO1 : shO E.2.2.2.2.2.1 o1) (w : Wd)  (l : Launch) : MP l yX2_nextList cX2_nextList 2 (some .int) { frames := 4, cells := 0, slots := 0, locals := 89 } E [.ref (E.2.2.2.2.1 + o), .ref (E.2.2.2.2.1 + o1)] w (fX2_nextList w o o1) :=
  y_met (Qc := fun r => yQi E (r, w)) (by decide +kernel) (Nat.le_of_ble_eq_true rfl) (fun g C hR => eX2_nextList C hR hO hO1 w ) l
def fX2_isSeen (w : Wd) (o : Nat) (a1 : Int32) : Option (Int32) :=
  (fX5_at w (o + 5) 60 a1).bind fun v1 =>
  if v1 = 0 then
    rtZ 0
  else
    rtZ 1
set_option maxRecDepth 4000 in
theorem eX2_isSeen {g : Gx} {E : Ex} (C : CC g E cX2_isSeen 2 RX2 1 21) (hR : RT g (some .boolean)) {o : Nat} (hO : shR E.2.2.2.2.2.1 o) (w : Wd) (a1 : Int32) : YO g E 2 (QP g E w) (fX2_isSeen w o a1) w 0 [(0, .ref (E.2.2.2.2.1 + o)), (1, .int a1)] [] := by
  unfold fX2_isSeen
  refine y_aload_n (n := 1) C dX2_isSeen_0 0 rfl rfl ?_
  refine y_get (ci := 2) (f := 11) (n := 4) C in_X2 hO.1 rfl (by decide) wd_81 rfl rfl dX2_isSeen_1 rfl ?_
  refine y_iload_n (n := 5) C dX2_isSeen_4 1 rfl rfl ?_
  refine y_cp (n := 8) C (fun r hr H locs la hP hS hl => y_runSN (st := []) C ky_X5_at wd_314 ⟨Nat.le_of_ble_eq_true rfl, Nat.le_of_ble_eq_true rfl⟩ (mX5_at hO.2.2.2.2.2.1 w a1 g.2.1 r hr) rfl (Nat.le_of_ble_eq_true rfl) rfl dX2_isSeen_5 hP hS hl) rfl (fun v1 hv1 => ?_)
  refine y_if_eq (tgt := 15) (n := 11) C dX2_isSeen_8 (by decide) rfl (fun h2 => ?_) (fun h2 => ?_)
  · refine y_iconst (n := 16) C (0 : Int32) dX2_isSeen_15 (by decide) rfl ?_
    exact y_rz C hR dX2_isSeen_16
  · refine y_iconst (n := 12) C (1 : Int32) dX2_isSeen_11 (by decide) rfl ?_
    refine y_goto (tgt := 16) C dX2_isSeen_12 (by decide) ?_
    exact y_rz C hR dX2_isSeen_16
theorem mX2_isSeen {E : Ex} {o : Nat} (hO : shR E.2.2.2.2.2.1 o) (w : Wd) (a1 : Int32) (l : Launch) : MP l yX2_isSeen cX2_isSeen 2 (some .boolean) { frames := 1, cells := 0, slots := 0, locals := 21 } E [.ref (E.2.2.2.2.1 + o), .int a1] w (fX2_isSeen w o a1) :=
  y_met (Qc := fun r => yQi E (r, w)) (by decide +kernel) (Nat.le_of_ble_eq_true rfl) (fun g C hR => eX2_isSeen C hR hO w a1) l
def fX2_learn (w : Wd) (o o1 : Nat) (a2 : Int32) (a3 : Int32) : Option (Wd) :=
  (fX5_at w (o + 5) 60 a3).bind fun v1 =>
  if ((v1 >>> (a2 &&& 31)) &&& 1) = 0 then
    (fX1_weightOf w o1 a2).bind fun v3 =>
    (fX1_scoreOf w o1 a2 a3).bind fun v4 =>
    (fX5_put w (o + 5) 60 a3 (v1 ||| (1 <<< (a2 &&& 31)))).bind fun w5 =>
    (fX5_at w5 (o + 6) 60 a3).bind fun v6 =>
    (fX5_put w5 (o + 6) 60 a3 (v6 + (v3 * v4))).bind fun w7 =>
    some w7
  else
    some w
set_option maxRecDepth 4000 in
theorem eX2_learn {g : Gx} {E : Ex} (C : CC g E cX2_learn 6 RX2 2 43) (hR : RT g none) {o o1 : Nat} (hO : shR E.2.2.2.2.2.1 o) (hO1 : shO E.2.2.2.2.2.1 o1) (w : Wd) (a2 : Int32) (a3 : Int32) : YO g E 6 (QV g E) (fX2_learn w o o1 a2 a3) w 0 [(0, .ref (E.2.2.2.2.1 + o)), (1, .ref (E.2.2.2.2.1 + o1)), (2, .int a2), (3, .int a3)] [] := by
  unfold fX2_learn
  refine y_aload_n (n := 1) C dX2_learn_0 0 rfl rfl ?_
  refine y_get (ci := 2) (f := 11) (n := 4) C in_X2 hO.1 rfl (by decide) wd_81 rfl rfl dX2_learn_1 rfl ?_
  refine y_iload_n (n := 5) C dX2_learn_4 3 rfl rfl ?_
  refine y_cp (n := 8) C (fun r hr H locs la hP hS hl => y_runSN (st := []) C ky_X5_at wd_314 ⟨Nat.le_of_ble_eq_true rfl, Nat.le_of_ble_eq_true rfl⟩ (mX5_at hO.2.2.2.2.2.1 w a3 g.2.1 r hr) rfl (Nat.le_of_ble_eq_true rfl) rfl dX2_learn_5 hP hS hl) rfl (fun v1 hv1 => ?_)
  refine y_istore (n := 10) (ls' := [(4, .int v1), (0, .ref (E.2.2.2.2.1 + o)), (1, .ref (E.2.2.2.2.1 + o1)), (2, .int a2), (3, .int a3)]) C dX2_learn_8 (by decide) rfl rfl ?_
  refine y_iload (n := 12) C dX2_learn_10 0 rfl rfl ?_
  refine y_iload_n (n := 13) C dX2_learn_12 3 rfl rfl ?_
  refine y_ishr (n := 14) C dX2_learn_13 rfl ?_
  refine y_iconst (n := 15) C (1 : Int32) dX2_learn_14 (by decide) rfl ?_
  refine y_iand (n := 16) C dX2_learn_15 rfl ?_
  refine y_if_ne (tgt := 66) (n := 19) C dX2_learn_16 (by decide) rfl (fun h2 => ?_) (fun h2 => ?_)
  · exact y_rv C hR dX2_learn_66
  · refine y_aload_n (n := 20) C dX2_learn_19 2 rfl rfl ?_
    refine y_iload_n (n := 21) C dX2_learn_20 3 rfl rfl ?_
    refine y_cp (n := 24) C (fun r hr H locs la hP hS hl => y_runVN (ci := 1) (st := []) C ky_X1_weightOf wd_352 ⟨Nat.le_of_ble_eq_true rfl, Nat.le_of_ble_eq_true rfl⟩ hO1.1 rfl (mX1_weightOf hO1 w a2 g.2.1 r hr) rfl (Nat.le_of_ble_eq_true rfl) rfl dX2_learn_21 hP hS hl) rfl (fun v3 hv3 => ?_)
    refine y_aload_n (n := 25) C dX2_learn_24 2 rfl rfl ?_
    refine y_iload_n (n := 26) C dX2_learn_25 3 rfl rfl ?_
    refine y_iload_n (n := 27) C dX2_learn_26 4 rfl rfl ?_
    refine y_cp (n := 30) C (fun r hr H locs la hP hS hl => y_runVN (ci := 1) (st := [.int v3]) C ky_X1_scoreOf wd_405 ⟨Nat.le_of_ble_eq_true rfl, Nat.le_of_ble_eq_true rfl⟩ hO1.1 rfl (mX1_scoreOf hO1 w a2 a3 g.2.1 r hr) rfl (Nat.le_of_ble_eq_true rfl) rfl dX2_learn_27 hP hS hl) rfl (fun v4 hv4 => ?_)
    refine y_imul (n := 31) C dX2_learn_30 rfl ?_
    refine y_istore (n := 33) (ls' := [(5, .int (v3 * v4)), (4, .int v1), (0, .ref (E.2.2.2.2.1 + o)), (1, .ref (E.2.2.2.2.1 + o1)), (2, .int a2), (3, .int a3)]) C dX2_learn_31 (by decide) rfl rfl ?_
    refine y_aload_n (n := 34) C dX2_learn_33 2 rfl rfl ?_
    refine y_get (ci := 2) (f := 11) (n := 37) C in_X2 hO.1 rfl (by decide) wd_81 rfl rfl dX2_learn_34 rfl ?_
    refine y_iload_n (n := 38) C dX2_learn_37 5 rfl rfl ?_
    refine y_iload (n := 40) C dX2_learn_38 1 rfl rfl ?_
    refine y_iconst (n := 41) C (1 : Int32) dX2_learn_40 (by decide) rfl ?_
    refine y_iload_n (n := 42) C dX2_learn_41 4 rfl rfl ?_
    refine y_ishl (n := 43) C dX2_learn_42 rfl ?_
    refine y_ior (n := 44) C dX2_learn_43 rfl ?_
    refine y_cv (n := 47) C (fun r hr H locs la hP hS hl => y_runSN (st := []) C ky_X5_put wd_327 ⟨Nat.le_of_ble_eq_true rfl, Nat.le_of_ble_eq_true rfl⟩ (mX5_put hO.2.2.2.2.2.1 w a3 (v1 ||| (1 <<< (a2 &&& 31))) g.2.1 r hr) rfl (Nat.le_of_ble_eq_true rfl) rfl dX2_learn_44 hP hS hl) rfl (fun w5 hw5 => ?_)
    refine y_aload_n (n := 48) C dX2_learn_47 2 rfl rfl ?_
    refine y_get (ci := 2) (f := 12) (n := 51) C in_X2 hO.1 rfl (by decide) wd_82 rfl rfl dX2_learn_48 rfl ?_
    refine y_iload_n (n := 52) C dX2_learn_51 5 rfl rfl ?_
    refine y_aload_n (n := 53) C dX2_learn_52 2 rfl rfl ?_
    refine y_get (ci := 2) (f := 12) (n := 56) C in_X2 hO.1 rfl (by decide) wd_82 rfl rfl dX2_learn_53 rfl ?_
    refine y_iload_n (n := 57) C dX2_learn_56 5 rfl rfl ?_
    refine y_cp (n := 60) C (fun r hr H locs la hP hS hl => y_runSN (st := [.int a3, .ref (E.2.2.2.2.1 + (o + 6))]) C ky_X5_at wd_314 ⟨Nat.le_of_ble_eq_true rfl, Nat.le_of_ble_eq_true rfl⟩ (mX5_at hO.2.2.2.2.2.2.1 w5 a3 g.2.1 r hr) rfl (Nat.le_of_ble_eq_true rfl) rfl dX2_learn_57 hP hS hl) rfl (fun v6 hv6 => ?_)
    refine y_iload (n := 62) C dX2_learn_60 0 rfl rfl ?_
    refine y_iadd (n := 63) C dX2_learn_62 rfl ?_
    refine y_cv (n := 66) C (fun r hr H locs la hP hS hl => y_runSN (st := []) C ky_X5_put wd_327 ⟨Nat.le_of_ble_eq_true rfl, Nat.le_of_ble_eq_true rfl⟩ (mX5_put hO.2.2.2.2.2.2.1 w5 a3 (v6 + (v3 * v4)) g.2.1 r hr) rfl (Nat.le_of_ble_eq_true rfl) rfl dX2_learn_63 hP hS hl) rfl (fun w7 hw7 => ?_)
    exact y_rv C hR dX2_learn_66
theorem mX2_learn {E : Ex} {o o1 : Nat} (hO : shR E.2.2.2.2.2.1 o) (hO1 : shO E.2.2.2.2.2.1 o1) (w : Wd) (a2 : Int32) (a3 : Int32) (l : Launch) : MV l yX2_learn cX2_learn 6 none { frames := 2, cells := 0, slots := 0, locals := 43 } E [.ref (E.2.2.2.2.1 + o), .ref (E.2.2.2.2.1 + o1), .int a2, .int a3] w (fX2_learn w o o1 a2 a3) :=
  y_met (Qc := yQv E) (by decide +kernel) (Nat.le_of_ble_eq_true rfl) (fun g C hR => eX2_learn C hR hO hO1 w a2 a3) l
def fX2_isAhead (w : Wd) (o : Nat) (a1 : Int32) (a2 : Int32) : Option (Int32) :=
  (fX5_at w (o + 6) 60 a1).bind fun v1 =>
  (fX5_at w (o + 6) 60 a2).bind fun v2 =>
  if v2 < v1 then
    rtZ 1
  else
    if v1 = v2 then
      if a2 ≤ a1 then
        rtZ 0
      else
        rtZ 1
    else
      rtZ 0
set_option maxRecDepth 4000 in
theorem eX2_isAhead {g : Gx} {E : Ex} (C : CC g E cX2_isAhead 5 RX2 1 21) (hR : RT g (some .boolean)) {o : Nat} (hO : shR E.2.2.2.2.2.1 o) (w : Wd) (a1 : Int32) (a2 : Int32) : YO g E 5 (QP g E w) (fX2_isAhead w o a1 a2) w 0 [(0, .ref (E.2.2.2.2.1 + o)), (1, .int a1), (2, .int a2)] [] := by
  unfold fX2_isAhead
  refine y_aload_n (n := 1) C dX2_isAhead_0 0 rfl rfl ?_
  refine y_get (ci := 2) (f := 12) (n := 4) C in_X2 hO.1 rfl (by decide) wd_82 rfl rfl dX2_isAhead_1 rfl ?_
  refine y_iload_n (n := 5) C dX2_isAhead_4 1 rfl rfl ?_
  refine y_cp (n := 8) C (fun r hr H locs la hP hS hl => y_runSN (st := []) C ky_X5_at wd_314 ⟨Nat.le_of_ble_eq_true rfl, Nat.le_of_ble_eq_true rfl⟩ (mX5_at hO.2.2.2.2.2.2.1 w a1 g.2.1 r hr) rfl (Nat.le_of_ble_eq_true rfl) rfl dX2_isAhead_5 hP hS hl) rfl (fun v1 hv1 => ?_)
  refine y_istore_n (n := 9) (ls' := [(3, .int v1), (0, .ref (E.2.2.2.2.1 + o)), (1, .int a1), (2, .int a2)]) C dX2_isAhead_8 (by decide) rfl rfl ?_
  refine y_aload_n (n := 10) C dX2_isAhead_9 1 rfl rfl ?_
  refine y_get (ci := 2) (f := 12) (n := 13) C in_X2 hO.1 rfl (by decide) wd_82 rfl rfl dX2_isAhead_10 rfl ?_
  refine y_iload_n (n := 14) C dX2_isAhead_13 3 rfl rfl ?_
  refine y_cp (n := 17) C (fun r hr H locs la hP hS hl => y_runSN (st := []) C ky_X5_at wd_314 ⟨Nat.le_of_ble_eq_true rfl, Nat.le_of_ble_eq_true rfl⟩ (mX5_at hO.2.2.2.2.2.2.1 w a2 g.2.1 r hr) rfl (Nat.le_of_ble_eq_true rfl) rfl dX2_isAhead_14 hP hS hl) rfl (fun v2 hv2 => ?_)
  refine y_istore (n := 19) (ls' := [(4, .int v2), (3, .int v1), (0, .ref (E.2.2.2.2.1 + o)), (1, .int a1), (2, .int a2)]) C dX2_isAhead_17 (by decide) rfl rfl ?_
  refine y_iload_n (n := 20) C dX2_isAhead_19 1 rfl rfl ?_
  refine y_iload (n := 22) C dX2_isAhead_20 0 rfl rfl ?_
  refine y_icmp_gt (tgt := 36) (n := 25) C dX2_isAhead_22 (by decide) rfl (fun h3 => ?_) (fun h3 => ?_)
  · refine y_iconst (n := 37) C (1 : Int32) dX2_isAhead_36 (by decide) rfl ?_
    refine y_goto (tgt := 41) C dX2_isAhead_37 (by decide) ?_
    exact y_rz C hR dX2_isAhead_41
  · refine y_iload_n (n := 26) C dX2_isAhead_25 1 rfl rfl ?_
    refine y_iload (n := 28) C dX2_isAhead_26 0 rfl rfl ?_
    refine y_icmp_ne (tgt := 40) (n := 31) C dX2_isAhead_28 (by decide) rfl (fun h4 => ?_) (fun h4 => ?_)
    · refine y_iconst (n := 41) C (0 : Int32) dX2_isAhead_40 (by decide) rfl ?_
      exact y_rz C hR dX2_isAhead_41
    · refine y_iload_n (n := 32) C dX2_isAhead_31 3 rfl rfl ?_
      refine y_iload_n (n := 33) C dX2_isAhead_32 4 rfl rfl ?_
      refine y_icmp_ge (tgt := 40) (n := 36) C dX2_isAhead_33 (by decide) rfl (fun h5 => ?_) (fun h5 => ?_)
      · refine y_iconst (n := 41) C (0 : Int32) dX2_isAhead_40 (by decide) rfl ?_
        exact y_rz C hR dX2_isAhead_41
      · refine y_iconst (n := 37) C (1 : Int32) dX2_isAhead_36 (by decide) rfl ?_
        refine y_goto (tgt := 41) C dX2_isAhead_37 (by decide) ?_
        exact y_rz C hR dX2_isAhead_41
theorem mX2_isAhead {E : Ex} {o : Nat} (hO : shR E.2.2.2.2.2.1 o) (w : Wd) (a1 : Int32) (a2 : Int32) (l : Launch) : MP l yX2_isAhead cX2_isAhead 5 (some .boolean) { frames := 1, cells := 0, slots := 0, locals := 21 } E [.ref (E.2.2.2.2.1 + o), .int a1, .int a2] w (fX2_isAhead w o a1 a2) :=
  y_met (Qc := fun r => yQi E (r, w)) (by decide +kernel) (Nat.le_of_ble_eq_true rfl) (fun g C hR => eX2_isAhead C hR hO w a1 a2) l
def lX2_moveAhead_6 (o : Nat) : Nat → Wd → Int32 → Int32 → Option (Wd)
  | 0, _, _, _ => none
  | n + 1, w, x1, x2 =>
    if x2 ≤ 0 then
      some w
    else
      (fX5_at w (o + 8) 60 (x2 - 1)).bind fun v3 =>
      (fX2_isAhead w o x1 v3).bind fun v4 =>
      if v4 = 0 then
        some w
      else
        (fX5_at w (o + 8) 60 (x2 - 1)).bind fun v6 =>
        (fX5_put w (o + 8) 60 x2 v6).bind fun w7 =>
        (fX5_put w7 (o + 8) 60 (x2 - 1) x1).bind fun w8 =>
        lX2_moveAhead_6 o n w8 x1 (x2 + (-1))
set_option maxRecDepth 4000 in
theorem clX2_moveAhead_6 {g : Gx} {E : Ex} (C : CC g E cX2_moveAhead 3 RX2 2 45) (hR : RT g none) {o : Nat} (hO : shR E.2.2.2.2.2.1 o)  : ∀ (n : Nat) (w : Wd) (x1 : Int32) (x2 : Int32), YO g E 3 (QV g E) (lX2_moveAhead_6 o n w x1 x2) w 6 [(0, .ref (E.2.2.2.2.1 + o)), (1, .int x1), (2, .int x2)] [] := by
  intro n
  induction n with
  | zero => intro w x1 x2; exact y_no
  | succ n ih =>
    intro w x1 x2
    rw [lX2_moveAhead_6]
    refine y_iload_n (n := 7) C dX2_moveAhead_6 2 rfl rfl ?_
    refine y_if_le (tgt := 63) (n := 10) C dX2_moveAhead_7 (by decide) rfl (fun h2 => ?_) (fun h2 => ?_)
    · exact y_rv C hR dX2_moveAhead_63
    · refine y_aload_n (n := 11) C dX2_moveAhead_10 0 rfl rfl ?_
      refine y_iload_n (n := 12) C dX2_moveAhead_11 1 rfl rfl ?_
      refine y_aload_n (n := 13) C dX2_moveAhead_12 0 rfl rfl ?_
      refine y_get (ci := 2) (f := 14) (n := 16) C in_X2 hO.1 rfl (by decide) wd_86 rfl rfl dX2_moveAhead_13 rfl ?_
      refine y_iload_n (n := 17) C dX2_moveAhead_16 2 rfl rfl ?_
      refine y_iconst (n := 18) C (1 : Int32) dX2_moveAhead_17 (by decide) rfl ?_
      refine y_isub (n := 19) C dX2_moveAhead_18 rfl ?_
      refine y_cp (n := 22) C (fun r hr H locs la hP hS hl => y_runSN (st := [.int x1, .ref (E.2.2.2.2.1 + o)]) C ky_X5_at wd_314 ⟨Nat.le_of_ble_eq_true rfl, Nat.le_of_ble_eq_true rfl⟩ (mX5_at hO.2.2.2.2.2.2.2.2 w (x2 - 1) g.2.1 r hr) rfl (Nat.le_of_ble_eq_true rfl) rfl dX2_moveAhead_19 hP hS hl) rfl (fun v3 hv3 => ?_)
      refine y_cp (n := 25) C (fun r hr H locs la hP hS hl => y_runV (ci := 2) (st := []) C ky_X2_isAhead wd_427 ⟨Nat.le_of_ble_eq_true rfl, Nat.le_of_ble_eq_true rfl⟩ hO.1 rfl (mX2_isAhead hO w x1 v3 g.2.1 r hr) rfl (Nat.le_of_ble_eq_true rfl) rfl dX2_moveAhead_22 hP hS hl) rfl (fun v4 hv4 => ?_)
      refine y_if_eq (tgt := 63) (n := 28) C dX2_moveAhead_25 (by decide) rfl (fun h5 => ?_) (fun h5 => ?_)
      · exact y_rv C hR dX2_moveAhead_63
      · refine y_aload_n (n := 29) C dX2_moveAhead_28 0 rfl rfl ?_
        refine y_get (ci := 2) (f := 14) (n := 32) C in_X2 hO.1 rfl (by decide) wd_86 rfl rfl dX2_moveAhead_29 rfl ?_
        refine y_iload_n (n := 33) C dX2_moveAhead_32 2 rfl rfl ?_
        refine y_aload_n (n := 34) C dX2_moveAhead_33 0 rfl rfl ?_
        refine y_get (ci := 2) (f := 14) (n := 37) C in_X2 hO.1 rfl (by decide) wd_86 rfl rfl dX2_moveAhead_34 rfl ?_
        refine y_iload_n (n := 38) C dX2_moveAhead_37 2 rfl rfl ?_
        refine y_iconst (n := 39) C (1 : Int32) dX2_moveAhead_38 (by decide) rfl ?_
        refine y_isub (n := 40) C dX2_moveAhead_39 rfl ?_
        refine y_cp (n := 43) C (fun r hr H locs la hP hS hl => y_runSN (st := [.int x2, .ref (E.2.2.2.2.1 + (o + 8))]) C ky_X5_at wd_314 ⟨Nat.le_of_ble_eq_true rfl, Nat.le_of_ble_eq_true rfl⟩ (mX5_at hO.2.2.2.2.2.2.2.2 w (x2 - 1) g.2.1 r hr) rfl (Nat.le_of_ble_eq_true rfl) rfl dX2_moveAhead_40 hP hS hl) rfl (fun v6 hv6 => ?_)
        refine y_cv (n := 46) C (fun r hr H locs la hP hS hl => y_runSN (st := []) C ky_X5_put wd_327 ⟨Nat.le_of_ble_eq_true rfl, Nat.le_of_ble_eq_true rfl⟩ (mX5_put hO.2.2.2.2.2.2.2.2 w x2 v6 g.2.1 r hr) rfl (Nat.le_of_ble_eq_true rfl) rfl dX2_moveAhead_43 hP hS hl) rfl (fun w7 hw7 => ?_)
        refine y_aload_n (n := 47) C dX2_moveAhead_46 0 rfl rfl ?_
        refine y_get (ci := 2) (f := 14) (n := 50) C in_X2 hO.1 rfl (by decide) wd_86 rfl rfl dX2_moveAhead_47 rfl ?_
        refine y_iload_n (n := 51) C dX2_moveAhead_50 2 rfl rfl ?_
        refine y_iconst (n := 52) C (1 : Int32) dX2_moveAhead_51 (by decide) rfl ?_
        refine y_isub (n := 53) C dX2_moveAhead_52 rfl ?_
        refine y_iload_n (n := 54) C dX2_moveAhead_53 1 rfl rfl ?_
        refine y_cv (n := 57) C (fun r hr H locs la hP hS hl => y_runSN (st := []) C ky_X5_put wd_327 ⟨Nat.le_of_ble_eq_true rfl, Nat.le_of_ble_eq_true rfl⟩ (mX5_put hO.2.2.2.2.2.2.2.2 w7 (x2 - 1) x1 g.2.1 r hr) rfl (Nat.le_of_ble_eq_true rfl) rfl dX2_moveAhead_54 hP hS hl) rfl (fun w8 hw8 => ?_)
        refine y_iinc (n := 60) (v := x2 + (-1)) (ls' := [(2, .int (x2 + (-1))), (0, .ref (E.2.2.2.2.1 + o)), (1, .int x1)]) C dX2_moveAhead_57 2 rfl rfl (by decide) rfl rfl ?_
        refine y_goto (tgt := 6) C dX2_moveAhead_60 (by decide) ?_
        refine y_ls [1, 2, 0] rfl ?_
        exact ih w8 x1 (x2 + (-1))
def fX2_moveAhead (w : Wd) (o : Nat) (a1 : Int32) : Option (Wd) :=
  (fX2_frontPlaceOf w o a1).bind fun v1 =>
  lX2_moveAhead_6 o 4096 w a1 v1
set_option maxRecDepth 4000 in
theorem eX2_moveAhead {g : Gx} {E : Ex} (C : CC g E cX2_moveAhead 3 RX2 2 45) (hR : RT g none) {o : Nat} (hO : shR E.2.2.2.2.2.1 o) (w : Wd) (a1 : Int32) : YO g E 3 (QV g E) (fX2_moveAhead w o a1) w 0 [(0, .ref (E.2.2.2.2.1 + o)), (1, .int a1)] [] := by
  unfold fX2_moveAhead
  refine y_aload_n (n := 1) C dX2_moveAhead_0 0 rfl rfl ?_
  refine y_iload_n (n := 2) C dX2_moveAhead_1 1 rfl rfl ?_
  refine y_cp (n := 5) C (fun r hr H locs la hP hS hl => y_runV (ci := 2) (st := []) C ky_X2_frontPlaceOf wd_423 ⟨Nat.le_of_ble_eq_true rfl, Nat.le_of_ble_eq_true rfl⟩ hO.1 rfl (mX2_frontPlaceOf hO w a1 g.2.1 r hr) rfl (Nat.le_of_ble_eq_true rfl) rfl dX2_moveAhead_2 hP hS hl) rfl (fun v1 hv1 => ?_)
  refine y_istore_n (n := 6) (ls' := [(2, .int v1), (0, .ref (E.2.2.2.2.1 + o)), (1, .int a1)]) C dX2_moveAhead_5 (by decide) rfl rfl ?_
  refine y_ls [1, 2, 0] rfl ?_
  exact clX2_moveAhead_6 C hR hO 4096 w a1 v1
theorem mX2_moveAhead {E : Ex} {o : Nat} (hO : shR E.2.2.2.2.2.1 o) (w : Wd) (a1 : Int32) (l : Launch) : MV l yX2_moveAhead cX2_moveAhead 3 none { frames := 2, cells := 0, slots := 0, locals := 45 } E [.ref (E.2.2.2.2.1 + o), .int a1] w (fX2_moveAhead w o a1) :=
  y_met (Qc := yQv E) (by decide +kernel) (Nat.le_of_ble_eq_true rfl) (fun g C hR => eX2_moveAhead C hR hO w a1) l
def lX2_see_76 (o o1 : Nat) : Nat → Wd → Int32 → Int32 → Int32 → Option (Wd)
  | 0, _, _, _, _ => none
  | n + 1, w, x2, x3, x5 =>
    if 6 ≤ x5 then
      (fX2_moveAhead w o x3).bind fun w12 =>
      some w12
    else
      if x5 = x2 then
        lX2_see_76 o o1 n w x2 x3 (x5 + 1)
      else
        (fX1_isAsked w o1 x5).bind fun v14 =>
        if v14 = 0 then
          lX2_see_76 o o1 n w x2 x3 (x5 + 1)
        else
          (fX5_at w (o + 2) 6 x5).bind fun v16 =>
          (fX5_put w (o + 2) 6 x5 (v16 + 1)).bind fun w17 =>
          (fX2_learn w17 o o1 x5 x3).bind fun w18 =>
          lX2_see_76 o o1 n w18 x2 x3 (x5 + 1)
set_option maxRecDepth 4000 in
theorem clX2_see_76 {g : Gx} {E : Ex} (C : CC g E cX2_see 6 RX2 3 68) (hR : RT g none) {o o1 : Nat} (hO : shR E.2.2.2.2.2.1 o) (hO1 : shO E.2.2.2.2.2.1 o1)  : ∀ (n : Nat) (w : Wd) (x2 : Int32) (x3 : Int32) (x5 : Int32), YO g E 6 (QV g E) (lX2_see_76 o o1 n w x2 x3 x5) w 76 [(0, .ref (E.2.2.2.2.1 + o)), (1, .ref (E.2.2.2.2.1 + o1)), (2, .int x2), (3, .int x3), (5, .int x5)] [] := by
  intro n
  induction n with
  | zero => intro w x2 x3 x5; exact y_no
  | succ n ih =>
    intro w x2 x3 x5
    rw [lX2_see_76]
    refine y_iload (n := 78) C dX2_see_76 4 rfl rfl ?_
    refine y_bipush (n := 80) C (6 : Int32) dX2_see_78 (by decide) rfl ?_
    refine y_icmp_ge (tgt := 132) (n := 83) C dX2_see_80 (by decide) rfl (fun h11 => ?_) (fun h11 => ?_)
    · refine y_aload_n (n := 133) C dX2_see_132 0 rfl rfl ?_
      refine y_iload_n (n := 134) C dX2_see_133 3 rfl rfl ?_
      refine y_cv (n := 137) C (fun r hr H locs la hP hS hl => y_runV (ci := 2) (st := []) C ky_X2_moveAhead wd_419 ⟨Nat.le_of_ble_eq_true rfl, Nat.le_of_ble_eq_true rfl⟩ hO.1 rfl (mX2_moveAhead hO w x3 g.2.1 r hr) rfl (Nat.le_of_ble_eq_true rfl) rfl dX2_see_134 hP hS hl) rfl (fun w12 hw12 => ?_)
      exact y_rv C hR dX2_see_137
    · refine y_iload (n := 85) C dX2_see_83 4 rfl rfl ?_
      refine y_iload_n (n := 86) C dX2_see_85 2 rfl rfl ?_
      refine y_icmp_eq (tgt := 126) (n := 89) C dX2_see_86 (by decide) rfl (fun h13 => ?_) (fun h13 => ?_)
      · refine y_iinc (n := 129) (v := x5 + 1) (ls' := [(5, .int (x5 + 1)), (0, .ref (E.2.2.2.2.1 + o)), (1, .ref (E.2.2.2.2.1 + o1)), (2, .int x2), (3, .int x3)]) C dX2_see_126 4 rfl rfl (by decide) rfl rfl ?_
        refine y_goto (tgt := 76) C dX2_see_129 (by decide) ?_
        refine y_ls [1, 2, 3, 4, 0] rfl ?_
        exact ih w x2 x3 (x5 + 1)
      · refine y_aload_n (n := 90) C dX2_see_89 1 rfl rfl ?_
        refine y_iload (n := 92) C dX2_see_90 4 rfl rfl ?_
        refine y_cp (n := 95) C (fun r hr H locs la hP hS hl => y_runVN (ci := 1) (st := []) C ky_X1_isAsked wd_343 ⟨Nat.le_of_ble_eq_true rfl, Nat.le_of_ble_eq_true rfl⟩ hO1.1 rfl (mX1_isAsked hO1 w x5 g.2.1 r hr) rfl (Nat.le_of_ble_eq_true rfl) rfl dX2_see_92 hP hS hl) rfl (fun v14 hv14 => ?_)
        refine y_if_eq (tgt := 126) (n := 98) C dX2_see_95 (by decide) rfl (fun h15 => ?_) (fun h15 => ?_)
        · refine y_iinc (n := 129) (v := x5 + 1) (ls' := [(5, .int (x5 + 1)), (0, .ref (E.2.2.2.2.1 + o)), (1, .ref (E.2.2.2.2.1 + o1)), (2, .int x2), (3, .int x3)]) C dX2_see_126 4 rfl rfl (by decide) rfl rfl ?_
          refine y_goto (tgt := 76) C dX2_see_129 (by decide) ?_
          refine y_ls [1, 2, 3, 4, 0] rfl ?_
          exact ih w x2 x3 (x5 + 1)
        · refine y_aload_n (n := 99) C dX2_see_98 0 rfl rfl ?_
          refine y_get (ci := 2) (f := 8) (n := 102) C in_X2 hO.1 rfl (by decide) wd_78 rfl rfl dX2_see_99 rfl ?_
          refine y_iload (n := 104) C dX2_see_102 4 rfl rfl ?_
          refine y_aload_n (n := 105) C dX2_see_104 0 rfl rfl ?_
          refine y_get (ci := 2) (f := 8) (n := 108) C in_X2 hO.1 rfl (by decide) wd_78 rfl rfl dX2_see_105 rfl ?_
          refine y_iload (n := 110) C dX2_see_108 4 rfl rfl ?_
          refine y_cp (n := 113) C (fun r hr H locs la hP hS hl => y_runSN (st := [.int x5, .ref (E.2.2.2.2.1 + (o + 2))]) C ky_X5_at wd_314 ⟨Nat.le_of_ble_eq_true rfl, Nat.le_of_ble_eq_true rfl⟩ (mX5_at hO.2.2.1 w x5 g.2.1 r hr) rfl (Nat.le_of_ble_eq_true rfl) rfl dX2_see_110 hP hS hl) rfl (fun v16 hv16 => ?_)
          refine y_iconst (n := 114) C (1 : Int32) dX2_see_113 (by decide) rfl ?_
          refine y_iadd (n := 115) C dX2_see_114 rfl ?_
          refine y_cv (n := 118) C (fun r hr H locs la hP hS hl => y_runSN (st := []) C ky_X5_put wd_327 ⟨Nat.le_of_ble_eq_true rfl, Nat.le_of_ble_eq_true rfl⟩ (mX5_put hO.2.2.1 w x5 (v16 + 1) g.2.1 r hr) rfl (Nat.le_of_ble_eq_true rfl) rfl dX2_see_115 hP hS hl) rfl (fun w17 hw17 => ?_)
          refine y_aload_n (n := 119) C dX2_see_118 0 rfl rfl ?_
          refine y_aload_n (n := 120) C dX2_see_119 1 rfl rfl ?_
          refine y_iload (n := 122) C dX2_see_120 4 rfl rfl ?_
          refine y_iload_n (n := 123) C dX2_see_122 3 rfl rfl ?_
          refine y_cv (n := 126) C (fun r hr H locs la hP hS hl => y_runV (ci := 2) (st := []) C ky_X2_learn wd_415 ⟨Nat.le_of_ble_eq_true rfl, Nat.le_of_ble_eq_true rfl⟩ hO.1 rfl (mX2_learn hO hO1 w17 x5 x3 g.2.1 r hr) rfl (Nat.le_of_ble_eq_true rfl) rfl dX2_see_123 hP hS hl) rfl (fun w18 hw18 => ?_)
          refine y_iinc (n := 129) (v := x5 + 1) (ls' := [(5, .int (x5 + 1)), (0, .ref (E.2.2.2.2.1 + o)), (1, .ref (E.2.2.2.2.1 + o1)), (2, .int x2), (3, .int x3)]) C dX2_see_126 4 rfl rfl (by decide) rfl rfl ?_
          refine y_goto (tgt := 76) C dX2_see_129 (by decide) ?_
          refine y_ls [1, 2, 3, 4, 0] rfl ?_
          exact ih w18 x2 x3 (x5 + 1)
def fX2_see (w : Wd) (o o1 : Nat) (a2 : Int32) (a3 : Int32) : Option (Wd) :=
  (fX2_isSeen w o a3).bind fun v1 =>
  if v1 = 0 then
    (fX5_put w (o + 7) 60 a3 (w.1 o 4)).bind fun w5 =>
    (fX5_put w5 (o + 8) 60 (w5.1 o 15) a3).bind fun w6 =>
    (pI w6 o 15 ((w6.1 o 15) + 1)).bind fun w7 =>
    (fX2_learn w7 o o1 a2 a3).bind fun w8 =>
    if (bz (w8.1 o 2)) = 0 then
      (fX2_moveAhead w8 o a3).bind fun w10 =>
      some w10
    else
      lX2_see_76 o o1 4096 w8 a2 a3 0
  else
    (fX2_learn w o o1 a2 a3).bind fun w3 =>
    (fX2_moveAhead w3 o a3).bind fun w4 =>
    some w4
set_option maxRecDepth 4000 in
theorem eX2_see {g : Gx} {E : Ex} (C : CC g E cX2_see 6 RX2 3 68) (hR : RT g none) {o o1 : Nat} (hO : shR E.2.2.2.2.2.1 o) (hO1 : shO E.2.2.2.2.2.1 o1) (w : Wd) (a2 : Int32) (a3 : Int32) : YO g E 6 (QV g E) (fX2_see w o o1 a2 a3) w 0 [(0, .ref (E.2.2.2.2.1 + o)), (1, .ref (E.2.2.2.2.1 + o1)), (2, .int a2), (3, .int a3)] [] := by
  unfold fX2_see
  refine y_aload_n (n := 1) C dX2_see_0 0 rfl rfl ?_
  refine y_iload_n (n := 2) C dX2_see_1 3 rfl rfl ?_
  refine y_cp (n := 5) C (fun r hr H locs la hP hS hl => y_runV (ci := 2) (st := []) C ky_X2_isSeen wd_411 ⟨Nat.le_of_ble_eq_true rfl, Nat.le_of_ble_eq_true rfl⟩ hO.1 rfl (mX2_isSeen hO w a3 g.2.1 r hr) rfl (Nat.le_of_ble_eq_true rfl) rfl dX2_see_2 hP hS hl) rfl (fun v1 hv1 => ?_)
  refine y_if_ne (tgt := 12) (n := 8) C dX2_see_5 (by decide) rfl (fun h2 => ?_) (fun h2 => ?_)
  · refine y_iconst (n := 13) C (0 : Int32) dX2_see_12 (by decide) rfl ?_
    refine y_istore (n := 15) (ls' := [(4, .int 0), (0, .ref (E.2.2.2.2.1 + o)), (1, .ref (E.2.2.2.2.1 + o1)), (2, .int a2), (3, .int a3)]) C dX2_see_13 (by decide) rfl rfl ?_
    refine y_iload (n := 17) C dX2_see_15 0 rfl rfl ?_
    refine y_if_eq_T (tgt := 54) C dX2_see_17 (by decide) (by decide) ?_
    refine y_aload_n (n := 55) C dX2_see_54 1 rfl rfl ?_
    refine y_aload_n (n := 56) C dX2_see_55 2 rfl rfl ?_
    refine y_iload_n (n := 57) C dX2_see_56 3 rfl rfl ?_
    refine y_iload_n (n := 58) C dX2_see_57 4 rfl rfl ?_
    refine y_cv (n := 61) C (fun r hr H locs la hP hS hl => y_runV (ci := 2) (st := []) C ky_X2_learn wd_415 ⟨Nat.le_of_ble_eq_true rfl, Nat.le_of_ble_eq_true rfl⟩ hO.1 rfl (mX2_learn hO hO1 w a2 a3 g.2.1 r hr) rfl (Nat.le_of_ble_eq_true rfl) rfl dX2_see_58 hP hS hl) rfl (fun w3 hw3 => ?_)
    refine y_iload (n := 63) C dX2_see_61 0 rfl rfl ?_
    refine y_if_eq_T (tgt := 132) C dX2_see_63 (by decide) (by decide) ?_
    refine y_aload_n (n := 133) C dX2_see_132 1 rfl rfl ?_
    refine y_iload_n (n := 134) C dX2_see_133 4 rfl rfl ?_
    refine y_cv (n := 137) C (fun r hr H locs la hP hS hl => y_runV (ci := 2) (st := []) C ky_X2_moveAhead wd_419 ⟨Nat.le_of_ble_eq_true rfl, Nat.le_of_ble_eq_true rfl⟩ hO.1 rfl (mX2_moveAhead hO w3 a3 g.2.1 r hr) rfl (Nat.le_of_ble_eq_true rfl) rfl dX2_see_134 hP hS hl) rfl (fun w4 hw4 => ?_)
    exact y_rv C hR dX2_see_137
  · refine y_iconst (n := 9) C (1 : Int32) dX2_see_8 (by decide) rfl ?_
    refine y_goto (tgt := 13) C dX2_see_9 (by decide) ?_
    refine y_istore (n := 15) (ls' := [(4, .int 1), (0, .ref (E.2.2.2.2.1 + o)), (1, .ref (E.2.2.2.2.1 + o1)), (2, .int a2), (3, .int a3)]) C dX2_see_13 (by decide) rfl rfl ?_
    refine y_iload (n := 17) C dX2_see_15 0 rfl rfl ?_
    refine y_if_eq_F (tgt := 54) (n := 20) C dX2_see_17 (by decide) rfl (by decide) ?_
    refine y_aload_n (n := 21) C dX2_see_20 1 rfl rfl ?_
    refine y_get (ci := 2) (f := 13) (n := 24) C in_X2 hO.1 rfl (by decide) wd_84 rfl rfl dX2_see_21 rfl ?_
    refine y_iload_n (n := 25) C dX2_see_24 4 rfl rfl ?_
    refine y_aload_n (n := 26) C dX2_see_25 1 rfl rfl ?_
    refine y_get (ci := 2) (f := 4) (n := 29) C in_X2 hO.1 rfl (by decide) wd_72 rfl rfl dX2_see_26 rfl ?_
    refine y_cv (n := 32) C (fun r hr H locs la hP hS hl => y_runSN (st := []) C ky_X5_put wd_327 ⟨Nat.le_of_ble_eq_true rfl, Nat.le_of_ble_eq_true rfl⟩ (mX5_put hO.2.2.2.2.2.2.2.1 w a3 (w.1 o 4) g.2.1 r hr) rfl (Nat.le_of_ble_eq_true rfl) rfl dX2_see_29 hP hS hl) rfl (fun w5 hw5 => ?_)
    refine y_aload_n (n := 33) C dX2_see_32 1 rfl rfl ?_
    refine y_get (ci := 2) (f := 14) (n := 36) C in_X2 hO.1 rfl (by decide) wd_86 rfl rfl dX2_see_33 rfl ?_
    refine y_aload_n (n := 37) C dX2_see_36 1 rfl rfl ?_
    refine y_get (ci := 2) (f := 15) (n := 40) C in_X2 hO.1 rfl (by decide) wd_88 rfl rfl dX2_see_37 rfl ?_
    refine y_iload_n (n := 41) C dX2_see_40 4 rfl rfl ?_
    refine y_cv (n := 44) C (fun r hr H locs la hP hS hl => y_runSN (st := []) C ky_X5_put wd_327 ⟨Nat.le_of_ble_eq_true rfl, Nat.le_of_ble_eq_true rfl⟩ (mX5_put hO.2.2.2.2.2.2.2.2 w5 (w5.1 o 15) a3 g.2.1 r hr) rfl (Nat.le_of_ble_eq_true rfl) rfl dX2_see_41 hP hS hl) rfl (fun w6 hw6 => ?_)
    refine y_aload_n (n := 45) C dX2_see_44 1 rfl rfl ?_
    refine y_dup (n := 46) C dX2_see_45 rfl rfl ?_
    refine y_get (ci := 2) (f := 15) (n := 49) C in_X2 hO.1 rfl (by decide) wd_88 rfl rfl dX2_see_46 rfl ?_
    refine y_iconst (n := 50) C (1 : Int32) dX2_see_49 (by decide) rfl ?_
    refine y_iadd (n := 51) C dX2_see_50 rfl ?_
    refine y_putI (ci := 2) (f := 15) (n := 54) C in_X2 tyX2 tyX2_ok nmX2 hO.1 rfl (by decide) wd_88 rfl rfl (by decide +kernel) (Nat.le_of_ble_eq_true rfl) st_X2_15 dX2_see_51 rfl (fun w7 hw7 => ?_)
    refine y_aload_n (n := 55) C dX2_see_54 1 rfl rfl ?_
    refine y_aload_n (n := 56) C dX2_see_55 2 rfl rfl ?_
    refine y_iload_n (n := 57) C dX2_see_56 3 rfl rfl ?_
    refine y_iload_n (n := 58) C dX2_see_57 4 rfl rfl ?_
    refine y_cv (n := 61) C (fun r hr H locs la hP hS hl => y_runV (ci := 2) (st := []) C ky_X2_learn wd_415 ⟨Nat.le_of_ble_eq_true rfl, Nat.le_of_ble_eq_true rfl⟩ hO.1 rfl (mX2_learn hO hO1 w7 a2 a3 g.2.1 r hr) rfl (Nat.le_of_ble_eq_true rfl) rfl dX2_see_58 hP hS hl) rfl (fun w8 hw8 => ?_)
    refine y_iload (n := 63) C dX2_see_61 0 rfl rfl ?_
    refine y_if_eq_F (tgt := 132) (n := 66) C dX2_see_63 (by decide) rfl (by decide) ?_
    refine y_aload_n (n := 67) C dX2_see_66 1 rfl rfl ?_
    refine y_get (ci := 2) (f := 2) (n := 70) C in_X2 hO.1 rfl (by decide) wd_70 rfl rfl dX2_see_67 rfl ?_
    refine y_if_eq (tgt := 132) (n := 73) C dX2_see_70 (by decide) rfl (fun h9 => ?_) (fun h9 => ?_)
    · refine y_aload_n (n := 133) C dX2_see_132 1 rfl rfl ?_
      refine y_iload_n (n := 134) C dX2_see_133 4 rfl rfl ?_
      refine y_cv (n := 137) C (fun r hr H locs la hP hS hl => y_runV (ci := 2) (st := []) C ky_X2_moveAhead wd_419 ⟨Nat.le_of_ble_eq_true rfl, Nat.le_of_ble_eq_true rfl⟩ hO.1 rfl (mX2_moveAhead hO w8 a3 g.2.1 r hr) rfl (Nat.le_of_ble_eq_true rfl) rfl dX2_see_134 hP hS hl) rfl (fun w10 hw10 => ?_)
      exact y_rv C hR dX2_see_137
    · refine y_iconst (n := 74) C (0 : Int32) dX2_see_73 (by decide) rfl ?_
      refine y_istore (n := 76) (ls' := [(5, .int 0), (4, .int 1), (0, .ref (E.2.2.2.2.1 + o)), (1, .ref (E.2.2.2.2.1 + o1)), (2, .int a2), (3, .int a3)]) C dX2_see_74 (by decide) rfl rfl ?_
      refine y_ls [2, 3, 4, 5, 0] rfl ?_
      exact clX2_see_76 C hR hO hO1 4096 w8 a2 a3 0
theorem mX2_see {E : Ex} {o o1 : Nat} (hO : shR E.2.2.2.2.2.1 o) (hO1 : shO E.2.2.2.2.2.1 o1) (w : Wd) (a2 : Int32) (a3 : Int32) (l : Launch) : MV l yX2_see cX2_see 6 none { frames := 3, cells := 0, slots := 0, locals := 68 } E [.ref (E.2.2.2.2.1 + o), .ref (E.2.2.2.2.1 + o1), .int a2, .int a3] w (fX2_see w o o1 a2 a3) :=
  y_met (Qc := yQv E) (by decide +kernel) (Nat.le_of_ble_eq_true rfl) (fun g C hR => eX2_see C hR hO hO1 w a2 a3) l
def bX2_readEntry_47 (w : Wd) (o o1 : Nat) (x2 : Int32) (x3 : Int32) (x4 : Int32) : Option (Wd) :=
  (fX5_put w (o + 1) 6 x2 (x3 + 1)).bind fun w6 =>
  (fX2_findBounds w6 o o1 x2).bind fun w7 =>
  (fX1_isDeleted w7 o1 x4).bind fun v8 =>
  if v8 = 0 then
    (fX2_see w7 o o1 x2 x4).bind fun w10 =>
    (pI w10 o 3 x2).bind fun w11 =>
    (pI w11 o 4 ((w11.1 o 4) + 1)).bind fun w12 =>
    some w12
  else
    (pI w7 o 5 ((w7.1 o 5) + 1)).bind fun w13 =>
    (pI w13 o 3 x2).bind fun w14 =>
    (pI w14 o 4 ((w14.1 o 4) + 1)).bind fun w15 =>
    some w15
set_option maxRecDepth 4000 in
theorem cbX2_readEntry_47 {g : Gx} {E : Ex} (C : CC g E cX2_readEntry 5 RX2 4 93) (hR : RT g none) {o o1 : Nat} (hO : shR E.2.2.2.2.2.1 o) (hO1 : shO E.2.2.2.2.2.1 o1) (w : Wd) (x2 : Int32) (x3 : Int32) (x4 : Int32) : YO g E 5 (QV g E) (bX2_readEntry_47 w o o1 x2 x3 x4) w 47 [(0, .ref (E.2.2.2.2.1 + o)), (1, .ref (E.2.2.2.2.1 + o1)), (2, .int x2), (3, .int x3), (4, .int x4)] [] := by
  unfold bX2_readEntry_47
  refine y_aload_n (n := 48) C dX2_readEntry_47 0 rfl rfl ?_
  refine y_get (ci := 2) (f := 7) (n := 51) C in_X2 hO.1 rfl (by decide) wd_77 rfl rfl dX2_readEntry_48 rfl ?_
  refine y_iload_n (n := 52) C dX2_readEntry_51 2 rfl rfl ?_
  refine y_iload_n (n := 53) C dX2_readEntry_52 3 rfl rfl ?_
  refine y_iconst (n := 54) C (1 : Int32) dX2_readEntry_53 (by decide) rfl ?_
  refine y_iadd (n := 55) C dX2_readEntry_54 rfl ?_
  refine y_cv (n := 58) C (fun r hr H locs la hP hS hl => y_runSN (st := []) C ky_X5_put wd_327 ⟨Nat.le_of_ble_eq_true rfl, Nat.le_of_ble_eq_true rfl⟩ (mX5_put hO.2.1 w x2 (x3 + 1) g.2.1 r hr) rfl (Nat.le_of_ble_eq_true rfl) rfl dX2_readEntry_55 hP hS hl) rfl (fun w6 hw6 => ?_)
  refine y_aload_n (n := 59) C dX2_readEntry_58 0 rfl rfl ?_
  refine y_aload_n (n := 60) C dX2_readEntry_59 1 rfl rfl ?_
  refine y_iload_n (n := 61) C dX2_readEntry_60 2 rfl rfl ?_
  refine y_cv (n := 64) C (fun r hr H locs la hP hS hl => y_runV (ci := 2) (st := []) C ky_X2_findBounds wd_310 ⟨Nat.le_of_ble_eq_true rfl, Nat.le_of_ble_eq_true rfl⟩ hO.1 rfl (mX2_findBounds hO hO1 w6 x2 g.2.1 r hr) rfl (Nat.le_of_ble_eq_true rfl) rfl dX2_readEntry_61 hP hS hl) rfl (fun w7 hw7 => ?_)
  refine y_aload_n (n := 65) C dX2_readEntry_64 1 rfl rfl ?_
  refine y_iload (n := 67) C dX2_readEntry_65 4 rfl rfl ?_
  refine y_cp (n := 70) C (fun r hr H locs la hP hS hl => y_runVN (ci := 1) (st := []) C ky_X1_isDeleted wd_406 ⟨Nat.le_of_ble_eq_true rfl, Nat.le_of_ble_eq_true rfl⟩ hO1.1 rfl (mX1_isDeleted hO1 w7 x4 g.2.1 r hr) rfl (Nat.le_of_ble_eq_true rfl) rfl dX2_readEntry_67 hP hS hl) rfl (fun v8 hv8 => ?_)
  refine y_if_eq (tgt := 86) (n := 73) C dX2_readEntry_70 (by decide) rfl (fun h9 => ?_) (fun h9 => ?_)
  · refine y_aload_n (n := 87) C dX2_readEntry_86 0 rfl rfl ?_
    refine y_aload_n (n := 88) C dX2_readEntry_87 1 rfl rfl ?_
    refine y_iload_n (n := 89) C dX2_readEntry_88 2 rfl rfl ?_
    refine y_iload (n := 91) C dX2_readEntry_89 4 rfl rfl ?_
    refine y_cv (n := 94) C (fun r hr H locs la hP hS hl => y_runV (ci := 2) (st := []) C ky_X2_see wd_407 ⟨Nat.le_of_ble_eq_true rfl, Nat.le_of_ble_eq_true rfl⟩ hO.1 rfl (mX2_see hO hO1 w7 x2 x4 g.2.1 r hr) rfl (Nat.le_of_ble_eq_true rfl) rfl dX2_readEntry_91 hP hS hl) rfl (fun w10 hw10 => ?_)
    refine y_aload_n (n := 95) C dX2_readEntry_94 0 rfl rfl ?_
    refine y_iload_n (n := 96) C dX2_readEntry_95 2 rfl rfl ?_
    refine y_putI (ci := 2) (f := 3) (n := 99) C in_X2 tyX2 tyX2_ok nmX2 hO.1 rfl (by decide) wd_71 rfl rfl (by decide +kernel) (Nat.le_of_ble_eq_true rfl) st_X2_3 dX2_readEntry_96 rfl (fun w11 hw11 => ?_)
    refine y_aload_n (n := 100) C dX2_readEntry_99 0 rfl rfl ?_
    refine y_dup (n := 101) C dX2_readEntry_100 rfl rfl ?_
    refine y_get (ci := 2) (f := 4) (n := 104) C in_X2 hO.1 rfl (by decide) wd_72 rfl rfl dX2_readEntry_101 rfl ?_
    refine y_iconst (n := 105) C (1 : Int32) dX2_readEntry_104 (by decide) rfl ?_
    refine y_iadd (n := 106) C dX2_readEntry_105 rfl ?_
    refine y_putI (ci := 2) (f := 4) (n := 109) C in_X2 tyX2 tyX2_ok nmX2 hO.1 rfl (by decide) wd_72 rfl rfl (by decide +kernel) (Nat.le_of_ble_eq_true rfl) st_X2_4 dX2_readEntry_106 rfl (fun w12 hw12 => ?_)
    exact y_rv C hR dX2_readEntry_109
  · refine y_aload_n (n := 74) C dX2_readEntry_73 0 rfl rfl ?_
    refine y_dup (n := 75) C dX2_readEntry_74 rfl rfl ?_
    refine y_get (ci := 2) (f := 5) (n := 78) C in_X2 hO.1 rfl (by decide) wd_74 rfl rfl dX2_readEntry_75 rfl ?_
    refine y_iconst (n := 79) C (1 : Int32) dX2_readEntry_78 (by decide) rfl ?_
    refine y_iadd (n := 80) C dX2_readEntry_79 rfl ?_
    refine y_putI (ci := 2) (f := 5) (n := 83) C in_X2 tyX2 tyX2_ok nmX2 hO.1 rfl (by decide) wd_74 rfl rfl (by decide +kernel) (Nat.le_of_ble_eq_true rfl) st_X2_5 dX2_readEntry_80 rfl (fun w13 hw13 => ?_)
    refine y_goto (tgt := 94) C dX2_readEntry_83 (by decide) ?_
    refine y_aload_n (n := 95) C dX2_readEntry_94 0 rfl rfl ?_
    refine y_iload_n (n := 96) C dX2_readEntry_95 2 rfl rfl ?_
    refine y_putI (ci := 2) (f := 3) (n := 99) C in_X2 tyX2 tyX2_ok nmX2 hO.1 rfl (by decide) wd_71 rfl rfl (by decide +kernel) (Nat.le_of_ble_eq_true rfl) st_X2_3 dX2_readEntry_96 rfl (fun w14 hw14 => ?_)
    refine y_aload_n (n := 100) C dX2_readEntry_99 0 rfl rfl ?_
    refine y_dup (n := 101) C dX2_readEntry_100 rfl rfl ?_
    refine y_get (ci := 2) (f := 4) (n := 104) C in_X2 hO.1 rfl (by decide) wd_72 rfl rfl dX2_readEntry_101 rfl ?_
    refine y_iconst (n := 105) C (1 : Int32) dX2_readEntry_104 (by decide) rfl ?_
    refine y_iadd (n := 106) C dX2_readEntry_105 rfl ?_
    refine y_putI (ci := 2) (f := 4) (n := 109) C in_X2 tyX2 tyX2_ok nmX2 hO.1 rfl (by decide) wd_72 rfl rfl (by decide +kernel) (Nat.le_of_ble_eq_true rfl) st_X2_4 dX2_readEntry_106 rfl (fun w15 hw15 => ?_)
    exact y_rv C hR dX2_readEntry_109
def fX2_readEntry (w : Wd) (o o1 : Nat) (a2 : Int32) : Option (Wd) :=
  (fX5_at w (o + 1) 6 a2).bind fun v1 =>
  (fX1_documentAt w o1 a2 v1).bind fun v2 =>
  (fX1_scoreOf w o1 a2 v2).bind fun v3 =>
  (fX5_at w (o + 4) 6 a2).bind fun v4 =>
  if v3 ≤ v4 then
    bX2_readEntry_47 w o o1 a2 v1 v2
  else
    (pI w o 6 ((w.1 o 6) ||| (1 <<< (a2 &&& 31)))).bind fun w16 =>
    bX2_readEntry_47 w16 o o1 a2 v1 v2
set_option maxRecDepth 4000 in
theorem eX2_readEntry {g : Gx} {E : Ex} (C : CC g E cX2_readEntry 5 RX2 4 93) (hR : RT g none) {o o1 : Nat} (hO : shR E.2.2.2.2.2.1 o) (hO1 : shO E.2.2.2.2.2.1 o1) (w : Wd) (a2 : Int32) : YO g E 5 (QV g E) (fX2_readEntry w o o1 a2) w 0 [(0, .ref (E.2.2.2.2.1 + o)), (1, .ref (E.2.2.2.2.1 + o1)), (2, .int a2)] [] := by
  unfold fX2_readEntry
  refine y_aload_n (n := 1) C dX2_readEntry_0 0 rfl rfl ?_
  refine y_get (ci := 2) (f := 7) (n := 4) C in_X2 hO.1 rfl (by decide) wd_77 rfl rfl dX2_readEntry_1 rfl ?_
  refine y_iload_n (n := 5) C dX2_readEntry_4 2 rfl rfl ?_
  refine y_cp (n := 8) C (fun r hr H locs la hP hS hl => y_runSN (st := []) C ky_X5_at wd_314 ⟨Nat.le_of_ble_eq_true rfl, Nat.le_of_ble_eq_true rfl⟩ (mX5_at hO.2.1 w a2 g.2.1 r hr) rfl (Nat.le_of_ble_eq_true rfl) rfl dX2_readEntry_5 hP hS hl) rfl (fun v1 hv1 => ?_)
  refine y_istore_n (n := 9) (ls' := [(3, .int v1), (0, .ref (E.2.2.2.2.1 + o)), (1, .ref (E.2.2.2.2.1 + o1)), (2, .int a2)]) C dX2_readEntry_8 (by decide) rfl rfl ?_
  refine y_aload_n (n := 10) C dX2_readEntry_9 2 rfl rfl ?_
  refine y_iload_n (n := 11) C dX2_readEntry_10 3 rfl rfl ?_
  refine y_iload_n (n := 12) C dX2_readEntry_11 0 rfl rfl ?_
  refine y_cp (n := 15) C (fun r hr H locs la hP hS hl => y_runVN (ci := 1) (st := []) C ky_X1_documentAt wd_404 ⟨Nat.le_of_ble_eq_true rfl, Nat.le_of_ble_eq_true rfl⟩ hO1.1 rfl (mX1_documentAt hO1 w a2 v1 g.2.1 r hr) rfl (Nat.le_of_ble_eq_true rfl) rfl dX2_readEntry_12 hP hS hl) rfl (fun v2 hv2 => ?_)
  refine y_istore (n := 17) (ls' := [(4, .int v2), (3, .int v1), (0, .ref (E.2.2.2.2.1 + o)), (1, .ref (E.2.2.2.2.1 + o1)), (2, .int a2)]) C dX2_readEntry_15 (by decide) rfl rfl ?_
  refine y_aload_n (n := 18) C dX2_readEntry_17 3 rfl rfl ?_
  refine y_iload_n (n := 19) C dX2_readEntry_18 4 rfl rfl ?_
  refine y_iload (n := 21) C dX2_readEntry_19 0 rfl rfl ?_
  refine y_cp (n := 24) C (fun r hr H locs la hP hS hl => y_runVN (ci := 1) (st := []) C ky_X1_scoreOf wd_405 ⟨Nat.le_of_ble_eq_true rfl, Nat.le_of_ble_eq_true rfl⟩ hO1.1 rfl (mX1_scoreOf hO1 w a2 v2 g.2.1 r hr) rfl (Nat.le_of_ble_eq_true rfl) rfl dX2_readEntry_21 hP hS hl) rfl (fun v3 hv3 => ?_)
  refine y_aload_n (n := 25) C dX2_readEntry_24 2 rfl rfl ?_
  refine y_get (ci := 2) (f := 10) (n := 28) C in_X2 hO.1 rfl (by decide) wd_80 rfl rfl dX2_readEntry_25 rfl ?_
  refine y_iload_n (n := 29) C dX2_readEntry_28 4 rfl rfl ?_
  refine y_cp (n := 32) C (fun r hr H locs la hP hS hl => y_runSN (st := [.int v3]) C ky_X5_at wd_314 ⟨Nat.le_of_ble_eq_true rfl, Nat.le_of_ble_eq_true rfl⟩ (mX5_at hO.2.2.2.2.1 w a2 g.2.1 r hr) rfl (Nat.le_of_ble_eq_true rfl) rfl dX2_readEntry_29 hP hS hl) rfl (fun v4 hv4 => ?_)
  refine y_icmp_le (tgt := 47) (n := 35) C dX2_readEntry_32 (by decide) rfl (fun h5 => ?_) (fun h5 => ?_)
  · refine y_ls [2, 3, 4, 1, 0] rfl ?_
    exact cbX2_readEntry_47 C hR hO hO1 w a2 v1 v2
  · refine y_aload_n (n := 36) C dX2_readEntry_35 2 rfl rfl ?_
    refine y_dup (n := 37) C dX2_readEntry_36 rfl rfl ?_
    refine y_get (ci := 2) (f := 6) (n := 40) C in_X2 hO.1 rfl (by decide) wd_76 rfl rfl dX2_readEntry_37 rfl ?_
    refine y_iconst (n := 41) C (1 : Int32) dX2_readEntry_40 (by decide) rfl ?_
    refine y_iload_n (n := 42) C dX2_readEntry_41 4 rfl rfl ?_
    refine y_ishl (n := 43) C dX2_readEntry_42 rfl ?_
    refine y_ior (n := 44) C dX2_readEntry_43 rfl ?_
    refine y_putI (ci := 2) (f := 6) (n := 47) C in_X2 tyX2 tyX2_ok nmX2 hO.1 rfl (by decide) wd_76 rfl rfl (by decide +kernel) (Nat.le_of_ble_eq_true rfl) st_X2_6 dX2_readEntry_44 rfl (fun w16 hw16 => ?_)
    refine y_ls [2, 3, 4, 1, 0] rfl ?_
    exact cbX2_readEntry_47 C hR hO hO1 w16 a2 v1 v2
theorem mX2_readEntry {E : Ex} {o o1 : Nat} (hO : shR E.2.2.2.2.2.1 o) (hO1 : shO E.2.2.2.2.2.1 o1) (w : Wd) (a2 : Int32) (l : Launch) : MV l yX2_readEntry cX2_readEntry 5 none { frames := 4, cells := 0, slots := 0, locals := 93 } E [.ref (E.2.2.2.2.1 + o), .ref (E.2.2.2.2.1 + o1), .int a2] w (fX2_readEntry w o o1 a2) :=
  y_met (Qc := yQv E) (by decide +kernel) (Nat.le_of_ble_eq_true rfl) (fun g C hR => eX2_readEntry C hR hO hO1 w a2) l
def lX2_goOn_2 (o o1 : Nat) : Nat → Wd → Int32 → Int32 → Option (Int32 × Wd)
  | 0, _, _, _ => none
  | n + 1, w, x2, x3 =>
    if x2 ≤ x3 then
      some (x3, w)
    else
      (fX2_isOver w o o1).bind fun v2 =>
      if v2 = 0 then
        (fX2_nextList w o o1).bind fun v4 =>
        (fX2_readEntry w o o1 v4).bind fun w5 =>
        lX2_goOn_2 o o1 n w5 x2 (x3 + 1)
      else
        some (x3, w)
set_option maxRecDepth 4000 in
theorem clX2_goOn_2 {g : Gx} {E : Ex} (C : CC g E cX2_goOn 4 RX2 5 117) (hR : RT g (some .int)) {o o1 : Nat} (hO : shR E.2.2.2.2.2.1 o) (hO1 : shO E.2.2.2.2.2.1 o1)  : ∀ (n : Nat) (w : Wd) (x2 : Int32) (x3 : Int32), YO g E 4 (QI g E) (lX2_goOn_2 o o1 n w x2 x3) w 2 [(0, .ref (E.2.2.2.2.1 + o)), (1, .ref (E.2.2.2.2.1 + o1)), (2, .int x2), (3, .int x3)] [] := by
  intro n
  induction n with
  | zero => intro w x2 x3; exact y_no
  | succ n ih =>
    intro w x2 x3
    rw [lX2_goOn_2]
    refine y_iload_n (n := 3) C dX2_goOn_2 3 rfl rfl ?_
    refine y_iload_n (n := 4) C dX2_goOn_3 2 rfl rfl ?_
    refine y_icmp_ge (tgt := 31) (n := 7) C dX2_goOn_4 (by decide) rfl (fun h1 => ?_) (fun h1 => ?_)
    · refine y_iload_n (n := 32) C dX2_goOn_31 3 rfl rfl ?_
      exact y_ri C hR dX2_goOn_32
    · refine y_aload_n (n := 8) C dX2_goOn_7 0 rfl rfl ?_
      refine y_aload_n (n := 9) C dX2_goOn_8 1 rfl rfl ?_
      refine y_cp (n := 12) C (fun r hr H locs la hP hS hl => y_runV (ci := 2) (st := []) C ky_X2_isOver wd_387 ⟨Nat.le_of_ble_eq_true rfl, Nat.le_of_ble_eq_true rfl⟩ hO.1 rfl (mX2_isOver hO hO1 w g.2.1 r hr) rfl (Nat.le_of_ble_eq_true rfl) rfl dX2_goOn_9 hP hS hl) rfl (fun v2 hv2 => ?_)
      refine y_if_ne (tgt := 31) (n := 15) C dX2_goOn_12 (by decide) rfl (fun h3 => ?_) (fun h3 => ?_)
      · refine y_iload_n (n := 32) C dX2_goOn_31 3 rfl rfl ?_
        exact y_ri C hR dX2_goOn_32
      · refine y_aload_n (n := 16) C dX2_goOn_15 0 rfl rfl ?_
        refine y_aload_n (n := 17) C dX2_goOn_16 1 rfl rfl ?_
        refine y_aload_n (n := 18) C dX2_goOn_17 0 rfl rfl ?_
        refine y_aload_n (n := 19) C dX2_goOn_18 1 rfl rfl ?_
        refine y_cp (n := 22) C (fun r hr H locs la hP hS hl => y_runV (ci := 2) (st := [.ref (E.2.2.2.2.1 + o1), .ref (E.2.2.2.2.1 + o)]) C ky_X2_nextList wd_388 ⟨Nat.le_of_ble_eq_true rfl, Nat.le_of_ble_eq_true rfl⟩ hO.1 rfl (mX2_nextList hO hO1 w g.2.1 r hr) rfl (Nat.le_of_ble_eq_true rfl) rfl dX2_goOn_19 hP hS hl) rfl (fun v4 hv4 => ?_)
        refine y_cv (n := 25) C (fun r hr H locs la hP hS hl => y_runV (ci := 2) (st := []) C ky_X2_readEntry wd_400 ⟨Nat.le_of_ble_eq_true rfl, Nat.le_of_ble_eq_true rfl⟩ hO.1 rfl (mX2_readEntry hO hO1 w v4 g.2.1 r hr) rfl (Nat.le_of_ble_eq_true rfl) rfl dX2_goOn_22 hP hS hl) rfl (fun w5 hw5 => ?_)
        refine y_iinc (n := 28) (v := x3 + 1) (ls' := [(3, .int (x3 + 1)), (0, .ref (E.2.2.2.2.1 + o)), (1, .ref (E.2.2.2.2.1 + o1)), (2, .int x2)]) C dX2_goOn_25 3 rfl rfl (by decide) rfl rfl ?_
        refine y_goto (tgt := 2) C dX2_goOn_28 (by decide) ?_
        refine y_ls [1, 2, 3, 0] rfl ?_
        exact ih w5 x2 (x3 + 1)
def fX2_goOn (w : Wd) (o o1 : Nat) (a2 : Int32) : Option (Int32 × Wd) :=
  lX2_goOn_2 o o1 4096 w a2 0
set_option maxRecDepth 4000 in
theorem eX2_goOn {g : Gx} {E : Ex} (C : CC g E cX2_goOn 4 RX2 5 117) (hR : RT g (some .int)) {o o1 : Nat} (hO : shR E.2.2.2.2.2.1 o) (hO1 : shO E.2.2.2.2.2.1 o1) (w : Wd) (a2 : Int32) : YO g E 4 (QI g E) (fX2_goOn w o o1 a2) w 0 [(0, .ref (E.2.2.2.2.1 + o)), (1, .ref (E.2.2.2.2.1 + o1)), (2, .int a2)] [] := by
  unfold fX2_goOn
  refine y_iconst (n := 1) C (0 : Int32) dX2_goOn_0 (by decide) rfl ?_
  refine y_istore_n (n := 2) (ls' := [(3, .int 0), (0, .ref (E.2.2.2.2.1 + o)), (1, .ref (E.2.2.2.2.1 + o1)), (2, .int a2)]) C dX2_goOn_1 (by decide) rfl rfl ?_
  refine y_ls [1, 2, 3, 0] rfl ?_
  exact clX2_goOn_2 C hR hO hO1 4096 w a2 0
theorem mX2_goOn {E : Ex} {o o1 : Nat} (hO : shR E.2.2.2.2.2.1 o) (hO1 : shO E.2.2.2.2.2.1 o1) (w : Wd) (a2 : Int32) (l : Launch) : MI l yX2_goOn cX2_goOn 4 (some .int) { frames := 5, cells := 0, slots := 0, locals := 117 } E [.ref (E.2.2.2.2.1 + o), .ref (E.2.2.2.2.1 + o1), .int a2] w (fX2_goOn w o o1 a2) :=
  y_met (Qc := yQi E) (by decide +kernel) (Nat.le_of_ble_eq_true rfl) (fun g C hR => eX2_goOn C hR hO hO1 w a2) l
def lX2_knownListsOf_12 (o o1 : Nat) : Nat → Wd → Int32 → Int32 → Option (Int32)
  | 0, _, _, _ => none
  | n + 1, w, x3, x4 =>
    if 6 ≤ x4 then
      some x3
    else
      (fX1_isAsked w o1 x4).bind fun v3 =>
      if v3 = 0 then
        (fX5_oneIf w 0).bind fun v5 =>
        lX2_knownListsOf_12 o o1 n w (x3 ||| (v5 <<< (x4 &&& 31))) (x4 + 1)
      else
        (fX2_hasRest w o o1 x4).bind fun v6 =>
        if v6 = 0 then
          (fX5_oneIf w 1).bind fun v9 =>
          lX2_knownListsOf_12 o o1 n w (x3 ||| (v9 <<< (x4 &&& 31))) (x4 + 1)
        else
          (fX5_oneIf w 0).bind fun v8 =>
          lX2_knownListsOf_12 o o1 n w (x3 ||| (v8 <<< (x4 &&& 31))) (x4 + 1)
set_option maxRecDepth 4000 in
theorem clX2_knownListsOf_12 {g : Gx} {E : Ex} (C : CC g E cX2_knownListsOf 6 RX2 3 64) (hR : RT g (some .int)) {o o1 : Nat} (hO : shR E.2.2.2.2.2.1 o) (hO1 : shO E.2.2.2.2.2.1 o1) (w : Wd)  : ∀ (n : Nat) (x3 : Int32) (x4 : Int32), YO g E 6 (QP g E w) (lX2_knownListsOf_12 o o1 n w x3 x4) w 12 [(0, .ref (E.2.2.2.2.1 + o)), (1, .ref (E.2.2.2.2.1 + o1)), (3, .int x3), (4, .int x4)] [] := by
  intro n
  induction n with
  | zero => intro x3 x4; exact y_no
  | succ n ih =>
    intro x3 x4
    rw [lX2_knownListsOf_12]
    refine y_iload (n := 14) C dX2_knownListsOf_12 3 rfl rfl ?_
    refine y_bipush (n := 16) C (6 : Int32) dX2_knownListsOf_14 (by decide) rfl ?_
    refine y_icmp_ge (tgt := 62) (n := 19) C dX2_knownListsOf_16 (by decide) rfl (fun h2 => ?_) (fun h2 => ?_)
    · refine y_iload_n (n := 63) C dX2_knownListsOf_62 2 rfl rfl ?_
      exact y_rp C hR dX2_knownListsOf_63
    · refine y_aload_n (n := 20) C dX2_knownListsOf_19 1 rfl rfl ?_
      refine y_iload (n := 22) C dX2_knownListsOf_20 3 rfl rfl ?_
      refine y_cp (n := 25) C (fun r hr H locs la hP hS hl => y_runVN (ci := 1) (st := []) C ky_X1_isAsked wd_343 ⟨Nat.le_of_ble_eq_true rfl, Nat.le_of_ble_eq_true rfl⟩ hO1.1 rfl (mX1_isAsked hO1 w x4 g.2.1 r hr) rfl (Nat.le_of_ble_eq_true rfl) rfl dX2_knownListsOf_22 hP hS hl) rfl (fun v3 hv3 => ?_)
      refine y_if_eq (tgt := 42) (n := 28) C dX2_knownListsOf_25 (by decide) rfl (fun h4 => ?_) (fun h4 => ?_)
      · refine y_iconst (n := 43) C (0 : Int32) dX2_knownListsOf_42 (by decide) rfl ?_
        refine y_istore (n := 45) (ls' := [(5, .int 0), (0, .ref (E.2.2.2.2.1 + o)), (1, .ref (E.2.2.2.2.1 + o1)), (3, .int x3), (4, .int x4)]) C dX2_knownListsOf_43 (by decide) rfl rfl ?_
        refine y_iload_n (n := 46) C dX2_knownListsOf_45 3 rfl rfl ?_
        refine y_iload (n := 48) C dX2_knownListsOf_46 0 rfl rfl ?_
        refine y_cp (n := 51) C (fun r hr H locs la hP hS hl => y_runSN (st := [.int x3]) C ky_X5_oneIf wd_568 ⟨Nat.le_of_ble_eq_true rfl, Nat.le_of_ble_eq_true rfl⟩ (mX5_oneIf w 0 g.2.1 r hr) rfl (Nat.le_of_ble_eq_true rfl) rfl dX2_knownListsOf_48 hP hS hl) rfl (fun v5 hv5 => ?_)
        refine y_iload (n := 53) C dX2_knownListsOf_51 4 rfl rfl ?_
        refine y_ishl (n := 54) C dX2_knownListsOf_53 rfl ?_
        refine y_ior (n := 55) C dX2_knownListsOf_54 rfl ?_
        refine y_istore_n (n := 56) (ls' := [(3, .int (x3 ||| (v5 <<< (x4 &&& 31)))), (5, .int 0), (0, .ref (E.2.2.2.2.1 + o)), (1, .ref (E.2.2.2.2.1 + o1)), (4, .int x4)]) C dX2_knownListsOf_55 (by decide) rfl rfl ?_
        refine y_iinc (n := 59) (v := x4 + 1) (ls' := [(4, .int (x4 + 1)), (3, .int (x3 ||| (v5 <<< (x4 &&& 31)))), (5, .int 0), (0, .ref (E.2.2.2.2.1 + o)), (1, .ref (E.2.2.2.2.1 + o1))]) C dX2_knownListsOf_56 4 rfl rfl (by decide) rfl rfl ?_
        refine y_goto (tgt := 12) C dX2_knownListsOf_59 (by decide) ?_
        refine y_ls [3, 4, 1, 0] rfl ?_
        exact ih (x3 ||| (v5 <<< (x4 &&& 31))) (x4 + 1)
      · refine y_aload_n (n := 29) C dX2_knownListsOf_28 0 rfl rfl ?_
        refine y_aload_n (n := 30) C dX2_knownListsOf_29 1 rfl rfl ?_
        refine y_iload (n := 32) C dX2_knownListsOf_30 3 rfl rfl ?_
        refine y_cp (n := 35) C (fun r hr H locs la hP hS hl => y_runV (ci := 2) (st := []) C ky_X2_hasRest wd_339 ⟨Nat.le_of_ble_eq_true rfl, Nat.le_of_ble_eq_true rfl⟩ hO.1 rfl (mX2_hasRest hO hO1 w x4 g.2.1 r hr) rfl (Nat.le_of_ble_eq_true rfl) rfl dX2_knownListsOf_32 hP hS hl) rfl (fun v6 hv6 => ?_)
        refine y_if_ne (tgt := 42) (n := 38) C dX2_knownListsOf_35 (by decide) rfl (fun h7 => ?_) (fun h7 => ?_)
        · refine y_iconst (n := 43) C (0 : Int32) dX2_knownListsOf_42 (by decide) rfl ?_
          refine y_istore (n := 45) (ls' := [(5, .int 0), (0, .ref (E.2.2.2.2.1 + o)), (1, .ref (E.2.2.2.2.1 + o1)), (3, .int x3), (4, .int x4)]) C dX2_knownListsOf_43 (by decide) rfl rfl ?_
          refine y_iload_n (n := 46) C dX2_knownListsOf_45 3 rfl rfl ?_
          refine y_iload (n := 48) C dX2_knownListsOf_46 0 rfl rfl ?_
          refine y_cp (n := 51) C (fun r hr H locs la hP hS hl => y_runSN (st := [.int x3]) C ky_X5_oneIf wd_568 ⟨Nat.le_of_ble_eq_true rfl, Nat.le_of_ble_eq_true rfl⟩ (mX5_oneIf w 0 g.2.1 r hr) rfl (Nat.le_of_ble_eq_true rfl) rfl dX2_knownListsOf_48 hP hS hl) rfl (fun v8 hv8 => ?_)
          refine y_iload (n := 53) C dX2_knownListsOf_51 4 rfl rfl ?_
          refine y_ishl (n := 54) C dX2_knownListsOf_53 rfl ?_
          refine y_ior (n := 55) C dX2_knownListsOf_54 rfl ?_
          refine y_istore_n (n := 56) (ls' := [(3, .int (x3 ||| (v8 <<< (x4 &&& 31)))), (5, .int 0), (0, .ref (E.2.2.2.2.1 + o)), (1, .ref (E.2.2.2.2.1 + o1)), (4, .int x4)]) C dX2_knownListsOf_55 (by decide) rfl rfl ?_
          refine y_iinc (n := 59) (v := x4 + 1) (ls' := [(4, .int (x4 + 1)), (3, .int (x3 ||| (v8 <<< (x4 &&& 31)))), (5, .int 0), (0, .ref (E.2.2.2.2.1 + o)), (1, .ref (E.2.2.2.2.1 + o1))]) C dX2_knownListsOf_56 4 rfl rfl (by decide) rfl rfl ?_
          refine y_goto (tgt := 12) C dX2_knownListsOf_59 (by decide) ?_
          refine y_ls [3, 4, 1, 0] rfl ?_
          exact ih (x3 ||| (v8 <<< (x4 &&& 31))) (x4 + 1)
        · refine y_iconst (n := 39) C (1 : Int32) dX2_knownListsOf_38 (by decide) rfl ?_
          refine y_goto (tgt := 43) C dX2_knownListsOf_39 (by decide) ?_
          refine y_istore (n := 45) (ls' := [(5, .int 1), (0, .ref (E.2.2.2.2.1 + o)), (1, .ref (E.2.2.2.2.1 + o1)), (3, .int x3), (4, .int x4)]) C dX2_knownListsOf_43 (by decide) rfl rfl ?_
          refine y_iload_n (n := 46) C dX2_knownListsOf_45 3 rfl rfl ?_
          refine y_iload (n := 48) C dX2_knownListsOf_46 0 rfl rfl ?_
          refine y_cp (n := 51) C (fun r hr H locs la hP hS hl => y_runSN (st := [.int x3]) C ky_X5_oneIf wd_568 ⟨Nat.le_of_ble_eq_true rfl, Nat.le_of_ble_eq_true rfl⟩ (mX5_oneIf w 1 g.2.1 r hr) rfl (Nat.le_of_ble_eq_true rfl) rfl dX2_knownListsOf_48 hP hS hl) rfl (fun v9 hv9 => ?_)
          refine y_iload (n := 53) C dX2_knownListsOf_51 4 rfl rfl ?_
          refine y_ishl (n := 54) C dX2_knownListsOf_53 rfl ?_
          refine y_ior (n := 55) C dX2_knownListsOf_54 rfl ?_
          refine y_istore_n (n := 56) (ls' := [(3, .int (x3 ||| (v9 <<< (x4 &&& 31)))), (5, .int 1), (0, .ref (E.2.2.2.2.1 + o)), (1, .ref (E.2.2.2.2.1 + o1)), (4, .int x4)]) C dX2_knownListsOf_55 (by decide) rfl rfl ?_
          refine y_iinc (n := 59) (v := x4 + 1) (ls' := [(4, .int (x4 + 1)), (3, .int (x3 ||| (v9 <<< (x4 &&& 31)))), (5, .int 1), (0, .ref (E.2.2.2.2.1 + o)), (1, .ref (E.2.2.2.2.1 + o1))]) C dX2_knownListsOf_56 4 rfl rfl (by decide) rfl rfl ?_
          refine y_goto (tgt := 12) C dX2_knownListsOf_59 (by decide) ?_
          refine y_ls [3, 4, 1, 0] rfl ?_
          exact ih (x3 ||| (v9 <<< (x4 &&& 31))) (x4 + 1)
def fX2_knownListsOf (w : Wd) (o o1 : Nat) (a2 : Int32) : Option (Int32) :=
  (fX5_at w (o + 5) 60 a2).bind fun v1 =>
  lX2_knownListsOf_12 o o1 4096 w v1 0
set_option maxRecDepth 4000 in
theorem eX2_knownListsOf {g : Gx} {E : Ex} (C : CC g E cX2_knownListsOf 6 RX2 3 64) (hR : RT g (some .int)) {o o1 : Nat} (hO : shR E.2.2.2.2.2.1 o) (hO1 : shO E.2.2.2.2.2.1 o1) (w : Wd) (a2 : Int32) : YO g E 6 (QP g E w) (fX2_knownListsOf w o o1 a2) w 0 [(0, .ref (E.2.2.2.2.1 + o)), (1, .ref (E.2.2.2.2.1 + o1)), (2, .int a2)] [] := by
  unfold fX2_knownListsOf
  refine y_aload_n (n := 1) C dX2_knownListsOf_0 0 rfl rfl ?_
  refine y_get (ci := 2) (f := 11) (n := 4) C in_X2 hO.1 rfl (by decide) wd_81 rfl rfl dX2_knownListsOf_1 rfl ?_
  refine y_iload_n (n := 5) C dX2_knownListsOf_4 2 rfl rfl ?_
  refine y_cp (n := 8) C (fun r hr H locs la hP hS hl => y_runSN (st := []) C ky_X5_at wd_314 ⟨Nat.le_of_ble_eq_true rfl, Nat.le_of_ble_eq_true rfl⟩ (mX5_at hO.2.2.2.2.2.1 w a2 g.2.1 r hr) rfl (Nat.le_of_ble_eq_true rfl) rfl dX2_knownListsOf_5 hP hS hl) rfl (fun v1 hv1 => ?_)
  refine y_istore_n (n := 9) (ls' := [(3, .int v1), (0, .ref (E.2.2.2.2.1 + o)), (1, .ref (E.2.2.2.2.1 + o1)), (2, .int a2)]) C dX2_knownListsOf_8 (by decide) rfl rfl ?_
  refine y_iconst (n := 10) C (0 : Int32) dX2_knownListsOf_9 (by decide) rfl ?_
  refine y_istore (n := 12) (ls' := [(4, .int 0), (3, .int v1), (0, .ref (E.2.2.2.2.1 + o)), (1, .ref (E.2.2.2.2.1 + o1)), (2, .int a2)]) C dX2_knownListsOf_10 (by decide) rfl rfl ?_
  refine y_ls [2, 3, 1, 0] rfl ?_
  exact clX2_knownListsOf_12 C hR hO hO1 w 4096 v1 0
theorem mX2_knownListsOf {E : Ex} {o o1 : Nat} (hO : shR E.2.2.2.2.2.1 o) (hO1 : shO E.2.2.2.2.2.1 o1) (w : Wd) (a2 : Int32) (l : Launch) : MP l yX2_knownListsOf cX2_knownListsOf 6 (some .int) { frames := 3, cells := 0, slots := 0, locals := 64 } E [.ref (E.2.2.2.2.1 + o), .ref (E.2.2.2.2.1 + o1), .int a2] w (fX2_knownListsOf w o o1 a2) :=
  y_met (Qc := fun r => yQi E (r, w)) (by decide +kernel) (Nat.le_of_ble_eq_true rfl) (fun g C hR => eX2_knownListsOf C hR hO hO1 w a2) l
def fX2_toldSize (w : Wd) (o o1 : Nat)  : Option (Int32) :=
  some (imin (w.1 o 15) (w.1 o1 6))
set_option maxRecDepth 4000 in
theorem eX2_toldSize {g : Gx} {E : Ex} (C : CC g E cX2_toldSize 2 RX2 1 21) (hR : RT g (some .int)) {o o1 : Nat} (hO : shR E.2.2.2.2.2.1 o) (hO1 : shO E.2.2.2.2.2.1 o1) (w : Wd)  : YO g E 2 (QP g E w) (fX2_toldSize w o o1) w 0 [(0, .ref (E.2.2.2.2.1 + o)), (1, .ref (E.2.2.2.2.1 + o1))] [] := by
  unfold fX2_toldSize
  refine y_aload_n (n := 1) C dX2_toldSize_0 0 rfl rfl ?_
  refine y_get (ci := 2) (f := 15) (n := 4) C in_X2 hO.1 rfl (by decide) wd_88 rfl rfl dX2_toldSize_1 rfl ?_
  refine y_aload_n (n := 5) C dX2_toldSize_4 1 rfl rfl ?_
  refine y_getN (ci := 1) (f := 6) (n := 8) C in_X1 hO1.1 rfl (by decide) wd_44 rfl rfl dX2_toldSize_5 rfl ?_
  refine y_mmin (n := 11) C wd_555 wd_238 wd_7 wd_239 (by decide) (Nat.le_of_ble_eq_true rfl) dX2_toldSize_8 rfl ?_
  exact y_rp C hR dX2_toldSize_11
theorem mX2_toldSize {E : Ex} {o o1 : Nat} (hO : shR E.2.2.2.2.2.1 o) (hO1 : shO E.2.2.2.2.2.1 o1) (w : Wd)  (l : Launch) : MP l yX2_toldSize cX2_toldSize 2 (some .int) { frames := 1, cells := 0, slots := 0, locals := 21 } E [.ref (E.2.2.2.2.1 + o), .ref (E.2.2.2.2.1 + o1)] w (fX2_toldSize w o o1) :=
  y_met (Qc := fun r => yQi E (r, w)) (by decide +kernel) (Nat.le_of_ble_eq_true rfl) (fun g C hR => eX2_toldSize C hR hO hO1 w ) l
def fX2_lowOfLastTold (w : Wd) (o o1 : Nat)  : Option (Int32) :=
  (fX2_toldSize w o o1).bind fun v1 =>
  if v1 = 0 then
    some 0
  else
    (fX5_at w (o + 8) 60 (v1 - 1)).bind fun v3 =>
    (fX5_at w (o + 6) 60 v3).bind fun v4 =>
    some v4
set_option maxRecDepth 4000 in
theorem eX2_lowOfLastTold {g : Gx} {E : Ex} (C : CC g E cX2_lowOfLastTold 3 RX2 2 42) (hR : RT g (some .int)) {o o1 : Nat} (hO : shR E.2.2.2.2.2.1 o) (hO1 : shO E.2.2.2.2.2.1 o1) (w : Wd)  : YO g E 3 (QP g E w) (fX2_lowOfLastTold w o o1) w 0 [(0, .ref (E.2.2.2.2.1 + o)), (1, .ref (E.2.2.2.2.1 + o1))] [] := by
  unfold fX2_lowOfLastTold
  refine y_aload_n (n := 1) C dX2_lowOfLastTold_0 0 rfl rfl ?_
  refine y_aload_n (n := 2) C dX2_lowOfLastTold_1 1 rfl rfl ?_
  refine y_cp (n := 5) C (fun r hr H locs la hP hS hl => y_runV (ci := 2) (st := []) C ky_X2_toldSize wd_562 ⟨Nat.le_of_ble_eq_true rfl, Nat.le_of_ble_eq_true rfl⟩ hO.1 rfl (mX2_toldSize hO hO1 w g.2.1 r hr) rfl (Nat.le_of_ble_eq_true rfl) rfl dX2_lowOfLastTold_2 hP hS hl) rfl (fun v1 hv1 => ?_)
  refine y_istore_n (n := 6) (ls' := [(2, .int v1), (0, .ref (E.2.2.2.2.1 + o)), (1, .ref (E.2.2.2.2.1 + o1))]) C dX2_lowOfLastTold_5 (by decide) rfl rfl ?_
  refine y_iload_n (n := 7) C dX2_lowOfLastTold_6 0 rfl rfl ?_
  refine y_if_ne (tgt := 14) (n := 10) C dX2_lowOfLastTold_7 (by decide) rfl (fun h2 => ?_) (fun h2 => ?_)
  · refine y_aload_n (n := 15) C dX2_lowOfLastTold_14 1 rfl rfl ?_
    refine y_get (ci := 2) (f := 12) (n := 18) C in_X2 hO.1 rfl (by decide) wd_82 rfl rfl dX2_lowOfLastTold_15 rfl ?_
    refine y_aload_n (n := 19) C dX2_lowOfLastTold_18 1 rfl rfl ?_
    refine y_get (ci := 2) (f := 14) (n := 22) C in_X2 hO.1 rfl (by decide) wd_86 rfl rfl dX2_lowOfLastTold_19 rfl ?_
    refine y_iload_n (n := 23) C dX2_lowOfLastTold_22 0 rfl rfl ?_
    refine y_iconst (n := 24) C (1 : Int32) dX2_lowOfLastTold_23 (by decide) rfl ?_
    refine y_isub (n := 25) C dX2_lowOfLastTold_24 rfl ?_
    refine y_cp (n := 28) C (fun r hr H locs la hP hS hl => y_runSN (st := [.ref (E.2.2.2.2.1 + (o + 6))]) C ky_X5_at wd_314 ⟨Nat.le_of_ble_eq_true rfl, Nat.le_of_ble_eq_true rfl⟩ (mX5_at hO.2.2.2.2.2.2.2.2 w (v1 - 1) g.2.1 r hr) rfl (Nat.le_of_ble_eq_true rfl) rfl dX2_lowOfLastTold_25 hP hS hl) rfl (fun v3 hv3 => ?_)
    refine y_cp (n := 31) C (fun r hr H locs la hP hS hl => y_runSN (st := []) C ky_X5_at wd_314 ⟨Nat.le_of_ble_eq_true rfl, Nat.le_of_ble_eq_true rfl⟩ (mX5_at hO.2.2.2.2.2.2.1 w v3 g.2.1 r hr) rfl (Nat.le_of_ble_eq_true rfl) rfl dX2_lowOfLastTold_28 hP hS hl) rfl (fun v4 hv4 => ?_)
    exact y_rp C hR dX2_lowOfLastTold_31
  · refine y_iconst (n := 11) C (0 : Int32) dX2_lowOfLastTold_10 (by decide) rfl ?_
    refine y_goto (tgt := 31) C dX2_lowOfLastTold_11 (by decide) ?_
    exact y_rp C hR dX2_lowOfLastTold_31
theorem mX2_lowOfLastTold {E : Ex} {o o1 : Nat} (hO : shR E.2.2.2.2.2.1 o) (hO1 : shO E.2.2.2.2.2.1 o1) (w : Wd)  (l : Launch) : MP l yX2_lowOfLastTold cX2_lowOfLastTold 3 (some .int) { frames := 2, cells := 0, slots := 0, locals := 42 } E [.ref (E.2.2.2.2.1 + o), .ref (E.2.2.2.2.1 + o1)] w (fX2_lowOfLastTold w o o1) :=
  y_met (Qc := fun r => yQi E (r, w)) (by decide +kernel) (Nat.le_of_ble_eq_true rfl) (fun g C hR => eX2_lowOfLastTold C hR hO hO1 w ) l
def lX2_start_75 (o o1 : Nat) : Nat → Wd → Int32 → Option (Wd)
  | 0, _, _ => none
  | n + 1, w, x4 =>
    if 6 ≤ x4 then
      some w
    else
      (fX2_findBounds w o o1 x4).bind fun w14 =>
      lX2_start_75 o o1 n w14 (x4 + 1)
set_option maxRecDepth 4000 in
theorem clX2_start_75 {g : Gx} {E : Ex} (C : CC g E cX2_start 5 RX2 4 89) (hR : RT g none) {o o1 : Nat} (hO : shR E.2.2.2.2.2.1 o) (hO1 : shO E.2.2.2.2.2.1 o1)  : ∀ (n : Nat) (w : Wd) (x4 : Int32), YO g E 5 (QV g E) (lX2_start_75 o o1 n w x4) w 75 [(0, .ref (E.2.2.2.2.1 + o)), (1, .ref (E.2.2.2.2.1 + o1)), (4, .int x4)] [] := by
  intro n
  induction n with
  | zero => intro w x4; exact y_no
  | succ n ih =>
    intro w x4
    rw [lX2_start_75]
    refine y_iload (n := 77) C dX2_start_75 2 rfl rfl ?_
    refine y_bipush (n := 79) C (6 : Int32) dX2_start_77 (by decide) rfl ?_
    refine y_icmp_ge (tgt := 95) (n := 82) C dX2_start_79 (by decide) rfl (fun h13 => ?_) (fun h13 => ?_)
    · exact y_rv C hR dX2_start_95
    · refine y_aload_n (n := 83) C dX2_start_82 0 rfl rfl ?_
      refine y_aload_n (n := 84) C dX2_start_83 1 rfl rfl ?_
      refine y_iload (n := 86) C dX2_start_84 2 rfl rfl ?_
      refine y_cv (n := 89) C (fun r hr H locs la hP hS hl => y_runV (ci := 2) (st := []) C ky_X2_findBounds wd_310 ⟨Nat.le_of_ble_eq_true rfl, Nat.le_of_ble_eq_true rfl⟩ hO.1 rfl (mX2_findBounds hO hO1 w x4 g.2.1 r hr) rfl (Nat.le_of_ble_eq_true rfl) rfl dX2_start_86 hP hS hl) rfl (fun w14 hw14 => ?_)
      refine y_iinc (n := 92) (v := x4 + 1) (ls' := [(4, .int (x4 + 1)), (0, .ref (E.2.2.2.2.1 + o)), (1, .ref (E.2.2.2.2.1 + o1))]) C dX2_start_89 2 rfl rfl (by decide) rfl rfl ?_
      refine y_goto (tgt := 75) C dX2_start_92 (by decide) ?_
      refine y_ls [1, 2, 0] rfl ?_
      exact ih w14 (x4 + 1)
def fX2_start (w : Wd) (o o1 : Nat) (a2 : Int32) (a3 : Int32) : Option (Wd) :=
  (stZ w o 0 1).bind fun w1 =>
  (pI w1 o 1 a2).bind fun w2 =>
  (stZ w2 o 2 a3).bind fun w3 =>
  (pI w3 o 3 5).bind fun w4 =>
  (pI w4 o 4 0).bind fun w5 =>
  (pI w5 o 5 0).bind fun w6 =>
  (pI w6 o 6 0).bind fun w7 =>
  (pI w7 o 15 0).bind fun w8 =>
  (fJ7_fill_53178 w8 (o + 1) 6 0).bind fun w9 =>
  (fJ7_fill_53178 w9 (o + 2) 6 0).bind fun w10 =>
  (fJ7_fill_53178 w10 (o + 5) 60 0).bind fun w11 =>
  (fJ7_fill_53178 w11 (o + 6) 60 0).bind fun w12 =>
  lX2_start_75 o o1 4096 w12 0
set_option maxRecDepth 4000 in
theorem eX2_start {g : Gx} {E : Ex} (C : CC g E cX2_start 5 RX2 4 89) (hR : RT g none) {o o1 : Nat} (hO : shR E.2.2.2.2.2.1 o) (hO1 : shO E.2.2.2.2.2.1 o1) (w : Wd) (a2 : Int32) (a3 : Int32) : YO g E 5 (QV g E) (fX2_start w o o1 a2 a3) w 0 [(0, .ref (E.2.2.2.2.1 + o)), (1, .ref (E.2.2.2.2.1 + o1)), (2, .int a2), (3, .int a3)] [] := by
  unfold fX2_start
  refine y_aload_n (n := 1) C dX2_start_0 0 rfl rfl ?_
  refine y_iconst (n := 2) C (1 : Int32) dX2_start_1 (by decide) rfl ?_
  refine y_putZ (ci := 2) (f := 0) (n := 5) C in_X2 tyX2 tyX2_ok nmX2 hO.1 rfl (by decide) wd_67 rfl rfl (by decide +kernel) (Nat.le_of_ble_eq_true rfl) st_X2_0 dX2_start_2 rfl (fun w1 hw1 => ?_)
  refine y_aload_n (n := 6) C dX2_start_5 0 rfl rfl ?_
  refine y_iload_n (n := 7) C dX2_start_6 2 rfl rfl ?_
  refine y_putI (ci := 2) (f := 1) (n := 10) C in_X2 tyX2 tyX2_ok nmX2 hO.1 rfl (by decide) wd_69 rfl rfl (by decide +kernel) (Nat.le_of_ble_eq_true rfl) st_X2_1 dX2_start_7 rfl (fun w2 hw2 => ?_)
  refine y_aload_n (n := 11) C dX2_start_10 0 rfl rfl ?_
  refine y_iload_n (n := 12) C dX2_start_11 3 rfl rfl ?_
  refine y_putZ (ci := 2) (f := 2) (n := 15) C in_X2 tyX2 tyX2_ok nmX2 hO.1 rfl (by decide) wd_70 rfl rfl (by decide +kernel) (Nat.le_of_ble_eq_true rfl) st_X2_2 dX2_start_12 rfl (fun w3 hw3 => ?_)
  refine y_aload_n (n := 16) C dX2_start_15 0 rfl rfl ?_
  refine y_iconst (n := 17) C (5 : Int32) dX2_start_16 (by decide) rfl ?_
  refine y_putI (ci := 2) (f := 3) (n := 20) C in_X2 tyX2 tyX2_ok nmX2 hO.1 rfl (by decide) wd_71 rfl rfl (by decide +kernel) (Nat.le_of_ble_eq_true rfl) st_X2_3 dX2_start_17 rfl (fun w4 hw4 => ?_)
  refine y_aload_n (n := 21) C dX2_start_20 0 rfl rfl ?_
  refine y_iconst (n := 22) C (0 : Int32) dX2_start_21 (by decide) rfl ?_
  refine y_putI (ci := 2) (f := 4) (n := 25) C in_X2 tyX2 tyX2_ok nmX2 hO.1 rfl (by decide) wd_72 rfl rfl (by decide +kernel) (Nat.le_of_ble_eq_true rfl) st_X2_4 dX2_start_22 rfl (fun w5 hw5 => ?_)
  refine y_aload_n (n := 26) C dX2_start_25 0 rfl rfl ?_
  refine y_iconst (n := 27) C (0 : Int32) dX2_start_26 (by decide) rfl ?_
  refine y_putI (ci := 2) (f := 5) (n := 30) C in_X2 tyX2 tyX2_ok nmX2 hO.1 rfl (by decide) wd_74 rfl rfl (by decide +kernel) (Nat.le_of_ble_eq_true rfl) st_X2_5 dX2_start_27 rfl (fun w6 hw6 => ?_)
  refine y_aload_n (n := 31) C dX2_start_30 0 rfl rfl ?_
  refine y_iconst (n := 32) C (0 : Int32) dX2_start_31 (by decide) rfl ?_
  refine y_putI (ci := 2) (f := 6) (n := 35) C in_X2 tyX2 tyX2_ok nmX2 hO.1 rfl (by decide) wd_76 rfl rfl (by decide +kernel) (Nat.le_of_ble_eq_true rfl) st_X2_6 dX2_start_32 rfl (fun w7 hw7 => ?_)
  refine y_aload_n (n := 36) C dX2_start_35 0 rfl rfl ?_
  refine y_iconst (n := 37) C (0 : Int32) dX2_start_36 (by decide) rfl ?_
  refine y_putI (ci := 2) (f := 15) (n := 40) C in_X2 tyX2 tyX2_ok nmX2 hO.1 rfl (by decide) wd_88 rfl rfl (by decide +kernel) (Nat.le_of_ble_eq_true rfl) st_X2_15 dX2_start_37 rfl (fun w8 hw8 => ?_)
  refine y_aload_n (n := 41) C dX2_start_40 0 rfl rfl ?_
  refine y_get (ci := 2) (f := 7) (n := 44) C in_X2 hO.1 rfl (by decide) wd_77 rfl rfl dX2_start_41 rfl ?_
  refine y_iconst (n := 45) C (0 : Int32) dX2_start_44 (by decide) rfl ?_
  refine y_cv (n := 48) C (fun r hr H locs la hP hS hl => y_runS (st := []) C ky_J7_fill_53178 wd_307 ⟨Nat.le_of_ble_eq_true rfl, Nat.le_of_ble_eq_true rfl⟩ (mJ7_fill_53178 hO.2.1 w8 0 g.2.1 r hr) rfl (Nat.le_of_ble_eq_true rfl) rfl dX2_start_45 hP hS hl) rfl (fun w9 hw9 => ?_)
  refine y_aload_n (n := 49) C dX2_start_48 0 rfl rfl ?_
  refine y_get (ci := 2) (f := 8) (n := 52) C in_X2 hO.1 rfl (by decide) wd_78 rfl rfl dX2_start_49 rfl ?_
  refine y_iconst (n := 53) C (0 : Int32) dX2_start_52 (by decide) rfl ?_
  refine y_cv (n := 56) C (fun r hr H locs la hP hS hl => y_runS (st := []) C ky_J7_fill_53178 wd_307 ⟨Nat.le_of_ble_eq_true rfl, Nat.le_of_ble_eq_true rfl⟩ (mJ7_fill_53178 hO.2.2.1 w9 0 g.2.1 r hr) rfl (Nat.le_of_ble_eq_true rfl) rfl dX2_start_53 hP hS hl) rfl (fun w10 hw10 => ?_)
  refine y_aload_n (n := 57) C dX2_start_56 0 rfl rfl ?_
  refine y_get (ci := 2) (f := 11) (n := 60) C in_X2 hO.1 rfl (by decide) wd_81 rfl rfl dX2_start_57 rfl ?_
  refine y_iconst (n := 61) C (0 : Int32) dX2_start_60 (by decide) rfl ?_
  refine y_cv (n := 64) C (fun r hr H locs la hP hS hl => y_runS (st := []) C ky_J7_fill_53178 wd_307 ⟨Nat.le_of_ble_eq_true rfl, Nat.le_of_ble_eq_true rfl⟩ (mJ7_fill_53178 hO.2.2.2.2.2.1 w10 0 g.2.1 r hr) rfl (Nat.le_of_ble_eq_true rfl) rfl dX2_start_61 hP hS hl) rfl (fun w11 hw11 => ?_)
  refine y_aload_n (n := 65) C dX2_start_64 0 rfl rfl ?_
  refine y_get (ci := 2) (f := 12) (n := 68) C in_X2 hO.1 rfl (by decide) wd_82 rfl rfl dX2_start_65 rfl ?_
  refine y_iconst (n := 69) C (0 : Int32) dX2_start_68 (by decide) rfl ?_
  refine y_cv (n := 72) C (fun r hr H locs la hP hS hl => y_runS (st := []) C ky_J7_fill_53178 wd_307 ⟨Nat.le_of_ble_eq_true rfl, Nat.le_of_ble_eq_true rfl⟩ (mJ7_fill_53178 hO.2.2.2.2.2.2.1 w11 0 g.2.1 r hr) rfl (Nat.le_of_ble_eq_true rfl) rfl dX2_start_69 hP hS hl) rfl (fun w12 hw12 => ?_)
  refine y_iconst (n := 73) C (0 : Int32) dX2_start_72 (by decide) rfl ?_
  refine y_istore (n := 75) (ls' := [(4, .int 0), (0, .ref (E.2.2.2.2.1 + o)), (1, .ref (E.2.2.2.2.1 + o1)), (2, .int a2), (3, .int a3)]) C dX2_start_73 (by decide) rfl rfl ?_
  refine y_ls [1, 2, 0] rfl ?_
  exact clX2_start_75 C hR hO hO1 4096 w12 0
theorem mX2_start {E : Ex} {o o1 : Nat} (hO : shR E.2.2.2.2.2.1 o) (hO1 : shO E.2.2.2.2.2.1 o1) (w : Wd) (a2 : Int32) (a3 : Int32) (l : Launch) : MV l yX2_start cX2_start 5 none { frames := 4, cells := 0, slots := 0, locals := 89 } E [.ref (E.2.2.2.2.1 + o), .ref (E.2.2.2.2.1 + o1), .int a2, .int a3] w (fX2_start w o o1 a2 a3) :=
  y_met (Qc := yQv E) (by decide +kernel) (Nat.le_of_ble_eq_true rfl) (fun g C hR => eX2_start C hR hO hO1 w a2 a3) l
def lX2_tellingLess_4 (o o1 : Nat) : Nat → Wd → Int32 → Int32 → Option (Int32)
  | 0, _, _, _ => none
  | n + 1, w, x2, x3 =>
    if 6 ≤ x3 then
      some x2
    else
      (fX5_at w (o + 4) 6 x3).bind fun v2 =>
      (fX5_at w (o + 3) 6 x3).bind fun v3 =>
      if v3 ≤ v2 then
        (fX1_isAsked w o1 x3).bind fun v5 =>
        if v5 = 0 then
          (fX5_oneIf w 0).bind fun v7 =>
          lX2_tellingLess_4 o o1 n w (x2 + v7) (x3 + 1)
        else
          (fX5_oneIf w 0).bind fun v8 =>
          lX2_tellingLess_4 o o1 n w (x2 + v8) (x3 + 1)
      else
        (fX1_isAsked w o1 x3).bind fun v9 =>
        if v9 = 0 then
          (fX5_oneIf w 0).bind fun v11 =>
          lX2_tellingLess_4 o o1 n w (x2 + v11) (x3 + 1)
        else
          (fX5_oneIf w 1).bind fun v12 =>
          lX2_tellingLess_4 o o1 n w (x2 + v12) (x3 + 1)
set_option maxRecDepth 4000 in
theorem clX2_tellingLess_4 {g : Gx} {E : Ex} (C : CC g E cX2_tellingLess 5 RX2 2 42) (hR : RT g (some .int)) {o o1 : Nat} (hO : shR E.2.2.2.2.2.1 o) (hO1 : shO E.2.2.2.2.2.1 o1) (w : Wd)  : ∀ (n : Nat) (x2 : Int32) (x3 : Int32), YO g E 5 (QP g E w) (lX2_tellingLess_4 o o1 n w x2 x3) w 4 [(0, .ref (E.2.2.2.2.1 + o)), (1, .ref (E.2.2.2.2.1 + o1)), (2, .int x2), (3, .int x3)] [] := by
  intro n
  induction n with
  | zero => intro x2 x3; exact y_no
  | succ n ih =>
    intro x2 x3
    rw [lX2_tellingLess_4]
    refine y_iload_n (n := 5) C dX2_tellingLess_4 3 rfl rfl ?_
    refine y_bipush (n := 7) C (6 : Int32) dX2_tellingLess_5 (by decide) rfl ?_
    refine y_icmp_ge (tgt := 66) (n := 10) C dX2_tellingLess_7 (by decide) rfl (fun h1 => ?_) (fun h1 => ?_)
    · refine y_iload_n (n := 67) C dX2_tellingLess_66 2 rfl rfl ?_
      exact y_rp C hR dX2_tellingLess_67
    · refine y_aload_n (n := 11) C dX2_tellingLess_10 0 rfl rfl ?_
      refine y_get (ci := 2) (f := 10) (n := 14) C in_X2 hO.1 rfl (by decide) wd_80 rfl rfl dX2_tellingLess_11 rfl ?_
      refine y_iload_n (n := 15) C dX2_tellingLess_14 3 rfl rfl ?_
      refine y_cp (n := 18) C (fun r hr H locs la hP hS hl => y_runSN (st := []) C ky_X5_at wd_314 ⟨Nat.le_of_ble_eq_true rfl, Nat.le_of_ble_eq_true rfl⟩ (mX5_at hO.2.2.2.2.1 w x3 g.2.1 r hr) rfl (Nat.le_of_ble_eq_true rfl) rfl dX2_tellingLess_15 hP hS hl) rfl (fun v2 hv2 => ?_)
      refine y_aload_n (n := 19) C dX2_tellingLess_18 0 rfl rfl ?_
      refine y_get (ci := 2) (f := 9) (n := 22) C in_X2 hO.1 rfl (by decide) wd_79 rfl rfl dX2_tellingLess_19 rfl ?_
      refine y_iload_n (n := 23) C dX2_tellingLess_22 3 rfl rfl ?_
      refine y_cp (n := 26) C (fun r hr H locs la hP hS hl => y_runSN (st := [.int v2]) C ky_X5_at wd_314 ⟨Nat.le_of_ble_eq_true rfl, Nat.le_of_ble_eq_true rfl⟩ (mX5_at hO.2.2.2.1 w x3 g.2.1 r hr) rfl (Nat.le_of_ble_eq_true rfl) rfl dX2_tellingLess_23 hP hS hl) rfl (fun v3 hv3 => ?_)
      refine y_icmp_ge (tgt := 33) (n := 29) C dX2_tellingLess_26 (by decide) rfl (fun h4 => ?_) (fun h4 => ?_)
      · refine y_iconst (n := 34) C (0 : Int32) dX2_tellingLess_33 (by decide) rfl ?_
        refine y_istore (n := 36) (ls' := [(4, .int 0), (0, .ref (E.2.2.2.2.1 + o)), (1, .ref (E.2.2.2.2.1 + o1)), (2, .int x2), (3, .int x3)]) C dX2_tellingLess_34 (by decide) rfl rfl ?_
        refine y_iload_n (n := 37) C dX2_tellingLess_36 3 rfl rfl ?_
        refine y_aload_n (n := 38) C dX2_tellingLess_37 2 rfl rfl ?_
        refine y_iload_n (n := 39) C dX2_tellingLess_38 4 rfl rfl ?_
        refine y_cp (n := 42) C (fun r hr H locs la hP hS hl => y_runVN (ci := 1) (st := [.int x2]) C ky_X1_isAsked wd_343 ⟨Nat.le_of_ble_eq_true rfl, Nat.le_of_ble_eq_true rfl⟩ hO1.1 rfl (mX1_isAsked hO1 w x3 g.2.1 r hr) rfl (Nat.le_of_ble_eq_true rfl) rfl dX2_tellingLess_39 hP hS hl) rfl (fun v5 hv5 => ?_)
        refine y_if_eq (tgt := 54) (n := 45) C dX2_tellingLess_42 (by decide) rfl (fun h6 => ?_) (fun h6 => ?_)
        · refine y_iconst (n := 55) C (0 : Int32) dX2_tellingLess_54 (by decide) rfl ?_
          refine y_cp (n := 58) C (fun r hr H locs la hP hS hl => y_runSN (st := [.int x2]) C ky_X5_oneIf wd_568 ⟨Nat.le_of_ble_eq_true rfl, Nat.le_of_ble_eq_true rfl⟩ (mX5_oneIf w 0 g.2.1 r hr) rfl (Nat.le_of_ble_eq_true rfl) rfl dX2_tellingLess_55 hP hS hl) rfl (fun v7 hv7 => ?_)
          refine y_iadd (n := 59) C dX2_tellingLess_58 rfl ?_
          refine y_istore_n (n := 60) (ls' := [(2, .int (x2 + v7)), (4, .int 0), (0, .ref (E.2.2.2.2.1 + o)), (1, .ref (E.2.2.2.2.1 + o1)), (3, .int x3)]) C dX2_tellingLess_59 (by decide) rfl rfl ?_
          refine y_iinc (n := 63) (v := x3 + 1) (ls' := [(3, .int (x3 + 1)), (2, .int (x2 + v7)), (4, .int 0), (0, .ref (E.2.2.2.2.1 + o)), (1, .ref (E.2.2.2.2.1 + o1))]) C dX2_tellingLess_60 4 rfl rfl (by decide) rfl rfl ?_
          refine y_goto (tgt := 4) C dX2_tellingLess_63 (by decide) ?_
          refine y_ls [3, 4, 1, 0] rfl ?_
          exact ih (x2 + v7) (x3 + 1)
        · refine y_iload (n := 47) C dX2_tellingLess_45 0 rfl rfl ?_
          refine y_if_eq_T (tgt := 54) C dX2_tellingLess_47 (by decide) (by decide) ?_
          refine y_iconst (n := 55) C (0 : Int32) dX2_tellingLess_54 (by decide) rfl ?_
          refine y_cp (n := 58) C (fun r hr H locs la hP hS hl => y_runSN (st := [.int x2]) C ky_X5_oneIf wd_568 ⟨Nat.le_of_ble_eq_true rfl, Nat.le_of_ble_eq_true rfl⟩ (mX5_oneIf w 0 g.2.1 r hr) rfl (Nat.le_of_ble_eq_true rfl) rfl dX2_tellingLess_55 hP hS hl) rfl (fun v8 hv8 => ?_)
          refine y_iadd (n := 59) C dX2_tellingLess_58 rfl ?_
          refine y_istore_n (n := 60) (ls' := [(2, .int (x2 + v8)), (4, .int 0), (0, .ref (E.2.2.2.2.1 + o)), (1, .ref (E.2.2.2.2.1 + o1)), (3, .int x3)]) C dX2_tellingLess_59 (by decide) rfl rfl ?_
          refine y_iinc (n := 63) (v := x3 + 1) (ls' := [(3, .int (x3 + 1)), (2, .int (x2 + v8)), (4, .int 0), (0, .ref (E.2.2.2.2.1 + o)), (1, .ref (E.2.2.2.2.1 + o1))]) C dX2_tellingLess_60 4 rfl rfl (by decide) rfl rfl ?_
          refine y_goto (tgt := 4) C dX2_tellingLess_63 (by decide) ?_
          refine y_ls [3, 4, 1, 0] rfl ?_
          exact ih (x2 + v8) (x3 + 1)
      · refine y_iconst (n := 30) C (1 : Int32) dX2_tellingLess_29 (by decide) rfl ?_
        refine y_goto (tgt := 34) C dX2_tellingLess_30 (by decide) ?_
        refine y_istore (n := 36) (ls' := [(4, .int 1), (0, .ref (E.2.2.2.2.1 + o)), (1, .ref (E.2.2.2.2.1 + o1)), (2, .int x2), (3, .int x3)]) C dX2_tellingLess_34 (by decide) rfl rfl ?_
        refine y_iload_n (n := 37) C dX2_tellingLess_36 3 rfl rfl ?_
        refine y_aload_n (n := 38) C dX2_tellingLess_37 2 rfl rfl ?_
        refine y_iload_n (n := 39) C dX2_tellingLess_38 4 rfl rfl ?_
        refine y_cp (n := 42) C (fun r hr H locs la hP hS hl => y_runVN (ci := 1) (st := [.int x2]) C ky_X1_isAsked wd_343 ⟨Nat.le_of_ble_eq_true rfl, Nat.le_of_ble_eq_true rfl⟩ hO1.1 rfl (mX1_isAsked hO1 w x3 g.2.1 r hr) rfl (Nat.le_of_ble_eq_true rfl) rfl dX2_tellingLess_39 hP hS hl) rfl (fun v9 hv9 => ?_)
        refine y_if_eq (tgt := 54) (n := 45) C dX2_tellingLess_42 (by decide) rfl (fun h10 => ?_) (fun h10 => ?_)
        · refine y_iconst (n := 55) C (0 : Int32) dX2_tellingLess_54 (by decide) rfl ?_
          refine y_cp (n := 58) C (fun r hr H locs la hP hS hl => y_runSN (st := [.int x2]) C ky_X5_oneIf wd_568 ⟨Nat.le_of_ble_eq_true rfl, Nat.le_of_ble_eq_true rfl⟩ (mX5_oneIf w 0 g.2.1 r hr) rfl (Nat.le_of_ble_eq_true rfl) rfl dX2_tellingLess_55 hP hS hl) rfl (fun v11 hv11 => ?_)
          refine y_iadd (n := 59) C dX2_tellingLess_58 rfl ?_
          refine y_istore_n (n := 60) (ls' := [(2, .int (x2 + v11)), (4, .int 1), (0, .ref (E.2.2.2.2.1 + o)), (1, .ref (E.2.2.2.2.1 + o1)), (3, .int x3)]) C dX2_tellingLess_59 (by decide) rfl rfl ?_
          refine y_iinc (n := 63) (v := x3 + 1) (ls' := [(3, .int (x3 + 1)), (2, .int (x2 + v11)), (4, .int 1), (0, .ref (E.2.2.2.2.1 + o)), (1, .ref (E.2.2.2.2.1 + o1))]) C dX2_tellingLess_60 4 rfl rfl (by decide) rfl rfl ?_
          refine y_goto (tgt := 4) C dX2_tellingLess_63 (by decide) ?_
          refine y_ls [3, 4, 1, 0] rfl ?_
          exact ih (x2 + v11) (x3 + 1)
        · refine y_iload (n := 47) C dX2_tellingLess_45 0 rfl rfl ?_
          refine y_if_eq_F (tgt := 54) (n := 50) C dX2_tellingLess_47 (by decide) rfl (by decide) ?_
          refine y_iconst (n := 51) C (1 : Int32) dX2_tellingLess_50 (by decide) rfl ?_
          refine y_goto (tgt := 55) C dX2_tellingLess_51 (by decide) ?_
          refine y_cp (n := 58) C (fun r hr H locs la hP hS hl => y_runSN (st := [.int x2]) C ky_X5_oneIf wd_568 ⟨Nat.le_of_ble_eq_true rfl, Nat.le_of_ble_eq_true rfl⟩ (mX5_oneIf w 1 g.2.1 r hr) rfl (Nat.le_of_ble_eq_true rfl) rfl dX2_tellingLess_55 hP hS hl) rfl (fun v12 hv12 => ?_)
          refine y_iadd (n := 59) C dX2_tellingLess_58 rfl ?_
          refine y_istore_n (n := 60) (ls' := [(2, .int (x2 + v12)), (4, .int 1), (0, .ref (E.2.2.2.2.1 + o)), (1, .ref (E.2.2.2.2.1 + o1)), (3, .int x3)]) C dX2_tellingLess_59 (by decide) rfl rfl ?_
          refine y_iinc (n := 63) (v := x3 + 1) (ls' := [(3, .int (x3 + 1)), (2, .int (x2 + v12)), (4, .int 1), (0, .ref (E.2.2.2.2.1 + o)), (1, .ref (E.2.2.2.2.1 + o1))]) C dX2_tellingLess_60 4 rfl rfl (by decide) rfl rfl ?_
          refine y_goto (tgt := 4) C dX2_tellingLess_63 (by decide) ?_
          refine y_ls [3, 4, 1, 0] rfl ?_
          exact ih (x2 + v12) (x3 + 1)
def fX2_tellingLess (w : Wd) (o o1 : Nat)  : Option (Int32) :=
  lX2_tellingLess_4 o o1 4096 w 0 0
set_option maxRecDepth 4000 in
theorem eX2_tellingLess {g : Gx} {E : Ex} (C : CC g E cX2_tellingLess 5 RX2 2 42) (hR : RT g (some .int)) {o o1 : Nat} (hO : shR E.2.2.2.2.2.1 o) (hO1 : shO E.2.2.2.2.2.1 o1) (w : Wd)  : YO g E 5 (QP g E w) (fX2_tellingLess w o o1) w 0 [(0, .ref (E.2.2.2.2.1 + o)), (1, .ref (E.2.2.2.2.1 + o1))] [] := by
  unfold fX2_tellingLess
  refine y_iconst (n := 1) C (0 : Int32) dX2_tellingLess_0 (by decide) rfl ?_
  refine y_istore_n (n := 2) (ls' := [(2, .int 0), (0, .ref (E.2.2.2.2.1 + o)), (1, .ref (E.2.2.2.2.1 + o1))]) C dX2_tellingLess_1 (by decide) rfl rfl ?_
  refine y_iconst (n := 3) C (0 : Int32) dX2_tellingLess_2 (by decide) rfl ?_
  refine y_istore_n (n := 4) (ls' := [(3, .int 0), (2, .int 0), (0, .ref (E.2.2.2.2.1 + o)), (1, .ref (E.2.2.2.2.1 + o1))]) C dX2_tellingLess_3 (by decide) rfl rfl ?_
  refine y_ls [2, 3, 1, 0] rfl ?_
  exact clX2_tellingLess_4 C hR hO hO1 w 4096 0 0
theorem mX2_tellingLess {E : Ex} {o o1 : Nat} (hO : shR E.2.2.2.2.2.1 o) (hO1 : shO E.2.2.2.2.2.1 o1) (w : Wd)  (l : Launch) : MP l yX2_tellingLess cX2_tellingLess 5 (some .int) { frames := 2, cells := 0, slots := 0, locals := 42 } E [.ref (E.2.2.2.2.1 + o), .ref (E.2.2.2.2.1 + o1)] w (fX2_tellingLess w o o1) :=
  y_met (Qc := fun r => yQi E (r, w)) (by decide +kernel) (Nat.le_of_ble_eq_true rfl) (fun g C hR => eX2_tellingLess C hR hO hO1 w ) l
def lX2_toldNotWanted_11 (o o1 : Nat) : Nat → Wd → Int32 → Int32 → Int32 → Option (Int32)
  | 0, _, _, _, _ => none
  | n + 1, w, x2, x3, x4 =>
    if x3 ≤ x4 then
      some x2
    else
      (fX5_at w (o + 8) 60 x4).bind fun v3 =>
      (fX1_wantedPlaceOf w o1 v3).bind fun v4 =>
      if v4 = (-5) then
        (fX5_oneIf w 1).bind fun v7 =>
        lX2_toldNotWanted_11 o o1 n w (x2 + v7) x3 (x4 + 1)
      else
        (fX5_oneIf w 0).bind fun v6 =>
        lX2_toldNotWanted_11 o o1 n w (x2 + v6) x3 (x4 + 1)
set_option maxRecDepth 4000 in
theorem clX2_toldNotWanted_11 {g : Gx} {E : Ex} (C : CC g E cX2_toldNotWanted 5 RX2 5 112) (hR : RT g (some .int)) {o o1 : Nat} (hO : shR E.2.2.2.2.2.1 o) (hO1 : shO E.2.2.2.2.2.1 o1) (w : Wd)  : ∀ (n : Nat) (x2 : Int32) (x3 : Int32) (x4 : Int32), YO g E 5 (QP g E w) (lX2_toldNotWanted_11 o o1 n w x2 x3 x4) w 11 [(0, .ref (E.2.2.2.2.1 + o)), (1, .ref (E.2.2.2.2.1 + o1)), (2, .int x2), (3, .int x3), (4, .int x4)] [] := by
  intro n
  induction n with
  | zero => intro x2 x3 x4; exact y_no
  | succ n ih =>
    intro x2 x3 x4
    rw [lX2_toldNotWanted_11]
    refine y_iload (n := 13) C dX2_toldNotWanted_11 4 rfl rfl ?_
    refine y_iload_n (n := 14) C dX2_toldNotWanted_13 3 rfl rfl ?_
    refine y_icmp_ge (tgt := 52) (n := 17) C dX2_toldNotWanted_14 (by decide) rfl (fun h2 => ?_) (fun h2 => ?_)
    · refine y_iload_n (n := 53) C dX2_toldNotWanted_52 2 rfl rfl ?_
      exact y_rp C hR dX2_toldNotWanted_53
    · refine y_iload_n (n := 18) C dX2_toldNotWanted_17 2 rfl rfl ?_
      refine y_aload_n (n := 19) C dX2_toldNotWanted_18 1 rfl rfl ?_
      refine y_aload_n (n := 20) C dX2_toldNotWanted_19 0 rfl rfl ?_
      refine y_get (ci := 2) (f := 14) (n := 23) C in_X2 hO.1 rfl (by decide) wd_86 rfl rfl dX2_toldNotWanted_20 rfl ?_
      refine y_iload (n := 25) C dX2_toldNotWanted_23 4 rfl rfl ?_
      refine y_cp (n := 28) C (fun r hr H locs la hP hS hl => y_runSN (st := [.ref (E.2.2.2.2.1 + o1), .int x2]) C ky_X5_at wd_314 ⟨Nat.le_of_ble_eq_true rfl, Nat.le_of_ble_eq_true rfl⟩ (mX5_at hO.2.2.2.2.2.2.2.2 w x4 g.2.1 r hr) rfl (Nat.le_of_ble_eq_true rfl) rfl dX2_toldNotWanted_25 hP hS hl) rfl (fun v3 hv3 => ?_)
      refine y_cp (n := 31) C (fun r hr H locs la hP hS hl => y_runVN (ci := 1) (st := [.int x2]) C ky_X1_wantedPlaceOf wd_567 ⟨Nat.le_of_ble_eq_true rfl, Nat.le_of_ble_eq_true rfl⟩ hO1.1 rfl (mX1_wantedPlaceOf hO1 w v3 g.2.1 r hr) rfl (Nat.le_of_ble_eq_true rfl) rfl dX2_toldNotWanted_28 hP hS hl) rfl (fun v4 hv4 => ?_)
      refine y_bipush (n := 33) C ((-5) : Int32) dX2_toldNotWanted_31 (by decide) rfl ?_
      refine y_icmp_ne (tgt := 40) (n := 36) C dX2_toldNotWanted_33 (by decide) rfl (fun h5 => ?_) (fun h5 => ?_)
      · refine y_iconst (n := 41) C (0 : Int32) dX2_toldNotWanted_40 (by decide) rfl ?_
        refine y_cp (n := 44) C (fun r hr H locs la hP hS hl => y_runSN (st := [.int x2]) C ky_X5_oneIf wd_568 ⟨Nat.le_of_ble_eq_true rfl, Nat.le_of_ble_eq_true rfl⟩ (mX5_oneIf w 0 g.2.1 r hr) rfl (Nat.le_of_ble_eq_true rfl) rfl dX2_toldNotWanted_41 hP hS hl) rfl (fun v6 hv6 => ?_)
        refine y_iadd (n := 45) C dX2_toldNotWanted_44 rfl ?_
        refine y_istore_n (n := 46) (ls' := [(2, .int (x2 + v6)), (0, .ref (E.2.2.2.2.1 + o)), (1, .ref (E.2.2.2.2.1 + o1)), (3, .int x3), (4, .int x4)]) C dX2_toldNotWanted_45 (by decide) rfl rfl ?_
        refine y_iinc (n := 49) (v := x4 + 1) (ls' := [(4, .int (x4 + 1)), (2, .int (x2 + v6)), (0, .ref (E.2.2.2.2.1 + o)), (1, .ref (E.2.2.2.2.1 + o1)), (3, .int x3)]) C dX2_toldNotWanted_46 4 rfl rfl (by decide) rfl rfl ?_
        refine y_goto (tgt := 11) C dX2_toldNotWanted_49 (by decide) ?_
        refine y_ls [2, 3, 1, 4, 0] rfl ?_
        exact ih (x2 + v6) x3 (x4 + 1)
      · refine y_iconst (n := 37) C (1 : Int32) dX2_toldNotWanted_36 (by decide) rfl ?_
        refine y_goto (tgt := 41) C dX2_toldNotWanted_37 (by decide) ?_
        refine y_cp (n := 44) C (fun r hr H locs la hP hS hl => y_runSN (st := [.int x2]) C ky_X5_oneIf wd_568 ⟨Nat.le_of_ble_eq_true rfl, Nat.le_of_ble_eq_true rfl⟩ (mX5_oneIf w 1 g.2.1 r hr) rfl (Nat.le_of_ble_eq_true rfl) rfl dX2_toldNotWanted_41 hP hS hl) rfl (fun v7 hv7 => ?_)
        refine y_iadd (n := 45) C dX2_toldNotWanted_44 rfl ?_
        refine y_istore_n (n := 46) (ls' := [(2, .int (x2 + v7)), (0, .ref (E.2.2.2.2.1 + o)), (1, .ref (E.2.2.2.2.1 + o1)), (3, .int x3), (4, .int x4)]) C dX2_toldNotWanted_45 (by decide) rfl rfl ?_
        refine y_iinc (n := 49) (v := x4 + 1) (ls' := [(4, .int (x4 + 1)), (2, .int (x2 + v7)), (0, .ref (E.2.2.2.2.1 + o)), (1, .ref (E.2.2.2.2.1 + o1)), (3, .int x3)]) C dX2_toldNotWanted_46 4 rfl rfl (by decide) rfl rfl ?_
        refine y_goto (tgt := 11) C dX2_toldNotWanted_49 (by decide) ?_
        refine y_ls [2, 3, 1, 4, 0] rfl ?_
        exact ih (x2 + v7) x3 (x4 + 1)
def fX2_toldNotWanted (w : Wd) (o o1 : Nat)  : Option (Int32) :=
  (fX2_toldSize w o o1).bind fun v1 =>
  lX2_toldNotWanted_11 o o1 4096 w 0 v1 0
set_option maxRecDepth 4000 in
theorem eX2_toldNotWanted {g : Gx} {E : Ex} (C : CC g E cX2_toldNotWanted 5 RX2 5 112) (hR : RT g (some .int)) {o o1 : Nat} (hO : shR E.2.2.2.2.2.1 o) (hO1 : shO E.2.2.2.2.2.1 o1) (w : Wd)  : YO g E 5 (QP g E w) (fX2_toldNotWanted w o o1) w 0 [(0, .ref (E.2.2.2.2.1 + o)), (1, .ref (E.2.2.2.2.1 + o1))] [] := by
  unfold fX2_toldNotWanted
  refine y_iconst (n := 1) C (0 : Int32) dX2_toldNotWanted_0 (by decide) rfl ?_
  refine y_istore_n (n := 2) (ls' := [(2, .int 0), (0, .ref (E.2.2.2.2.1 + o)), (1, .ref (E.2.2.2.2.1 + o1))]) C dX2_toldNotWanted_1 (by decide) rfl rfl ?_
  refine y_aload_n (n := 3) C dX2_toldNotWanted_2 1 rfl rfl ?_
  refine y_aload_n (n := 4) C dX2_toldNotWanted_3 2 rfl rfl ?_
  refine y_cp (n := 7) C (fun r hr H locs la hP hS hl => y_runV (ci := 2) (st := []) C ky_X2_toldSize wd_562 ⟨Nat.le_of_ble_eq_true rfl, Nat.le_of_ble_eq_true rfl⟩ hO.1 rfl (mX2_toldSize hO hO1 w g.2.1 r hr) rfl (Nat.le_of_ble_eq_true rfl) rfl dX2_toldNotWanted_4 hP hS hl) rfl (fun v1 hv1 => ?_)
  refine y_istore_n (n := 8) (ls' := [(3, .int v1), (2, .int 0), (0, .ref (E.2.2.2.2.1 + o)), (1, .ref (E.2.2.2.2.1 + o1))]) C dX2_toldNotWanted_7 (by decide) rfl rfl ?_
  refine y_iconst (n := 9) C (0 : Int32) dX2_toldNotWanted_8 (by decide) rfl ?_
  refine y_istore (n := 11) (ls' := [(4, .int 0), (3, .int v1), (2, .int 0), (0, .ref (E.2.2.2.2.1 + o)), (1, .ref (E.2.2.2.2.1 + o1))]) C dX2_toldNotWanted_9 (by decide) rfl rfl ?_
  refine y_ls [3, 4, 2, 1, 0] rfl ?_
  exact clX2_toldNotWanted_11 C hR hO hO1 w 4096 0 v1 0
theorem mX2_toldNotWanted {E : Ex} {o o1 : Nat} (hO : shR E.2.2.2.2.2.1 o) (hO1 : shO E.2.2.2.2.2.1 o1) (w : Wd)  (l : Launch) : MP l yX2_toldNotWanted cX2_toldNotWanted 5 (some .int) { frames := 5, cells := 0, slots := 0, locals := 112 } E [.ref (E.2.2.2.2.1 + o), .ref (E.2.2.2.2.1 + o1)] w (fX2_toldNotWanted w o o1) :=
  y_met (Qc := fun r => yQi E (r, w)) (by decide +kernel) (Nat.le_of_ble_eq_true rfl) (fun g C hR => eX2_toldNotWanted C hR hO hO1 w ) l
def fX5_isList (w : Wd) (a1 : Int32) : Option (Int32) :=
  if a1 < 0 then
    rtZ 0
  else
    if 6 ≤ a1 then
      rtZ 0
    else
      rtZ 1
set_option maxRecDepth 4000 in
theorem eX5_isList {g : Gx} {E : Ex} (C : CC g E cX5_isList 1 RX5 0 0) (hR : RT g (some .boolean))  (w : Wd) (a1 : Int32) : YO g E 1 (QP g E w) (fX5_isList w a1) w 0 [(0, .int a1)] [] := by
  unfold fX5_isList
  refine y_iload_n (n := 1) C dX5_isList_0 0 rfl rfl ?_
  refine y_if_lt (tgt := 14) (n := 4) C dX5_isList_1 (by decide) rfl (fun h1 => ?_) (fun h1 => ?_)
  · refine y_iconst (n := 15) C (0 : Int32) dX5_isList_14 (by decide) rfl ?_
    exact y_rz C hR dX5_isList_15
  · refine y_iload_n (n := 5) C dX5_isList_4 0 rfl rfl ?_
    refine y_bipush (n := 7) C (6 : Int32) dX5_isList_5 (by decide) rfl ?_
    refine y_icmp_ge (tgt := 14) (n := 10) C dX5_isList_7 (by decide) rfl (fun h2 => ?_) (fun h2 => ?_)
    · refine y_iconst (n := 15) C (0 : Int32) dX5_isList_14 (by decide) rfl ?_
      exact y_rz C hR dX5_isList_15
    · refine y_iconst (n := 11) C (1 : Int32) dX5_isList_10 (by decide) rfl ?_
      refine y_goto (tgt := 15) C dX5_isList_11 (by decide) ?_
      exact y_rz C hR dX5_isList_15
theorem mX5_isList {E : Ex}  (w : Wd) (a1 : Int32) (l : Launch) : MP l yX5_isList cX5_isList 1 (some .boolean) { frames := 0, cells := 0, slots := 0, locals := 0 } E [.int a1] w (fX5_isList w a1) :=
  y_met (Qc := fun r => yQi E (r, w)) (by decide +kernel) (Nat.le_of_ble_eq_true rfl) (fun g C hR => eX5_isList C hR  w a1) l
def fX5_add (y : Ly) (w : Wd) (o : Nat) (a1 : Int32) (a2 : Int32) (a3 : Int32) : Option (Int32 × Wd) :=
  (fX5_isList w a1).bind fun v1 =>
  if v1 = 0 then
    some ((-1), w)
  else
    (fX5_isDocument w a2).bind fun v3 =>
    if v3 = 0 then
      some ((-1), w)
    else
      if a3 < 1 then
        some ((-2), w)
      else
        if a3 ≤ 999 then
          if (bz (w.1 (o + 1 + 7) 0)) = 0 then
            (fX1_scoreOf w (o + 1 + 1) a1 a2).bind fun v8 =>
            if v8 = 0 then
              (fX1_sizeOf w (o + 1 + 1) a1).bind fun v14 =>
              if v14 < 40 then
                if v8 = a3 then
                  some ((-5), w)
                else
                  (fX0_record y w (o + 17) (o + 1)).bind fun w17 =>
                  ob2 (fX1_putIn w17 (o + 1 + 1) a1 a2 a3) fun v18 w19 =>
                  some (v18, w19)
              else
                some ((-3), w)
            else
              if v8 = a3 then
                some ((-5), w)
              else
                (fX0_record y w (o + 17) (o + 1)).bind fun w11 =>
                ob2 (fX1_putIn w11 (o + 1 + 1) a1 a2 a3) fun v12 w13 =>
                some (v12, w13)
          else
            some ((-4), w)
        else
          some ((-2), w)
set_option maxRecDepth 4000 in
theorem eX5_add {g : Gx} {E : Ex} (C : CC g E cX5_add 5 RX5 5 133) (hR : RT g (some .int)) {o : Nat} (hO : shB E.2.2.2.2.2.1 o) (w : Wd) (a1 : Int32) (a2 : Int32) (a3 : Int32) : YO g E 5 (QI g E) (fX5_add E.2.2.2.2.2.1 w o a1 a2 a3) w 0 [(0, .ref (E.2.2.2.2.1 + o)), (1, .int a1), (2, .int a2), (3, .int a3)] [] := by
  unfold fX5_add
  refine y_iload_n (n := 1) C dX5_add_0 1 rfl rfl ?_
  refine y_cp (n := 4) C (fun r hr H locs la hP hS hl => y_runS (st := []) C ky_X5_isList wd_277 ⟨Nat.le_of_ble_eq_true rfl, Nat.le_of_ble_eq_true rfl⟩ (mX5_isList w a1 g.2.1 r hr) rfl (Nat.le_of_ble_eq_true rfl) rfl dX5_add_1 hP hS hl) rfl (fun v1 hv1 => ?_)
  refine y_if_eq (tgt := 14) (n := 7) C dX5_add_4 (by decide) rfl (fun h2 => ?_) (fun h2 => ?_)
  · refine y_iconst (n := 15) C ((-1) : Int32) dX5_add_14 (by decide) rfl ?_
    exact y_ri C hR dX5_add_15
  · refine y_iload_n (n := 8) C dX5_add_7 2 rfl rfl ?_
    refine y_cp (n := 11) C (fun r hr H locs la hP hS hl => y_runS (st := []) C ky_X5_isDocument wd_207 ⟨Nat.le_of_ble_eq_true rfl, Nat.le_of_ble_eq_true rfl⟩ (mX5_isDocument w a2 g.2.1 r hr) rfl (Nat.le_of_ble_eq_true rfl) rfl dX5_add_8 hP hS hl) rfl (fun v3 hv3 => ?_)
    refine y_if_ne (tgt := 16) (n := 14) C dX5_add_11 (by decide) rfl (fun h4 => ?_) (fun h4 => ?_)
    · refine y_iload_n (n := 17) C dX5_add_16 3 rfl rfl ?_
      refine y_iconst (n := 18) C (1 : Int32) dX5_add_17 (by decide) rfl ?_
      refine y_icmp_lt (tgt := 28) (n := 21) C dX5_add_18 (by decide) rfl (fun h5 => ?_) (fun h5 => ?_)
      · refine y_bipush (n := 30) C ((-2) : Int32) dX5_add_28 (by decide) rfl ?_
        exact y_ri C hR dX5_add_30
      · refine y_iload_n (n := 22) C dX5_add_21 3 rfl rfl ?_
        refine y_sipush (n := 25) C (999 : Int32) dX5_add_22 (by decide) rfl ?_
        refine y_icmp_le (tgt := 31) (n := 28) C dX5_add_25 (by decide) rfl (fun h6 => ?_) (fun h6 => ?_)
        · refine y_aload_n (n := 32) C dX5_add_31 0 rfl rfl ?_
          refine y_get (ci := 5) (f := 0) (n := 35) C in_X5 hO.1 rfl (by decide) wd_180 rfl rfl dX5_add_32 rfl ?_
          refine y_getN (ci := 3) (f := 1) (n := 38) C in_X3 hO.2.1.1 rfl (by decide) wd_126 rfl rfl dX5_add_35 rfl ?_
          refine y_getN (ci := 2) (f := 0) (n := 41) C in_X2 hO.2.1.2.2.1 rfl (by decide) wd_68 rfl rfl dX5_add_38 rfl ?_
          refine y_if_eq (tgt := 47) (n := 44) C dX5_add_41 (by decide) rfl (fun h7 => ?_) (fun h7 => ?_)
          · refine y_aload_n (n := 48) C dX5_add_47 0 rfl rfl ?_
            refine y_get (ci := 5) (f := 0) (n := 51) C in_X5 hO.1 rfl (by decide) wd_180 rfl rfl dX5_add_48 rfl ?_
            refine y_getN (ci := 3) (f := 0) (n := 54) C in_X3 hO.2.1.1 rfl (by decide) wd_124 rfl rfl dX5_add_51 rfl ?_
            refine y_iload_n (n := 55) C dX5_add_54 1 rfl rfl ?_
            refine y_iload_n (n := 56) C dX5_add_55 2 rfl rfl ?_
            refine y_cp (n := 59) C (fun r hr H locs la hP hS hl => y_runVN (ci := 1) (st := []) C ky_X1_scoreOf wd_496 ⟨Nat.le_of_ble_eq_true rfl, Nat.le_of_ble_eq_true rfl⟩ hO.2.1.2.1.1 rfl (mX1_scoreOf hO.2.1.2.1 w a1 a2 g.2.1 r hr) rfl (Nat.le_of_ble_eq_true rfl) rfl dX5_add_56 hP hS hl) rfl (fun v8 hv8 => ?_)
            refine y_istore (n := 61) (ls' := [(4, .int v8), (0, .ref (E.2.2.2.2.1 + o)), (1, .int a1), (2, .int a2), (3, .int a3)]) C dX5_add_59 (by decide) rfl rfl ?_
            refine y_iload (n := 63) C dX5_add_61 0 rfl rfl ?_
            refine y_if_ne (tgt := 85) (n := 66) C dX5_add_63 (by decide) rfl (fun h9 => ?_) (fun h9 => ?_)
            · refine y_iload (n := 87) C dX5_add_85 0 rfl rfl ?_
              refine y_iload_n (n := 88) C dX5_add_87 4 rfl rfl ?_
              refine y_icmp_ne (tgt := 94) (n := 91) C dX5_add_88 (by decide) rfl (fun h10 => ?_) (fun h10 => ?_)
              · refine y_aload_n (n := 95) C dX5_add_94 1 rfl rfl ?_
                refine y_get (ci := 5) (f := 1) (n := 98) C in_X5 hO.1 rfl (by decide) wd_181 rfl rfl dX5_add_95 rfl ?_
                refine y_aload_n (n := 99) C dX5_add_98 1 rfl rfl ?_
                refine y_get (ci := 5) (f := 0) (n := 102) C in_X5 hO.1 rfl (by decide) wd_180 rfl rfl dX5_add_99 rfl ?_
                refine y_cv (n := 105) C (fun r hr H locs la hP hS hl => y_runVN (ci := 0) (st := []) C ky_X0_record wd_214 ⟨Nat.le_of_ble_eq_true rfl, Nat.le_of_ble_eq_true rfl⟩ hO.2.2.1.1 rfl (mX0_record hO.2.2.1 hO.2.1 w g.2.1 r hr) rfl (Nat.le_of_ble_eq_true rfl) rfl dX5_add_102 hP hS hl) rfl (fun w11 hw11 => ?_)
                refine y_aload_n (n := 106) C dX5_add_105 1 rfl rfl ?_
                refine y_get (ci := 5) (f := 0) (n := 109) C in_X5 hO.1 rfl (by decide) wd_180 rfl rfl dX5_add_106 rfl ?_
                refine y_getN (ci := 3) (f := 0) (n := 112) C in_X3 hO.2.1.1 rfl (by decide) wd_124 rfl rfl dX5_add_109 rfl ?_
                refine y_iload_n (n := 113) C dX5_add_112 2 rfl rfl ?_
                refine y_iload_n (n := 114) C dX5_add_113 3 rfl rfl ?_
                refine y_iload_n (n := 115) C dX5_add_114 4 rfl rfl ?_
                refine y_ci2 (n := 118) C (fun r hr H locs la hP hS hl => y_runVN (ci := 1) (st := []) C ky_X1_putIn wd_497 ⟨Nat.le_of_ble_eq_true rfl, Nat.le_of_ble_eq_true rfl⟩ hO.2.1.2.1.1 rfl (mX1_putIn hO.2.1.2.1 w11 a1 a2 a3 g.2.1 r hr) rfl (Nat.le_of_ble_eq_true rfl) rfl dX5_add_115 hP hS hl) rfl (fun v12 w13 hv12 => ?_)
                exact y_ri C hR dX5_add_118
              · refine y_bipush (n := 93) C ((-5) : Int32) dX5_add_91 (by decide) rfl ?_
                exact y_ri C hR dX5_add_93
            · refine y_aload_n (n := 67) C dX5_add_66 1 rfl rfl ?_
              refine y_get (ci := 5) (f := 0) (n := 70) C in_X5 hO.1 rfl (by decide) wd_180 rfl rfl dX5_add_67 rfl ?_
              refine y_getN (ci := 3) (f := 0) (n := 73) C in_X3 hO.2.1.1 rfl (by decide) wd_124 rfl rfl dX5_add_70 rfl ?_
              refine y_iload_n (n := 74) C dX5_add_73 2 rfl rfl ?_
              refine y_cp (n := 77) C (fun r hr H locs la hP hS hl => y_runVN (ci := 1) (st := []) C ky_X1_sizeOf wd_480 ⟨Nat.le_of_ble_eq_true rfl, Nat.le_of_ble_eq_true rfl⟩ hO.2.1.2.1.1 rfl (mX1_sizeOf hO.2.1.2.1 w a1 g.2.1 r hr) rfl (Nat.le_of_ble_eq_true rfl) rfl dX5_add_74 hP hS hl) rfl (fun v14 hv14 => ?_)
              refine y_bipush (n := 79) C (40 : Int32) dX5_add_77 (by decide) rfl ?_
              refine y_icmp_lt (tgt := 85) (n := 82) C dX5_add_79 (by decide) rfl (fun h15 => ?_) (fun h15 => ?_)
              · refine y_iload (n := 87) C dX5_add_85 0 rfl rfl ?_
                refine y_iload_n (n := 88) C dX5_add_87 4 rfl rfl ?_
                refine y_icmp_ne (tgt := 94) (n := 91) C dX5_add_88 (by decide) rfl (fun h16 => ?_) (fun h16 => ?_)
                · refine y_aload_n (n := 95) C dX5_add_94 1 rfl rfl ?_
                  refine y_get (ci := 5) (f := 1) (n := 98) C in_X5 hO.1 rfl (by decide) wd_181 rfl rfl dX5_add_95 rfl ?_
                  refine y_aload_n (n := 99) C dX5_add_98 1 rfl rfl ?_
                  refine y_get (ci := 5) (f := 0) (n := 102) C in_X5 hO.1 rfl (by decide) wd_180 rfl rfl dX5_add_99 rfl ?_
                  refine y_cv (n := 105) C (fun r hr H locs la hP hS hl => y_runVN (ci := 0) (st := []) C ky_X0_record wd_214 ⟨Nat.le_of_ble_eq_true rfl, Nat.le_of_ble_eq_true rfl⟩ hO.2.2.1.1 rfl (mX0_record hO.2.2.1 hO.2.1 w g.2.1 r hr) rfl (Nat.le_of_ble_eq_true rfl) rfl dX5_add_102 hP hS hl) rfl (fun w17 hw17 => ?_)
                  refine y_aload_n (n := 106) C dX5_add_105 1 rfl rfl ?_
                  refine y_get (ci := 5) (f := 0) (n := 109) C in_X5 hO.1 rfl (by decide) wd_180 rfl rfl dX5_add_106 rfl ?_
                  refine y_getN (ci := 3) (f := 0) (n := 112) C in_X3 hO.2.1.1 rfl (by decide) wd_124 rfl rfl dX5_add_109 rfl ?_
                  refine y_iload_n (n := 113) C dX5_add_112 2 rfl rfl ?_
                  refine y_iload_n (n := 114) C dX5_add_113 3 rfl rfl ?_
                  refine y_iload_n (n := 115) C dX5_add_114 4 rfl rfl ?_
                  refine y_ci2 (n := 118) C (fun r hr H locs la hP hS hl => y_runVN (ci := 1) (st := []) C ky_X1_putIn wd_497 ⟨Nat.le_of_ble_eq_true rfl, Nat.le_of_ble_eq_true rfl⟩ hO.2.1.2.1.1 rfl (mX1_putIn hO.2.1.2.1 w17 a1 a2 a3 g.2.1 r hr) rfl (Nat.le_of_ble_eq_true rfl) rfl dX5_add_115 hP hS hl) rfl (fun v18 w19 hv18 => ?_)
                  exact y_ri C hR dX5_add_118
                · refine y_bipush (n := 93) C ((-5) : Int32) dX5_add_91 (by decide) rfl ?_
                  exact y_ri C hR dX5_add_93
              · refine y_bipush (n := 84) C ((-3) : Int32) dX5_add_82 (by decide) rfl ?_
                exact y_ri C hR dX5_add_84
          · refine y_bipush (n := 46) C ((-4) : Int32) dX5_add_44 (by decide) rfl ?_
            exact y_ri C hR dX5_add_46
        · refine y_bipush (n := 30) C ((-2) : Int32) dX5_add_28 (by decide) rfl ?_
          exact y_ri C hR dX5_add_30
    · refine y_iconst (n := 15) C ((-1) : Int32) dX5_add_14 (by decide) rfl ?_
      exact y_ri C hR dX5_add_15
theorem mX5_add {E : Ex} {o : Nat} (hO : shB E.2.2.2.2.2.1 o) (w : Wd) (a1 : Int32) (a2 : Int32) (a3 : Int32) (l : Launch) : MI l yX5_add cX5_add 5 (some .int) { frames := 5, cells := 0, slots := 0, locals := 133 } E [.ref (E.2.2.2.2.1 + o), .int a1, .int a2, .int a3] w (fX5_add E.2.2.2.2.2.1 w o a1 a2 a3) :=
  y_met (Qc := yQi E) (by decide +kernel) (Nat.le_of_ble_eq_true rfl) (fun g C hR => eX5_add C hR hO w a1 a2 a3) l
