/-! J13_bitCount_95d88 J6_bitCount_0f7a4 J7_fill_53178 X0_moveOldestToEnd X0_stateAt X5_copyRow X1_copyFrom X2_copyFrom X3_copyFrom X0_record X5_at X5_oneIf X1_documentAt X1_isDeleted X1_deletedIn X1_entries X5_isDocument X1_scoreOf X1_valueOf X1_isAnswer X1_isAsked X1_listsWith X5_put X1_scoreAt X1_standsAhead X1_takeOut -/
def fJ13_bitCount_95d88 (w : Wd) (a1 : Int64) : Option (Int32) :=
  (some (a1 - (((Int64.toUInt64 a1 >>> (Int64.toUInt64 (Int32.toInt64 1) &&& Int64.toUInt64 63)).toInt64) &&& 6148914691236517205))).bind fun z1 =>
  (some ((z1 &&& 3689348814741910323) + (((Int64.toUInt64 z1 >>> (Int64.toUInt64 (Int32.toInt64 2) &&& Int64.toUInt64 63)).toInt64) &&& 3689348814741910323))).bind fun z2 =>
  (some ((z2 + ((Int64.toUInt64 z2 >>> (Int64.toUInt64 (Int32.toInt64 4) &&& Int64.toUInt64 63)).toInt64)) &&& 1085102592571150095)).bind fun z3 =>
  (some (z3 + ((Int64.toUInt64 z3 >>> (Int64.toUInt64 (Int32.toInt64 8) &&& Int64.toUInt64 63)).toInt64))).bind fun z4 =>
  (some (z4 + ((Int64.toUInt64 z4 >>> (Int64.toUInt64 (Int32.toInt64 16) &&& Int64.toUInt64 63)).toInt64))).bind fun z5 =>
  (some (z5 + ((Int64.toUInt64 z5 >>> (Int64.toUInt64 (Int32.toInt64 32) &&& Int64.toUInt64 63)).toInt64))).bind fun z6 =>
  some ((Int64.toInt32 z6) &&& 127)
set_option maxRecDepth 4000 in
theorem eJ13_bitCount_95d88 {g : Gx} {E : Ex} (C : CC g E cJ13_bitCount_95d88 2 RJ13 0 0) (hR : RT g (some .int))  (w : Wd) (a1 : Int64) : YO g E 2 (QP g E w) (fJ13_bitCount_95d88 w a1) w 0 [(0, .long a1)] [] := by
  unfold fJ13_bitCount_95d88
  refine y_lload_n (n := 1) C dJ13_bitCount_95d88_0 0 rfl rfl ?_
  refine y_lload_n (n := 2) C dJ13_bitCount_95d88_1 0 rfl rfl ?_
  refine y_iconst (n := 3) C (1 : Int32) dJ13_bitCount_95d88_2 (by decide) rfl ?_
  refine y_lushr (n := 4) C dJ13_bitCount_95d88_3 rfl ?_
  refine y_ldc2 (n := 7) C (6148914691236517205) wd_450 dJ13_bitCount_95d88_4 rfl ?_
  refine y_land (n := 8) C dJ13_bitCount_95d88_7 rfl ?_
  refine y_lsub (n := 9) C dJ13_bitCount_95d88_8 rfl ?_
  refine y_nmL (fun z1 hz1 => ?_)
  refine y_lstore_n (n := 10) (ls' := [(0, .long z1)]) C dJ13_bitCount_95d88_9 (by decide) rfl rfl ?_
  refine y_lload_n (n := 11) C dJ13_bitCount_95d88_10 0 rfl rfl ?_
  refine y_ldc2 (n := 14) C (3689348814741910323) wd_451 dJ13_bitCount_95d88_11 rfl ?_
  refine y_land (n := 15) C dJ13_bitCount_95d88_14 rfl ?_
  refine y_lload_n (n := 16) C dJ13_bitCount_95d88_15 0 rfl rfl ?_
  refine y_iconst (n := 17) C (2 : Int32) dJ13_bitCount_95d88_16 (by decide) rfl ?_
  refine y_lushr (n := 18) C dJ13_bitCount_95d88_17 rfl ?_
  refine y_ldc2 (n := 21) C (3689348814741910323) wd_451 dJ13_bitCount_95d88_18 rfl ?_
  refine y_land (n := 22) C dJ13_bitCount_95d88_21 rfl ?_
  refine y_ladd (n := 23) C dJ13_bitCount_95d88_22 rfl ?_
  refine y_nmL (fun z2 hz2 => ?_)
  refine y_lstore_n (n := 24) (ls' := [(0, .long z2)]) C dJ13_bitCount_95d88_23 (by decide) rfl rfl ?_
  refine y_lload_n (n := 25) C dJ13_bitCount_95d88_24 0 rfl rfl ?_
  refine y_lload_n (n := 26) C dJ13_bitCount_95d88_25 0 rfl rfl ?_
  refine y_iconst (n := 27) C (4 : Int32) dJ13_bitCount_95d88_26 (by decide) rfl ?_
  refine y_lushr (n := 28) C dJ13_bitCount_95d88_27 rfl ?_
  refine y_ladd (n := 29) C dJ13_bitCount_95d88_28 rfl ?_
  refine y_ldc2 (n := 32) C (1085102592571150095) wd_452 dJ13_bitCount_95d88_29 rfl ?_
  refine y_land (n := 33) C dJ13_bitCount_95d88_32 rfl ?_
  refine y_nmL (fun z3 hz3 => ?_)
  refine y_lstore_n (n := 34) (ls' := [(0, .long z3)]) C dJ13_bitCount_95d88_33 (by decide) rfl rfl ?_
  refine y_lload_n (n := 35) C dJ13_bitCount_95d88_34 0 rfl rfl ?_
  refine y_lload_n (n := 36) C dJ13_bitCount_95d88_35 0 rfl rfl ?_
  refine y_bipush (n := 38) C (8 : Int32) dJ13_bitCount_95d88_36 (by decide) rfl ?_
  refine y_lushr (n := 39) C dJ13_bitCount_95d88_38 rfl ?_
  refine y_ladd (n := 40) C dJ13_bitCount_95d88_39 rfl ?_
  refine y_nmL (fun z4 hz4 => ?_)
  refine y_lstore_n (n := 41) (ls' := [(0, .long z4)]) C dJ13_bitCount_95d88_40 (by decide) rfl rfl ?_
  refine y_lload_n (n := 42) C dJ13_bitCount_95d88_41 0 rfl rfl ?_
  refine y_lload_n (n := 43) C dJ13_bitCount_95d88_42 0 rfl rfl ?_
  refine y_bipush (n := 45) C (16 : Int32) dJ13_bitCount_95d88_43 (by decide) rfl ?_
  refine y_lushr (n := 46) C dJ13_bitCount_95d88_45 rfl ?_
  refine y_ladd (n := 47) C dJ13_bitCount_95d88_46 rfl ?_
  refine y_nmL (fun z5 hz5 => ?_)
  refine y_lstore_n (n := 48) (ls' := [(0, .long z5)]) C dJ13_bitCount_95d88_47 (by decide) rfl rfl ?_
  refine y_lload_n (n := 49) C dJ13_bitCount_95d88_48 0 rfl rfl ?_
  refine y_lload_n (n := 50) C dJ13_bitCount_95d88_49 0 rfl rfl ?_
  refine y_bipush (n := 52) C (32 : Int32) dJ13_bitCount_95d88_50 (by decide) rfl ?_
  refine y_lushr (n := 53) C dJ13_bitCount_95d88_52 rfl ?_
  refine y_ladd (n := 54) C dJ13_bitCount_95d88_53 rfl ?_
  refine y_nmL (fun z6 hz6 => ?_)
  refine y_lstore_n (n := 55) (ls' := [(0, .long z6)]) C dJ13_bitCount_95d88_54 (by decide) rfl rfl ?_
  refine y_lload_n (n := 56) C dJ13_bitCount_95d88_55 0 rfl rfl ?_
  refine y_l2i (n := 57) C dJ13_bitCount_95d88_56 rfl ?_
  refine y_bipush (n := 59) C (127 : Int32) dJ13_bitCount_95d88_57 (by decide) rfl ?_
  refine y_iand (n := 60) C dJ13_bitCount_95d88_59 rfl ?_
  exact y_rp C hR dJ13_bitCount_95d88_60
theorem mJ13_bitCount_95d88 {E : Ex}  (w : Wd) (a1 : Int64) (l : Launch) : MP l yJ13_bitCount_95d88 cJ13_bitCount_95d88 2 (some .int) { frames := 0, cells := 0, slots := 0, locals := 0 } E [.long a1] w (fJ13_bitCount_95d88 w a1) :=
  y_met (Qc := fun r => yQi E (r, w)) (by decide +kernel) (Nat.le_of_ble_eq_true rfl) (fun g C hR => eJ13_bitCount_95d88 C hR  w a1) l
def fJ6_bitCount_0f7a4 (w : Wd) (a1 : Int32) : Option (Int32) :=
  (some (a1 - (((Int32.toUInt32 a1 >>> (Int32.toUInt32 1 &&& Int32.toUInt32 31)).toInt32) &&& 1431655765))).bind fun z1 =>
  (some ((z1 &&& 858993459) + (((Int32.toUInt32 z1 >>> (Int32.toUInt32 2 &&& Int32.toUInt32 31)).toInt32) &&& 858993459))).bind fun z2 =>
  (some ((z2 + ((Int32.toUInt32 z2 >>> (Int32.toUInt32 4 &&& Int32.toUInt32 31)).toInt32)) &&& 252645135)).bind fun z3 =>
  (some (z3 + ((Int32.toUInt32 z3 >>> (Int32.toUInt32 8 &&& Int32.toUInt32 31)).toInt32))).bind fun z4 =>
  (some (z4 + ((Int32.toUInt32 z4 >>> (Int32.toUInt32 16 &&& Int32.toUInt32 31)).toInt32))).bind fun z5 =>
  some (z5 &&& 63)
set_option maxRecDepth 4000 in
theorem eJ6_bitCount_0f7a4 {g : Gx} {E : Ex} (C : CC g E cJ6_bitCount_0f7a4 1 RJ6 0 0) (hR : RT g (some .int))  (w : Wd) (a1 : Int32) : YO g E 1 (QP g E w) (fJ6_bitCount_0f7a4 w a1) w 0 [(0, .int a1)] [] := by
  unfold fJ6_bitCount_0f7a4
  refine y_iload_n (n := 1) C dJ6_bitCount_0f7a4_0 0 rfl rfl ?_
  refine y_iload_n (n := 2) C dJ6_bitCount_0f7a4_1 0 rfl rfl ?_
  refine y_iconst (n := 3) C (1 : Int32) dJ6_bitCount_0f7a4_2 (by decide) rfl ?_
  refine y_iushr (n := 4) C dJ6_bitCount_0f7a4_3 rfl ?_
  refine y_ldcw (n := 7) C (1431655765) wd_266 dJ6_bitCount_0f7a4_4 rfl ?_
  refine y_iand (n := 8) C dJ6_bitCount_0f7a4_7 rfl ?_
  refine y_isub (n := 9) C dJ6_bitCount_0f7a4_8 rfl ?_
  refine y_nm (fun z1 hz1 => ?_)
  refine y_istore_n (n := 10) (ls' := [(0, .int z1)]) C dJ6_bitCount_0f7a4_9 (by decide) rfl rfl ?_
  refine y_iload_n (n := 11) C dJ6_bitCount_0f7a4_10 0 rfl rfl ?_
  refine y_ldcw (n := 14) C (858993459) wd_267 dJ6_bitCount_0f7a4_11 rfl ?_
  refine y_iand (n := 15) C dJ6_bitCount_0f7a4_14 rfl ?_
  refine y_iload_n (n := 16) C dJ6_bitCount_0f7a4_15 0 rfl rfl ?_
  refine y_iconst (n := 17) C (2 : Int32) dJ6_bitCount_0f7a4_16 (by decide) rfl ?_
  refine y_iushr (n := 18) C dJ6_bitCount_0f7a4_17 rfl ?_
  refine y_ldcw (n := 21) C (858993459) wd_267 dJ6_bitCount_0f7a4_18 rfl ?_
  refine y_iand (n := 22) C dJ6_bitCount_0f7a4_21 rfl ?_
  refine y_iadd (n := 23) C dJ6_bitCount_0f7a4_22 rfl ?_
  refine y_nm (fun z2 hz2 => ?_)
  refine y_istore_n (n := 24) (ls' := [(0, .int z2)]) C dJ6_bitCount_0f7a4_23 (by decide) rfl rfl ?_
  refine y_iload_n (n := 25) C dJ6_bitCount_0f7a4_24 0 rfl rfl ?_
  refine y_iload_n (n := 26) C dJ6_bitCount_0f7a4_25 0 rfl rfl ?_
  refine y_iconst (n := 27) C (4 : Int32) dJ6_bitCount_0f7a4_26 (by decide) rfl ?_
  refine y_iushr (n := 28) C dJ6_bitCount_0f7a4_27 rfl ?_
  refine y_iadd (n := 29) C dJ6_bitCount_0f7a4_28 rfl ?_
  refine y_ldcw (n := 32) C (252645135) wd_268 dJ6_bitCount_0f7a4_29 rfl ?_
  refine y_iand (n := 33) C dJ6_bitCount_0f7a4_32 rfl ?_
  refine y_nm (fun z3 hz3 => ?_)
  refine y_istore_n (n := 34) (ls' := [(0, .int z3)]) C dJ6_bitCount_0f7a4_33 (by decide) rfl rfl ?_
  refine y_iload_n (n := 35) C dJ6_bitCount_0f7a4_34 0 rfl rfl ?_
  refine y_iload_n (n := 36) C dJ6_bitCount_0f7a4_35 0 rfl rfl ?_
  refine y_bipush (n := 38) C (8 : Int32) dJ6_bitCount_0f7a4_36 (by decide) rfl ?_
  refine y_iushr (n := 39) C dJ6_bitCount_0f7a4_38 rfl ?_
  refine y_iadd (n := 40) C dJ6_bitCount_0f7a4_39 rfl ?_
  refine y_nm (fun z4 hz4 => ?_)
  refine y_istore_n (n := 41) (ls' := [(0, .int z4)]) C dJ6_bitCount_0f7a4_40 (by decide) rfl rfl ?_
  refine y_iload_n (n := 42) C dJ6_bitCount_0f7a4_41 0 rfl rfl ?_
  refine y_iload_n (n := 43) C dJ6_bitCount_0f7a4_42 0 rfl rfl ?_
  refine y_bipush (n := 45) C (16 : Int32) dJ6_bitCount_0f7a4_43 (by decide) rfl ?_
  refine y_iushr (n := 46) C dJ6_bitCount_0f7a4_45 rfl ?_
  refine y_iadd (n := 47) C dJ6_bitCount_0f7a4_46 rfl ?_
  refine y_nm (fun z5 hz5 => ?_)
  refine y_istore_n (n := 48) (ls' := [(0, .int z5)]) C dJ6_bitCount_0f7a4_47 (by decide) rfl rfl ?_
  refine y_iload_n (n := 49) C dJ6_bitCount_0f7a4_48 0 rfl rfl ?_
  refine y_bipush (n := 51) C (63 : Int32) dJ6_bitCount_0f7a4_49 (by decide) rfl ?_
  refine y_iand (n := 52) C dJ6_bitCount_0f7a4_51 rfl ?_
  exact y_rp C hR dJ6_bitCount_0f7a4_52
theorem mJ6_bitCount_0f7a4 {E : Ex}  (w : Wd) (a1 : Int32) (l : Launch) : MP l yJ6_bitCount_0f7a4 cJ6_bitCount_0f7a4 1 (some .int) { frames := 0, cells := 0, slots := 0, locals := 0 } E [.int a1] w (fJ6_bitCount_0f7a4 w a1) :=
  y_met (Qc := fun r => yQi E (r, w)) (by decide +kernel) (Nat.le_of_ble_eq_true rfl) (fun g C hR => eJ6_bitCount_0f7a4 C hR  w a1) l
def lJ7_fill_53178_5 (k1 q1 : Nat) : Nat → Wd → Int32 → Int32 → Int32 → Option (Wd)
  | 0, _, _, _, _ => none
  | n + 1, w, x1, x2, x3 =>
    if x3 ≤ x2 then
      some w
    else
      (stI q1 w k1 x2 x1).bind fun w2 =>
      lJ7_fill_53178_5 k1 q1 n w2 x1 (x2 + 1) x3
set_option maxRecDepth 4000 in
theorem clJ7_fill_53178_5 {g : Gx} {E : Ex} (C : CC g E cJ7_fill_53178 4 RJ7 0 0) (hR : RT g none) {k1 q1 : Nat} (hk1 : E.2.2.2.2.2.1[k1]? = some (0, q1))  : ∀ (n : Nat) (w : Wd) (x1 : Int32) (x2 : Int32) (x3 : Int32), YO g E 4 (QV g E) (lJ7_fill_53178_5 k1 q1 n w x1 x2 x3) w 5 [(0, .ref (E.2.2.2.2.1 + k1)), (1, .int x1), (2, .int x2), (3, .int x3)] [] := by
  intro n
  induction n with
  | zero => intro w x1 x2 x3; exact y_no
  | succ n ih =>
    intro w x1 x2 x3
    rw [lJ7_fill_53178_5]
    refine y_iload_n (n := 6) C dJ7_fill_53178_5 2 rfl rfl ?_
    refine y_iload_n (n := 7) C dJ7_fill_53178_6 3 rfl rfl ?_
    refine y_icmp_ge (tgt := 20) (n := 10) C dJ7_fill_53178_7 (by decide) rfl (fun h1 => ?_) (fun h1 => ?_)
    · exact y_rv C hR dJ7_fill_53178_20
    · refine y_aload_n (n := 11) C dJ7_fill_53178_10 0 rfl rfl ?_
      refine y_iload_n (n := 12) C dJ7_fill_53178_11 2 rfl rfl ?_
      refine y_iload_n (n := 13) C dJ7_fill_53178_12 1 rfl rfl ?_
      refine y_iast (n := 14) C hk1 dJ7_fill_53178_13 rfl (fun w2 hw2 => ?_)
      refine y_iinc (n := 17) (v := x2 + 1) (ls' := [(2, .int (x2 + 1)), (0, .ref (E.2.2.2.2.1 + k1)), (1, .int x1), (3, .int x3)]) C dJ7_fill_53178_14 2 rfl rfl (by decide) rfl rfl ?_
      refine y_goto (tgt := 5) C dJ7_fill_53178_17 (by decide) ?_
      refine y_ls [1, 2, 0, 3] rfl ?_
      exact ih w2 x1 (x2 + 1) x3
def fJ7_fill_53178 (w : Wd) (k1 q1 : Nat) (a2 : Int32) : Option (Wd) :=
  lJ7_fill_53178_5 k1 q1 4096 w a2 0 (nI q1)
set_option maxRecDepth 4000 in
theorem eJ7_fill_53178 {g : Gx} {E : Ex} (C : CC g E cJ7_fill_53178 4 RJ7 0 0) (hR : RT g none) {k1 q1 : Nat} (hk1 : E.2.2.2.2.2.1[k1]? = some (0, q1)) (w : Wd) (a2 : Int32) : YO g E 4 (QV g E) (fJ7_fill_53178 w k1 q1 a2) w 0 [(0, .ref (E.2.2.2.2.1 + k1)), (1, .int a2)] [] := by
  unfold fJ7_fill_53178
  refine y_iconst (n := 1) C (0 : Int32) dJ7_fill_53178_0 (by decide) rfl ?_
  refine y_istore_n (n := 2) (ls' := [(2, .int 0), (0, .ref (E.2.2.2.2.1 + k1)), (1, .int a2)]) C dJ7_fill_53178_1 (by decide) rfl rfl ?_
  refine y_aload_n (n := 3) C dJ7_fill_53178_2 1 rfl rfl ?_
  refine y_alen (n := 4) C hk1 dJ7_fill_53178_3 rfl ?_
  refine y_istore_n (n := 5) (ls' := [(3, .int (nI q1)), (2, .int 0), (0, .ref (E.2.2.2.2.1 + k1)), (1, .int a2)]) C dJ7_fill_53178_4 (by decide) rfl rfl ?_
  refine y_ls [2, 3, 1, 0] rfl ?_
  exact clJ7_fill_53178_5 C hR hk1 4096 w a2 0 (nI q1)
theorem mJ7_fill_53178 {E : Ex} {k1 q1 : Nat} (hk1 : E.2.2.2.2.2.1[k1]? = some (0, q1)) (w : Wd) (a2 : Int32) (l : Launch) : MV l yJ7_fill_53178 cJ7_fill_53178 4 none { frames := 0, cells := 0, slots := 0, locals := 0 } E [.ref (E.2.2.2.2.1 + k1), .int a2] w (fJ7_fill_53178 w k1 q1 a2) :=
  y_met (Qc := yQv E) (by decide +kernel) (Nat.le_of_ble_eq_true rfl) (fun g C hR => eJ7_fill_53178 C hR hk1 w a2) l
def lX0_moveOldestToEnd_2 (y : Ly) (o : Nat) : Nat → Wd → Int32 → Option (Wd)
  | 0, _, _ => none
  | n + 1, w, x1 =>
    if (nI 4) ≤ x1 then
      some w
    else
      (ldR 4 w (o + 1) (x1 - 1)).bind fun r2 =>
      (ldR 4 w (o + 1) x1).bind fun r3 =>
      gd (shS y r3) <|
      (stR 4 w (o + 1) (x1 - 1) r3).bind fun w4 =>
      gd (shS y r2) <|
      (stR 4 w4 (o + 1) x1 r2).bind fun w6 =>
      lX0_moveOldestToEnd_2 y o n w6 (x1 + 1)
set_option maxRecDepth 4000 in
theorem clX0_moveOldestToEnd_2 {g : Gx} {E : Ex} (C : CC g E cX0_moveOldestToEnd 3 RX0 0 0) (hR : RT g none) {o : Nat} (hO : shH E.2.2.2.2.2.1 o)  : ∀ (n : Nat) (w : Wd) (x1 : Int32), YO g E 3 (QV g E) (lX0_moveOldestToEnd_2 E.2.2.2.2.2.1 o n w x1) w 2 [(0, .ref (E.2.2.2.2.1 + o)), (1, .int x1)] [] := by
  intro n
  induction n with
  | zero => intro w x1; exact y_no
  | succ n ih =>
    intro w x1
    rw [lX0_moveOldestToEnd_2]
    refine y_iload_n (n := 3) C dX0_moveOldestToEnd_2 1 rfl rfl ?_
    refine y_aload_n (n := 4) C dX0_moveOldestToEnd_3 0 rfl rfl ?_
    refine y_get (ci := 0) (f := 0) (n := 7) C in_X0 hO.1 rfl (by decide) wd_149 rfl rfl dX0_moveOldestToEnd_4 rfl ?_
    refine y_alenR (n := 8) C hO.2 dX0_moveOldestToEnd_7 rfl ?_
    refine y_icmp_ge (tgt := 47) (n := 11) C dX0_moveOldestToEnd_8 (by decide) rfl (fun h1 => ?_) (fun h1 => ?_)
    · exact y_rv C hR dX0_moveOldestToEnd_47
    · refine y_aload_n (n := 12) C dX0_moveOldestToEnd_11 0 rfl rfl ?_
      refine y_get (ci := 0) (f := 0) (n := 15) C in_X0 hO.1 rfl (by decide) wd_149 rfl rfl dX0_moveOldestToEnd_12 rfl ?_
      refine y_iload_n (n := 16) C dX0_moveOldestToEnd_15 1 rfl rfl ?_
      refine y_iconst (n := 17) C (1 : Int32) dX0_moveOldestToEnd_16 (by decide) rfl ?_
      refine y_isub (n := 18) C dX0_moveOldestToEnd_17 rfl ?_
      refine y_aald (n := 19) C hO.2 dX0_moveOldestToEnd_18 rfl (fun r2 hr2 => ?_)
      refine y_astore_n (n := 20) (ls' := [(2, .ref (E.2.2.2.2.1 + r2)), (0, .ref (E.2.2.2.2.1 + o)), (1, .int x1)]) C dX0_moveOldestToEnd_19 (by decide) rfl rfl ?_
      refine y_aload_n (n := 21) C dX0_moveOldestToEnd_20 1 rfl rfl ?_
      refine y_get (ci := 0) (f := 0) (n := 24) C in_X0 hO.1 rfl (by decide) wd_149 rfl rfl dX0_moveOldestToEnd_21 rfl ?_
      refine y_iload_n (n := 25) C dX0_moveOldestToEnd_24 2 rfl rfl ?_
      refine y_iconst (n := 26) C (1 : Int32) dX0_moveOldestToEnd_25 (by decide) rfl ?_
      refine y_isub (n := 27) C dX0_moveOldestToEnd_26 rfl ?_
      refine y_aload_n (n := 28) C dX0_moveOldestToEnd_27 1 rfl rfl ?_
      refine y_get (ci := 0) (f := 0) (n := 31) C in_X0 hO.1 rfl (by decide) wd_149 rfl rfl dX0_moveOldestToEnd_28 rfl ?_
      refine y_iload_n (n := 32) C dX0_moveOldestToEnd_31 2 rfl rfl ?_
      refine y_aald (n := 33) C hO.2 dX0_moveOldestToEnd_32 rfl (fun r3 hr3 => ?_)
      refine y_gd2 (fun g5 => ?_)
      refine y_aast (n := 34) C hO.2 g5.1 dX0_moveOldestToEnd_33 rfl (fun w4 hw4 => ?_)
      refine y_aload_n (n := 35) C dX0_moveOldestToEnd_34 1 rfl rfl ?_
      refine y_get (ci := 0) (f := 0) (n := 38) C in_X0 hO.1 rfl (by decide) wd_149 rfl rfl dX0_moveOldestToEnd_35 rfl ?_
      refine y_iload_n (n := 39) C dX0_moveOldestToEnd_38 2 rfl rfl ?_
      refine y_aload_n (n := 40) C dX0_moveOldestToEnd_39 0 rfl rfl ?_
      refine y_gd2 (fun g7 => ?_)
      refine y_aast (n := 41) C hO.2 g7.1 dX0_moveOldestToEnd_40 rfl (fun w6 hw6 => ?_)
      refine y_iinc (n := 44) (v := x1 + 1) (ls' := [(1, .int (x1 + 1)), (2, .ref (E.2.2.2.2.1 + r2)), (0, .ref (E.2.2.2.2.1 + o))]) C dX0_moveOldestToEnd_41 2 rfl rfl (by decide) rfl rfl ?_
      refine y_goto (tgt := 2) C dX0_moveOldestToEnd_44 (by decide) ?_
      refine y_ls [2, 0] rfl ?_
      exact ih w6 (x1 + 1)
def fX0_moveOldestToEnd (y : Ly) (w : Wd) (o : Nat)  : Option (Wd) :=
  lX0_moveOldestToEnd_2 y o 4096 w 1
set_option maxRecDepth 4000 in
theorem eX0_moveOldestToEnd {g : Gx} {E : Ex} (C : CC g E cX0_moveOldestToEnd 3 RX0 0 0) (hR : RT g none) {o : Nat} (hO : shH E.2.2.2.2.2.1 o) (w : Wd)  : YO g E 3 (QV g E) (fX0_moveOldestToEnd E.2.2.2.2.2.1 w o) w 0 [(0, .ref (E.2.2.2.2.1 + o))] [] := by
  unfold fX0_moveOldestToEnd
  refine y_iconst (n := 1) C (1 : Int32) dX0_moveOldestToEnd_0 (by decide) rfl ?_
  refine y_istore_n (n := 2) (ls' := [(1, .int 1), (0, .ref (E.2.2.2.2.1 + o))]) C dX0_moveOldestToEnd_1 (by decide) rfl rfl ?_
  refine y_ls [1, 0] rfl ?_
  exact clX0_moveOldestToEnd_2 C hR hO 4096 w 1
theorem mX0_moveOldestToEnd {E : Ex} {o : Nat} (hO : shH E.2.2.2.2.2.1 o) (w : Wd)  (l : Launch) : MV l yX0_moveOldestToEnd cX0_moveOldestToEnd 3 none { frames := 0, cells := 0, slots := 0, locals := 0 } E [.ref (E.2.2.2.2.1 + o)] w (fX0_moveOldestToEnd E.2.2.2.2.2.1 w o) :=
  y_met (Qc := yQv E) (by decide +kernel) (Nat.le_of_ble_eq_true rfl) (fun g C hR => eX0_moveOldestToEnd C hR hO w ) l
def fX0_stateAt (w : Wd) (o : Nat) (a1 : Int32) : Option (Option Nat) :=
  if a1 < 0 then
    some none
  else
    if (nI 4) ≤ a1 then
      some none
    else
      (ldR 4 w (o + 1) a1).bind fun r3 =>
      some (some r3)
set_option maxRecDepth 4000 in
theorem eX0_stateAt {g : Gx} {E : Ex} (C : CC g E cX0_stateAt 2 RX0 0 0) (hR : RT g (some (.object "BribedClerks$State"))) {o : Nat} (hO : shH E.2.2.2.2.2.1 o) (w : Wd) (a1 : Int32) : YO g E 2 (QQ0 g E w) (fX0_stateAt w o a1) w 0 [(0, .ref (E.2.2.2.2.1 + o)), (1, .int a1)] [] := by
  unfold fX0_stateAt
  refine y_iload_n (n := 1) C dX0_stateAt_0 1 rfl rfl ?_
  refine y_if_lt (tgt := 22) (n := 4) C dX0_stateAt_1 (by decide) rfl (fun h1 => ?_) (fun h1 => ?_)
  · refine y_null (n := 23) C dX0_stateAt_22 rfl ?_
    exact y_rqN C hR dX0_stateAt_23
  · refine y_iload_n (n := 5) C dX0_stateAt_4 1 rfl rfl ?_
    refine y_aload_n (n := 6) C dX0_stateAt_5 0 rfl rfl ?_
    refine y_get (ci := 0) (f := 0) (n := 9) C in_X0 hO.1 rfl (by decide) wd_149 rfl rfl dX0_stateAt_6 rfl ?_
    refine y_alenR (n := 10) C hO.2 dX0_stateAt_9 rfl ?_
    refine y_icmp_ge (tgt := 22) (n := 13) C dX0_stateAt_10 (by decide) rfl (fun h2 => ?_) (fun h2 => ?_)
    · refine y_null (n := 23) C dX0_stateAt_22 rfl ?_
      exact y_rqN C hR dX0_stateAt_23
    · refine y_aload_n (n := 14) C dX0_stateAt_13 0 rfl rfl ?_
      refine y_get (ci := 0) (f := 0) (n := 17) C in_X0 hO.1 rfl (by decide) wd_149 rfl rfl dX0_stateAt_14 rfl ?_
      refine y_iload_n (n := 18) C dX0_stateAt_17 1 rfl rfl ?_
      refine y_aald (n := 19) C hO.2 dX0_stateAt_18 rfl (fun r3 hr3 => ?_)
      refine y_goto (tgt := 23) C dX0_stateAt_19 (by decide) ?_
      exact y_rqS C hR dX0_stateAt_23
theorem mX0_stateAt {E : Ex} {o : Nat} (hO : shH E.2.2.2.2.2.1 o) (w : Wd) (a1 : Int32) (l : Launch) : MQq l yX0_stateAt cX0_stateAt 2 (some (.object "BribedClerks$State")) { frames := 0, cells := 0, slots := 0, locals := 0 } E [.ref (E.2.2.2.2.1 + o), .int a1] w (fX0_stateAt w o a1) :=
  y_met (Qc := fun r => yQq E r w) (by decide +kernel) (Nat.le_of_ble_eq_true rfl) (fun g C hR => eX0_stateAt C hR hO w a1) l
def fX5_copyRow (w : Wd) (k1 q1 k2 q2 : Nat)  : Option (Wd) :=
  (cpy w k1 q1 k2 q2 0 0 (imin (nI q1) (nI q2))).bind fun w1 =>
  some w1
set_option maxRecDepth 4000 in
theorem eX5_copyRow {g : Gx} {E : Ex} (C : CC g E cX5_copyRow 2 RX5 1 48) (hR : RT g none) {k1 q1 k2 q2 : Nat} (hk1 : E.2.2.2.2.2.1[k1]? = some (0, q1)) (hk2 : E.2.2.2.2.2.1[k2]? = some (0, q2)) (w : Wd)  : YO g E 2 (QV g E) (fX5_copyRow w k1 q1 k2 q2) w 0 [(0, .ref (E.2.2.2.2.1 + k1)), (1, .ref (E.2.2.2.2.1 + k2))] [] := by
  unfold fX5_copyRow
  refine y_aload_n (n := 1) C dX5_copyRow_0 0 rfl rfl ?_
  refine y_iconst (n := 2) C (0 : Int32) dX5_copyRow_1 (by decide) rfl ?_
  refine y_aload_n (n := 3) C dX5_copyRow_2 1 rfl rfl ?_
  refine y_iconst (n := 4) C (0 : Int32) dX5_copyRow_3 (by decide) rfl ?_
  refine y_aload_n (n := 5) C dX5_copyRow_4 0 rfl rfl ?_
  refine y_alen (n := 6) C hk1 dX5_copyRow_5 rfl ?_
  refine y_aload_n (n := 7) C dX5_copyRow_6 1 rfl rfl ?_
  refine y_alen (n := 8) C hk2 dX5_copyRow_7 rfl ?_
  refine y_mmin (n := 11) C wd_237 wd_238 wd_7 wd_239 (by decide) (Nat.le_of_ble_eq_true rfl) dX5_copyRow_8 rfl ?_
  refine y_copy (n := 14) C wd_240 wd_242 wd_241 wd_8 hk1 hk2 (by decide) (by decide) dX5_copyRow_11 rfl (fun w1 hw1 => ?_)
  exact y_rv C hR dX5_copyRow_14
theorem mX5_copyRow {E : Ex} {k1 q1 k2 q2 : Nat} (hk1 : E.2.2.2.2.2.1[k1]? = some (0, q1)) (hk2 : E.2.2.2.2.2.1[k2]? = some (0, q2)) (w : Wd)  (l : Launch) : MV l yX5_copyRow cX5_copyRow 2 none { frames := 1, cells := 0, slots := 0, locals := 48 } E [.ref (E.2.2.2.2.1 + k1), .ref (E.2.2.2.2.1 + k2)] w (fX5_copyRow w k1 q1 k2 q2) :=
  y_met (Qc := yQv E) (by decide +kernel) (Nat.le_of_ble_eq_true rfl) (fun g C hR => eX5_copyRow C hR hk1 hk2 w ) l
def fX1_copyFrom (w : Wd) (o o1 : Nat)  : Option (Wd) :=
  (fX5_copyRow w (o1 + 1) 360 (o + 1) 360).bind fun w1 =>
  (fX5_copyRow w1 (o1 + 2) 240 (o + 2) 240).bind fun w2 =>
  (fX5_copyRow w2 (o1 + 3) 6 (o + 3) 6).bind fun w3 =>
  (fX5_copyRow w3 (o1 + 4) 6 (o + 4) 6).bind fun w4 =>
  (fX5_copyRow w4 (o1 + 5) 6 (o + 5) 6).bind fun w5 =>
  (pL w5 o (w5.2.1 o1)).bind fun w6 =>
  (pI w6 o 6 (w6.1 o1 6)).bind fun w7 =>
  some w7
set_option maxRecDepth 4000 in
theorem eX1_copyFrom {g : Gx} {E : Ex} (C : CC g E cX1_copyFrom 2 RX1 2 69) (hR : RT g none) {o o1 : Nat} (hO : shO E.2.2.2.2.2.1 o) (hO1 : shO E.2.2.2.2.2.1 o1) (w : Wd)  : YO g E 2 (QV g E) (fX1_copyFrom w o o1) w 0 [(0, .ref (E.2.2.2.2.1 + o)), (1, .ref (E.2.2.2.2.1 + o1))] [] := by
  unfold fX1_copyFrom
  refine y_aload_n (n := 1) C dX1_copyFrom_0 1 rfl rfl ?_
  refine y_get (ci := 1) (f := 0) (n := 4) C in_X1 hO1.1 rfl (by decide) wd_32 rfl rfl dX1_copyFrom_1 rfl ?_
  refine y_aload_n (n := 5) C dX1_copyFrom_4 0 rfl rfl ?_
  refine y_get (ci := 1) (f := 0) (n := 8) C in_X1 hO.1 rfl (by decide) wd_32 rfl rfl dX1_copyFrom_5 rfl ?_
  refine y_cv (n := 11) C (fun r hr H locs la hP hS hl => y_runSN (st := []) C ky_X5_copyRow wd_234 ⟨Nat.le_of_ble_eq_true rfl, Nat.le_of_ble_eq_true rfl⟩ (mX5_copyRow hO1.2.1 hO.2.1 w g.2.1 r hr) rfl (Nat.le_of_ble_eq_true rfl) rfl dX1_copyFrom_8 hP hS hl) rfl (fun w1 hw1 => ?_)
  refine y_aload_n (n := 12) C dX1_copyFrom_11 1 rfl rfl ?_
  refine y_get (ci := 1) (f := 1) (n := 15) C in_X1 hO1.1 rfl (by decide) wd_33 rfl rfl dX1_copyFrom_12 rfl ?_
  refine y_aload_n (n := 16) C dX1_copyFrom_15 0 rfl rfl ?_
  refine y_get (ci := 1) (f := 1) (n := 19) C in_X1 hO.1 rfl (by decide) wd_33 rfl rfl dX1_copyFrom_16 rfl ?_
  refine y_cv (n := 22) C (fun r hr H locs la hP hS hl => y_runSN (st := []) C ky_X5_copyRow wd_234 ⟨Nat.le_of_ble_eq_true rfl, Nat.le_of_ble_eq_true rfl⟩ (mX5_copyRow hO1.2.2.1 hO.2.2.1 w1 g.2.1 r hr) rfl (Nat.le_of_ble_eq_true rfl) rfl dX1_copyFrom_19 hP hS hl) rfl (fun w2 hw2 => ?_)
  refine y_aload_n (n := 23) C dX1_copyFrom_22 1 rfl rfl ?_
  refine y_get (ci := 1) (f := 2) (n := 26) C in_X1 hO1.1 rfl (by decide) wd_34 rfl rfl dX1_copyFrom_23 rfl ?_
  refine y_aload_n (n := 27) C dX1_copyFrom_26 0 rfl rfl ?_
  refine y_get (ci := 1) (f := 2) (n := 30) C in_X1 hO.1 rfl (by decide) wd_34 rfl rfl dX1_copyFrom_27 rfl ?_
  refine y_cv (n := 33) C (fun r hr H locs la hP hS hl => y_runSN (st := []) C ky_X5_copyRow wd_234 ⟨Nat.le_of_ble_eq_true rfl, Nat.le_of_ble_eq_true rfl⟩ (mX5_copyRow hO1.2.2.2.1 hO.2.2.2.1 w2 g.2.1 r hr) rfl (Nat.le_of_ble_eq_true rfl) rfl dX1_copyFrom_30 hP hS hl) rfl (fun w3 hw3 => ?_)
  refine y_aload_n (n := 34) C dX1_copyFrom_33 1 rfl rfl ?_
  refine y_get (ci := 1) (f := 3) (n := 37) C in_X1 hO1.1 rfl (by decide) wd_35 rfl rfl dX1_copyFrom_34 rfl ?_
  refine y_aload_n (n := 38) C dX1_copyFrom_37 0 rfl rfl ?_
  refine y_get (ci := 1) (f := 3) (n := 41) C in_X1 hO.1 rfl (by decide) wd_35 rfl rfl dX1_copyFrom_38 rfl ?_
  refine y_cv (n := 44) C (fun r hr H locs la hP hS hl => y_runSN (st := []) C ky_X5_copyRow wd_234 ⟨Nat.le_of_ble_eq_true rfl, Nat.le_of_ble_eq_true rfl⟩ (mX5_copyRow hO1.2.2.2.2.1 hO.2.2.2.2.1 w3 g.2.1 r hr) rfl (Nat.le_of_ble_eq_true rfl) rfl dX1_copyFrom_41 hP hS hl) rfl (fun w4 hw4 => ?_)
  refine y_aload_n (n := 45) C dX1_copyFrom_44 1 rfl rfl ?_
  refine y_get (ci := 1) (f := 4) (n := 48) C in_X1 hO1.1 rfl (by decide) wd_37 rfl rfl dX1_copyFrom_45 rfl ?_
  refine y_aload_n (n := 49) C dX1_copyFrom_48 0 rfl rfl ?_
  refine y_get (ci := 1) (f := 4) (n := 52) C in_X1 hO.1 rfl (by decide) wd_37 rfl rfl dX1_copyFrom_49 rfl ?_
  refine y_cv (n := 55) C (fun r hr H locs la hP hS hl => y_runSN (st := []) C ky_X5_copyRow wd_234 ⟨Nat.le_of_ble_eq_true rfl, Nat.le_of_ble_eq_true rfl⟩ (mX5_copyRow hO1.2.2.2.2.2 hO.2.2.2.2.2 w4 g.2.1 r hr) rfl (Nat.le_of_ble_eq_true rfl) rfl dX1_copyFrom_52 hP hS hl) rfl (fun w5 hw5 => ?_)
  refine y_aload_n (n := 56) C dX1_copyFrom_55 0 rfl rfl ?_
  refine y_aload_n (n := 57) C dX1_copyFrom_56 1 rfl rfl ?_
  refine y_get (ci := 1) (f := 5) (n := 60) C in_X1 hO1.1 rfl (by decide) wd_40 rfl rfl dX1_copyFrom_57 rfl ?_
  refine y_putL (ci := 1) (f := 5) (n := 63) C in_X1 tyX1 tyX1_ok nmX1 hO.1 rfl (by decide) wd_40 rfl rfl (by decide +kernel) (Nat.le_of_ble_eq_true rfl) st_X1_5 dX1_copyFrom_60 rfl (fun w6 hw6 => ?_)
  refine y_aload_n (n := 64) C dX1_copyFrom_63 0 rfl rfl ?_
  refine y_aload_n (n := 65) C dX1_copyFrom_64 1 rfl rfl ?_
  refine y_get (ci := 1) (f := 6) (n := 68) C in_X1 hO1.1 rfl (by decide) wd_42 rfl rfl dX1_copyFrom_65 rfl ?_
  refine y_putI (ci := 1) (f := 6) (n := 71) C in_X1 tyX1 tyX1_ok nmX1 hO.1 rfl (by decide) wd_42 rfl rfl (by decide +kernel) (Nat.le_of_ble_eq_true rfl) st_X1_6 dX1_copyFrom_68 rfl (fun w7 hw7 => ?_)
  exact y_rv C hR dX1_copyFrom_71
theorem mX1_copyFrom {E : Ex} {o o1 : Nat} (hO : shO E.2.2.2.2.2.1 o) (hO1 : shO E.2.2.2.2.2.1 o1) (w : Wd)  (l : Launch) : MV l yX1_copyFrom cX1_copyFrom 2 none { frames := 2, cells := 0, slots := 0, locals := 69 } E [.ref (E.2.2.2.2.1 + o), .ref (E.2.2.2.2.1 + o1)] w (fX1_copyFrom w o o1) :=
  y_met (Qc := yQv E) (by decide +kernel) (Nat.le_of_ble_eq_true rfl) (fun g C hR => eX1_copyFrom C hR hO hO1 w ) l
def fX2_copyFrom (w : Wd) (o o1 : Nat)  : Option (Wd) :=
  (stZ w o 0 (bz (w.1 o1 0))).bind fun w1 =>
  (pI w1 o 1 (w1.1 o1 1)).bind fun w2 =>
  (stZ w2 o 2 (bz (w2.1 o1 2))).bind fun w3 =>
  (pI w3 o 3 (w3.1 o1 3)).bind fun w4 =>
  (pI w4 o 4 (w4.1 o1 4)).bind fun w5 =>
  (pI w5 o 5 (w5.1 o1 5)).bind fun w6 =>
  (pI w6 o 6 (w6.1 o1 6)).bind fun w7 =>
  (fX5_copyRow w7 (o1 + 1) 6 (o + 1) 6).bind fun w8 =>
  (fX5_copyRow w8 (o1 + 2) 6 (o + 2) 6).bind fun w9 =>
  (fX5_copyRow w9 (o1 + 3) 6 (o + 3) 6).bind fun w10 =>
  (fX5_copyRow w10 (o1 + 4) 6 (o + 4) 6).bind fun w11 =>
  (fX5_copyRow w11 (o1 + 5) 60 (o + 5) 60).bind fun w12 =>
  (fX5_copyRow w12 (o1 + 6) 60 (o + 6) 60).bind fun w13 =>
  (fX5_copyRow w13 (o1 + 7) 60 (o + 7) 60).bind fun w14 =>
  (fX5_copyRow w14 (o1 + 8) 60 (o + 8) 60).bind fun w15 =>
  (pI w15 o 15 (w15.1 o1 15)).bind fun w16 =>
  some w16
set_option maxRecDepth 4000 in
theorem eX2_copyFrom {g : Gx} {E : Ex} (C : CC g E cX2_copyFrom 2 RX2 2 69) (hR : RT g none) {o o1 : Nat} (hO : shR E.2.2.2.2.2.1 o) (hO1 : shR E.2.2.2.2.2.1 o1) (w : Wd)  : YO g E 2 (QV g E) (fX2_copyFrom w o o1) w 0 [(0, .ref (E.2.2.2.2.1 + o)), (1, .ref (E.2.2.2.2.1 + o1))] [] := by
  unfold fX2_copyFrom
  refine y_aload_n (n := 1) C dX2_copyFrom_0 0 rfl rfl ?_
  refine y_aload_n (n := 2) C dX2_copyFrom_1 1 rfl rfl ?_
  refine y_get (ci := 2) (f := 0) (n := 5) C in_X2 hO1.1 rfl (by decide) wd_67 rfl rfl dX2_copyFrom_2 rfl ?_
  refine y_putZ (ci := 2) (f := 0) (n := 8) C in_X2 tyX2 tyX2_ok nmX2 hO.1 rfl (by decide) wd_67 rfl rfl (by decide +kernel) (Nat.le_of_ble_eq_true rfl) st_X2_0 dX2_copyFrom_5 rfl (fun w1 hw1 => ?_)
  refine y_aload_n (n := 9) C dX2_copyFrom_8 0 rfl rfl ?_
  refine y_aload_n (n := 10) C dX2_copyFrom_9 1 rfl rfl ?_
  refine y_get (ci := 2) (f := 1) (n := 13) C in_X2 hO1.1 rfl (by decide) wd_69 rfl rfl dX2_copyFrom_10 rfl ?_
  refine y_putI (ci := 2) (f := 1) (n := 16) C in_X2 tyX2 tyX2_ok nmX2 hO.1 rfl (by decide) wd_69 rfl rfl (by decide +kernel) (Nat.le_of_ble_eq_true rfl) st_X2_1 dX2_copyFrom_13 rfl (fun w2 hw2 => ?_)
  refine y_aload_n (n := 17) C dX2_copyFrom_16 0 rfl rfl ?_
  refine y_aload_n (n := 18) C dX2_copyFrom_17 1 rfl rfl ?_
  refine y_get (ci := 2) (f := 2) (n := 21) C in_X2 hO1.1 rfl (by decide) wd_70 rfl rfl dX2_copyFrom_18 rfl ?_
  refine y_putZ (ci := 2) (f := 2) (n := 24) C in_X2 tyX2 tyX2_ok nmX2 hO.1 rfl (by decide) wd_70 rfl rfl (by decide +kernel) (Nat.le_of_ble_eq_true rfl) st_X2_2 dX2_copyFrom_21 rfl (fun w3 hw3 => ?_)
  refine y_aload_n (n := 25) C dX2_copyFrom_24 0 rfl rfl ?_
  refine y_aload_n (n := 26) C dX2_copyFrom_25 1 rfl rfl ?_
  refine y_get (ci := 2) (f := 3) (n := 29) C in_X2 hO1.1 rfl (by decide) wd_71 rfl rfl dX2_copyFrom_26 rfl ?_
  refine y_putI (ci := 2) (f := 3) (n := 32) C in_X2 tyX2 tyX2_ok nmX2 hO.1 rfl (by decide) wd_71 rfl rfl (by decide +kernel) (Nat.le_of_ble_eq_true rfl) st_X2_3 dX2_copyFrom_29 rfl (fun w4 hw4 => ?_)
  refine y_aload_n (n := 33) C dX2_copyFrom_32 0 rfl rfl ?_
  refine y_aload_n (n := 34) C dX2_copyFrom_33 1 rfl rfl ?_
  refine y_get (ci := 2) (f := 4) (n := 37) C in_X2 hO1.1 rfl (by decide) wd_72 rfl rfl dX2_copyFrom_34 rfl ?_
  refine y_putI (ci := 2) (f := 4) (n := 40) C in_X2 tyX2 tyX2_ok nmX2 hO.1 rfl (by decide) wd_72 rfl rfl (by decide +kernel) (Nat.le_of_ble_eq_true rfl) st_X2_4 dX2_copyFrom_37 rfl (fun w5 hw5 => ?_)
  refine y_aload_n (n := 41) C dX2_copyFrom_40 0 rfl rfl ?_
  refine y_aload_n (n := 42) C dX2_copyFrom_41 1 rfl rfl ?_
  refine y_get (ci := 2) (f := 5) (n := 45) C in_X2 hO1.1 rfl (by decide) wd_74 rfl rfl dX2_copyFrom_42 rfl ?_
  refine y_putI (ci := 2) (f := 5) (n := 48) C in_X2 tyX2 tyX2_ok nmX2 hO.1 rfl (by decide) wd_74 rfl rfl (by decide +kernel) (Nat.le_of_ble_eq_true rfl) st_X2_5 dX2_copyFrom_45 rfl (fun w6 hw6 => ?_)
  refine y_aload_n (n := 49) C dX2_copyFrom_48 0 rfl rfl ?_
  refine y_aload_n (n := 50) C dX2_copyFrom_49 1 rfl rfl ?_
  refine y_get (ci := 2) (f := 6) (n := 53) C in_X2 hO1.1 rfl (by decide) wd_76 rfl rfl dX2_copyFrom_50 rfl ?_
  refine y_putI (ci := 2) (f := 6) (n := 56) C in_X2 tyX2 tyX2_ok nmX2 hO.1 rfl (by decide) wd_76 rfl rfl (by decide +kernel) (Nat.le_of_ble_eq_true rfl) st_X2_6 dX2_copyFrom_53 rfl (fun w7 hw7 => ?_)
  refine y_aload_n (n := 57) C dX2_copyFrom_56 1 rfl rfl ?_
  refine y_get (ci := 2) (f := 7) (n := 60) C in_X2 hO1.1 rfl (by decide) wd_77 rfl rfl dX2_copyFrom_57 rfl ?_
  refine y_aload_n (n := 61) C dX2_copyFrom_60 0 rfl rfl ?_
  refine y_get (ci := 2) (f := 7) (n := 64) C in_X2 hO.1 rfl (by decide) wd_77 rfl rfl dX2_copyFrom_61 rfl ?_
  refine y_cv (n := 67) C (fun r hr H locs la hP hS hl => y_runSN (st := []) C ky_X5_copyRow wd_247 ⟨Nat.le_of_ble_eq_true rfl, Nat.le_of_ble_eq_true rfl⟩ (mX5_copyRow hO1.2.1 hO.2.1 w7 g.2.1 r hr) rfl (Nat.le_of_ble_eq_true rfl) rfl dX2_copyFrom_64 hP hS hl) rfl (fun w8 hw8 => ?_)
  refine y_aload_n (n := 68) C dX2_copyFrom_67 1 rfl rfl ?_
  refine y_get (ci := 2) (f := 8) (n := 71) C in_X2 hO1.1 rfl (by decide) wd_78 rfl rfl dX2_copyFrom_68 rfl ?_
  refine y_aload_n (n := 72) C dX2_copyFrom_71 0 rfl rfl ?_
  refine y_get (ci := 2) (f := 8) (n := 75) C in_X2 hO.1 rfl (by decide) wd_78 rfl rfl dX2_copyFrom_72 rfl ?_
  refine y_cv (n := 78) C (fun r hr H locs la hP hS hl => y_runSN (st := []) C ky_X5_copyRow wd_247 ⟨Nat.le_of_ble_eq_true rfl, Nat.le_of_ble_eq_true rfl⟩ (mX5_copyRow hO1.2.2.1 hO.2.2.1 w8 g.2.1 r hr) rfl (Nat.le_of_ble_eq_true rfl) rfl dX2_copyFrom_75 hP hS hl) rfl (fun w9 hw9 => ?_)
  refine y_aload_n (n := 79) C dX2_copyFrom_78 1 rfl rfl ?_
  refine y_get (ci := 2) (f := 9) (n := 82) C in_X2 hO1.1 rfl (by decide) wd_79 rfl rfl dX2_copyFrom_79 rfl ?_
  refine y_aload_n (n := 83) C dX2_copyFrom_82 0 rfl rfl ?_
  refine y_get (ci := 2) (f := 9) (n := 86) C in_X2 hO.1 rfl (by decide) wd_79 rfl rfl dX2_copyFrom_83 rfl ?_
  refine y_cv (n := 89) C (fun r hr H locs la hP hS hl => y_runSN (st := []) C ky_X5_copyRow wd_247 ⟨Nat.le_of_ble_eq_true rfl, Nat.le_of_ble_eq_true rfl⟩ (mX5_copyRow hO1.2.2.2.1 hO.2.2.2.1 w9 g.2.1 r hr) rfl (Nat.le_of_ble_eq_true rfl) rfl dX2_copyFrom_86 hP hS hl) rfl (fun w10 hw10 => ?_)
  refine y_aload_n (n := 90) C dX2_copyFrom_89 1 rfl rfl ?_
  refine y_get (ci := 2) (f := 10) (n := 93) C in_X2 hO1.1 rfl (by decide) wd_80 rfl rfl dX2_copyFrom_90 rfl ?_
  refine y_aload_n (n := 94) C dX2_copyFrom_93 0 rfl rfl ?_
  refine y_get (ci := 2) (f := 10) (n := 97) C in_X2 hO.1 rfl (by decide) wd_80 rfl rfl dX2_copyFrom_94 rfl ?_
  refine y_cv (n := 100) C (fun r hr H locs la hP hS hl => y_runSN (st := []) C ky_X5_copyRow wd_247 ⟨Nat.le_of_ble_eq_true rfl, Nat.le_of_ble_eq_true rfl⟩ (mX5_copyRow hO1.2.2.2.2.1 hO.2.2.2.2.1 w10 g.2.1 r hr) rfl (Nat.le_of_ble_eq_true rfl) rfl dX2_copyFrom_97 hP hS hl) rfl (fun w11 hw11 => ?_)
  refine y_aload_n (n := 101) C dX2_copyFrom_100 1 rfl rfl ?_
  refine y_get (ci := 2) (f := 11) (n := 104) C in_X2 hO1.1 rfl (by decide) wd_81 rfl rfl dX2_copyFrom_101 rfl ?_
  refine y_aload_n (n := 105) C dX2_copyFrom_104 0 rfl rfl ?_
  refine y_get (ci := 2) (f := 11) (n := 108) C in_X2 hO.1 rfl (by decide) wd_81 rfl rfl dX2_copyFrom_105 rfl ?_
  refine y_cv (n := 111) C (fun r hr H locs la hP hS hl => y_runSN (st := []) C ky_X5_copyRow wd_247 ⟨Nat.le_of_ble_eq_true rfl, Nat.le_of_ble_eq_true rfl⟩ (mX5_copyRow hO1.2.2.2.2.2.1 hO.2.2.2.2.2.1 w11 g.2.1 r hr) rfl (Nat.le_of_ble_eq_true rfl) rfl dX2_copyFrom_108 hP hS hl) rfl (fun w12 hw12 => ?_)
  refine y_aload_n (n := 112) C dX2_copyFrom_111 1 rfl rfl ?_
  refine y_get (ci := 2) (f := 12) (n := 115) C in_X2 hO1.1 rfl (by decide) wd_82 rfl rfl dX2_copyFrom_112 rfl ?_
  refine y_aload_n (n := 116) C dX2_copyFrom_115 0 rfl rfl ?_
  refine y_get (ci := 2) (f := 12) (n := 119) C in_X2 hO.1 rfl (by decide) wd_82 rfl rfl dX2_copyFrom_116 rfl ?_
  refine y_cv (n := 122) C (fun r hr H locs la hP hS hl => y_runSN (st := []) C ky_X5_copyRow wd_247 ⟨Nat.le_of_ble_eq_true rfl, Nat.le_of_ble_eq_true rfl⟩ (mX5_copyRow hO1.2.2.2.2.2.2.1 hO.2.2.2.2.2.2.1 w12 g.2.1 r hr) rfl (Nat.le_of_ble_eq_true rfl) rfl dX2_copyFrom_119 hP hS hl) rfl (fun w13 hw13 => ?_)
  refine y_aload_n (n := 123) C dX2_copyFrom_122 1 rfl rfl ?_
  refine y_get (ci := 2) (f := 13) (n := 126) C in_X2 hO1.1 rfl (by decide) wd_84 rfl rfl dX2_copyFrom_123 rfl ?_
  refine y_aload_n (n := 127) C dX2_copyFrom_126 0 rfl rfl ?_
  refine y_get (ci := 2) (f := 13) (n := 130) C in_X2 hO.1 rfl (by decide) wd_84 rfl rfl dX2_copyFrom_127 rfl ?_
  refine y_cv (n := 133) C (fun r hr H locs la hP hS hl => y_runSN (st := []) C ky_X5_copyRow wd_247 ⟨Nat.le_of_ble_eq_true rfl, Nat.le_of_ble_eq_true rfl⟩ (mX5_copyRow hO1.2.2.2.2.2.2.2.1 hO.2.2.2.2.2.2.2.1 w13 g.2.1 r hr) rfl (Nat.le_of_ble_eq_true rfl) rfl dX2_copyFrom_130 hP hS hl) rfl (fun w14 hw14 => ?_)
  refine y_aload_n (n := 134) C dX2_copyFrom_133 1 rfl rfl ?_
  refine y_get (ci := 2) (f := 14) (n := 137) C in_X2 hO1.1 rfl (by decide) wd_86 rfl rfl dX2_copyFrom_134 rfl ?_
  refine y_aload_n (n := 138) C dX2_copyFrom_137 0 rfl rfl ?_
  refine y_get (ci := 2) (f := 14) (n := 141) C in_X2 hO.1 rfl (by decide) wd_86 rfl rfl dX2_copyFrom_138 rfl ?_
  refine y_cv (n := 144) C (fun r hr H locs la hP hS hl => y_runSN (st := []) C ky_X5_copyRow wd_247 ⟨Nat.le_of_ble_eq_true rfl, Nat.le_of_ble_eq_true rfl⟩ (mX5_copyRow hO1.2.2.2.2.2.2.2.2 hO.2.2.2.2.2.2.2.2 w14 g.2.1 r hr) rfl (Nat.le_of_ble_eq_true rfl) rfl dX2_copyFrom_141 hP hS hl) rfl (fun w15 hw15 => ?_)
  refine y_aload_n (n := 145) C dX2_copyFrom_144 0 rfl rfl ?_
  refine y_aload_n (n := 146) C dX2_copyFrom_145 1 rfl rfl ?_
  refine y_get (ci := 2) (f := 15) (n := 149) C in_X2 hO1.1 rfl (by decide) wd_88 rfl rfl dX2_copyFrom_146 rfl ?_
  refine y_putI (ci := 2) (f := 15) (n := 152) C in_X2 tyX2 tyX2_ok nmX2 hO.1 rfl (by decide) wd_88 rfl rfl (by decide +kernel) (Nat.le_of_ble_eq_true rfl) st_X2_15 dX2_copyFrom_149 rfl (fun w16 hw16 => ?_)
  exact y_rv C hR dX2_copyFrom_152
theorem mX2_copyFrom {E : Ex} {o o1 : Nat} (hO : shR E.2.2.2.2.2.1 o) (hO1 : shR E.2.2.2.2.2.1 o1) (w : Wd)  (l : Launch) : MV l yX2_copyFrom cX2_copyFrom 2 none { frames := 2, cells := 0, slots := 0, locals := 69 } E [.ref (E.2.2.2.2.1 + o), .ref (E.2.2.2.2.1 + o1)] w (fX2_copyFrom w o o1) :=
  y_met (Qc := yQv E) (by decide +kernel) (Nat.le_of_ble_eq_true rfl) (fun g C hR => eX2_copyFrom C hR hO hO1 w ) l
def fX3_copyFrom (w : Wd) (o o1 : Nat)  : Option (Wd) :=
  (fX1_copyFrom w (o + 1) (o1 + 1)).bind fun w1 =>
  (fX2_copyFrom w1 (o + 7) (o1 + 7)).bind fun w2 =>
  (pI w2 o 2 (w2.1 o1 2)).bind fun w3 =>
  (pI w3 o 3 (w3.1 o1 3)).bind fun w4 =>
  some w4
set_option maxRecDepth 4000 in
theorem eX3_copyFrom {g : Gx} {E : Ex} (C : CC g E cX3_copyFrom 2 RX3 3 90) (hR : RT g none) {o o1 : Nat} (hO : shS E.2.2.2.2.2.1 o) (hO1 : shS E.2.2.2.2.2.1 o1) (w : Wd)  : YO g E 2 (QV g E) (fX3_copyFrom w o o1) w 0 [(0, .ref (E.2.2.2.2.1 + o)), (1, .ref (E.2.2.2.2.1 + o1))] [] := by
  unfold fX3_copyFrom
  refine y_aload_n (n := 1) C dX3_copyFrom_0 0 rfl rfl ?_
  refine y_get (ci := 3) (f := 0) (n := 4) C in_X3 hO.1 rfl (by decide) wd_123 rfl rfl dX3_copyFrom_1 rfl ?_
  refine y_aload_n (n := 5) C dX3_copyFrom_4 1 rfl rfl ?_
  refine y_get (ci := 3) (f := 0) (n := 8) C in_X3 hO1.1 rfl (by decide) wd_123 rfl rfl dX3_copyFrom_5 rfl ?_
  refine y_cv (n := 11) C (fun r hr H locs la hP hS hl => y_runVN (ci := 1) (st := []) C ky_X1_copyFrom wd_230 ⟨Nat.le_of_ble_eq_true rfl, Nat.le_of_ble_eq_true rfl⟩ hO.2.1.1 rfl (mX1_copyFrom hO.2.1 hO1.2.1 w g.2.1 r hr) rfl (Nat.le_of_ble_eq_true rfl) rfl dX3_copyFrom_8 hP hS hl) rfl (fun w1 hw1 => ?_)
  refine y_aload_n (n := 12) C dX3_copyFrom_11 0 rfl rfl ?_
  refine y_get (ci := 3) (f := 1) (n := 15) C in_X3 hO.1 rfl (by decide) wd_125 rfl rfl dX3_copyFrom_12 rfl ?_
  refine y_aload_n (n := 16) C dX3_copyFrom_15 1 rfl rfl ?_
  refine y_get (ci := 3) (f := 1) (n := 19) C in_X3 hO1.1 rfl (by decide) wd_125 rfl rfl dX3_copyFrom_16 rfl ?_
  refine y_cv (n := 22) C (fun r hr H locs la hP hS hl => y_runVN (ci := 2) (st := []) C ky_X2_copyFrom wd_243 ⟨Nat.le_of_ble_eq_true rfl, Nat.le_of_ble_eq_true rfl⟩ hO.2.2.1 rfl (mX2_copyFrom hO.2.2 hO1.2.2 w1 g.2.1 r hr) rfl (Nat.le_of_ble_eq_true rfl) rfl dX3_copyFrom_19 hP hS hl) rfl (fun w2 hw2 => ?_)
  refine y_aload_n (n := 23) C dX3_copyFrom_22 0 rfl rfl ?_
  refine y_aload_n (n := 24) C dX3_copyFrom_23 1 rfl rfl ?_
  refine y_get (ci := 3) (f := 2) (n := 27) C in_X3 hO1.1 rfl (by decide) wd_127 rfl rfl dX3_copyFrom_24 rfl ?_
  refine y_putI (ci := 3) (f := 2) (n := 30) C in_X3 tyX3 tyX3_ok nmX3 hO.1 rfl (by decide) wd_127 rfl rfl (by decide +kernel) (Nat.le_of_ble_eq_true rfl) st_X3_2 dX3_copyFrom_27 rfl (fun w3 hw3 => ?_)
  refine y_aload_n (n := 31) C dX3_copyFrom_30 0 rfl rfl ?_
  refine y_aload_n (n := 32) C dX3_copyFrom_31 1 rfl rfl ?_
  refine y_get (ci := 3) (f := 3) (n := 35) C in_X3 hO1.1 rfl (by decide) wd_129 rfl rfl dX3_copyFrom_32 rfl ?_
  refine y_putI (ci := 3) (f := 3) (n := 38) C in_X3 tyX3 tyX3_ok nmX3 hO.1 rfl (by decide) wd_129 rfl rfl (by decide +kernel) (Nat.le_of_ble_eq_true rfl) st_X3_3 dX3_copyFrom_35 rfl (fun w4 hw4 => ?_)
  exact y_rv C hR dX3_copyFrom_38
theorem mX3_copyFrom {E : Ex} {o o1 : Nat} (hO : shS E.2.2.2.2.2.1 o) (hO1 : shS E.2.2.2.2.2.1 o1) (w : Wd)  (l : Launch) : MV l yX3_copyFrom cX3_copyFrom 2 none { frames := 3, cells := 0, slots := 0, locals := 90 } E [.ref (E.2.2.2.2.1 + o), .ref (E.2.2.2.2.1 + o1)] w (fX3_copyFrom w o o1) :=
  y_met (Qc := yQv E) (by decide +kernel) (Nat.le_of_ble_eq_true rfl) (fun g C hR => eX3_copyFrom C hR hO hO1 w ) l
def fX0_record (y : Ly) (w : Wd) (o o1 : Nat)  : Option (Wd) :=
  if (w.1 o 1) < 4 then
    (fX0_stateAt w o (w.1 o 1)).bind fun q => q.elim (
      some w
    ) (fun r2 =>
      gd (shS y r2) <|
      (fX3_copyFrom w r2 o1).bind fun w4 =>
      (pI w4 o 1 ((w4.1 o 1) + 1)).bind fun w5 =>
      some w5
    )
  else
    (fX0_moveOldestToEnd y w o).bind fun w6 =>
    (pI w6 o 1 3).bind fun w7 =>
    (fX0_stateAt w7 o (w7.1 o 1)).bind fun q => q.elim (
      some w7
    ) (fun r8 =>
      gd (shS y r8) <|
      (fX3_copyFrom w7 r8 o1).bind fun w10 =>
      (pI w10 o 1 ((w10.1 o 1) + 1)).bind fun w11 =>
      some w11
    )
set_option maxRecDepth 4000 in
theorem eX0_record {g : Gx} {E : Ex} (C : CC g E cX0_record 3 RX0 4 111) (hR : RT g none) {o o1 : Nat} (hO : shH E.2.2.2.2.2.1 o) (hO1 : shS E.2.2.2.2.2.1 o1) (w : Wd)  : YO g E 3 (QV g E) (fX0_record E.2.2.2.2.2.1 w o o1) w 0 [(0, .ref (E.2.2.2.2.1 + o)), (1, .ref (E.2.2.2.2.1 + o1))] [] := by
  unfold fX0_record
  refine y_aload_n (n := 1) C dX0_record_0 0 rfl rfl ?_
  refine y_get (ci := 0) (f := 1) (n := 4) C in_X0 hO.1 rfl (by decide) wd_150 rfl rfl dX0_record_1 rfl ?_
  refine y_iconst (n := 5) C (4 : Int32) dX0_record_4 (by decide) rfl ?_
  refine y_icmp_lt (tgt := 17) (n := 8) C dX0_record_5 (by decide) rfl (fun h1 => ?_) (fun h1 => ?_)
  · refine y_aload_n (n := 18) C dX0_record_17 0 rfl rfl ?_
    refine y_aload_n (n := 19) C dX0_record_18 0 rfl rfl ?_
    refine y_get (ci := 0) (f := 1) (n := 22) C in_X0 hO.1 rfl (by decide) wd_150 rfl rfl dX0_record_19 rfl ?_
    refine y_cq (n := 25) C (fun r hr H locs la hP hS hl => y_runV (ci := 0) (st := []) C ky_X0_stateAt wd_222 ⟨Nat.le_of_ble_eq_true rfl, Nat.le_of_ble_eq_true rfl⟩ hO.1 rfl (mX0_stateAt hO w (w.1 o 1) g.2.1 r hr) rfl (Nat.le_of_ble_eq_true rfl) rfl dX0_record_22 hP hS hl) rfl (fun hr2 => ?_) (fun r2 hr2 => ?_)
    · refine y_astore_nN (n := 26) (ls' := [(2, .null), (0, .ref (E.2.2.2.2.1 + o)), (1, .ref (E.2.2.2.2.1 + o1))]) C dX0_record_25 (by decide) rfl rfl ?_
      refine y_aload_nN (n := 27) C dX0_record_26 0 rfl rfl ?_
      refine y_ifnullN (tgt := 45) C dX0_record_27 (by decide) ?_
      exact y_rv C hR dX0_record_45
    · refine y_astore_n (n := 26) (ls' := [(2, .ref (E.2.2.2.2.1 + r2)), (0, .ref (E.2.2.2.2.1 + o)), (1, .ref (E.2.2.2.2.1 + o1))]) C dX0_record_25 (by decide) rfl rfl ?_
      refine y_aload_n (n := 27) C dX0_record_26 0 rfl rfl ?_
      refine y_ifnull (n := 30) C dX0_record_27 rfl ?_
      refine y_aload_n (n := 31) C dX0_record_30 0 rfl rfl ?_
      refine y_aload_n (n := 32) C dX0_record_31 2 rfl rfl ?_
      refine y_gd2 (fun g3 => ?_)
      refine y_cv (n := 35) C (fun r hr H locs la hP hS hl => y_runVN (ci := 3) (st := []) C ky_X3_copyFrom wd_226 ⟨Nat.le_of_ble_eq_true rfl, Nat.le_of_ble_eq_true rfl⟩ g3.1 rfl (mX3_copyFrom g3 hO1 w g.2.1 r hr) rfl (Nat.le_of_ble_eq_true rfl) rfl dX0_record_32 hP hS hl) rfl (fun w4 hw4 => ?_)
      refine y_aload_n (n := 36) C dX0_record_35 1 rfl rfl ?_
      refine y_dup (n := 37) C dX0_record_36 rfl rfl ?_
      refine y_get (ci := 0) (f := 1) (n := 40) C in_X0 hO.1 rfl (by decide) wd_150 rfl rfl dX0_record_37 rfl ?_
      refine y_iconst (n := 41) C (1 : Int32) dX0_record_40 (by decide) rfl ?_
      refine y_iadd (n := 42) C dX0_record_41 rfl ?_
      refine y_putI (ci := 0) (f := 1) (n := 45) C in_X0 tyX0 tyX0_ok nmX0 hO.1 rfl (by decide) wd_150 rfl rfl (by decide +kernel) (Nat.le_of_ble_eq_true rfl) st_X0_1 dX0_record_42 rfl (fun w5 hw5 => ?_)
      exact y_rv C hR dX0_record_45
  · refine y_aload_n (n := 9) C dX0_record_8 0 rfl rfl ?_
    refine y_cv (n := 12) C (fun r hr H locs la hP hS hl => y_runV (ci := 0) (st := []) C ky_X0_moveOldestToEnd wd_218 ⟨Nat.le_of_ble_eq_true rfl, Nat.le_of_ble_eq_true rfl⟩ hO.1 rfl (mX0_moveOldestToEnd hO w g.2.1 r hr) rfl (Nat.le_of_ble_eq_true rfl) rfl dX0_record_9 hP hS hl) rfl (fun w6 hw6 => ?_)
    refine y_aload_n (n := 13) C dX0_record_12 0 rfl rfl ?_
    refine y_iconst (n := 14) C (3 : Int32) dX0_record_13 (by decide) rfl ?_
    refine y_putI (ci := 0) (f := 1) (n := 17) C in_X0 tyX0 tyX0_ok nmX0 hO.1 rfl (by decide) wd_150 rfl rfl (by decide +kernel) (Nat.le_of_ble_eq_true rfl) st_X0_1 dX0_record_14 rfl (fun w7 hw7 => ?_)
    refine y_aload_n (n := 18) C dX0_record_17 0 rfl rfl ?_
    refine y_aload_n (n := 19) C dX0_record_18 0 rfl rfl ?_
    refine y_get (ci := 0) (f := 1) (n := 22) C in_X0 hO.1 rfl (by decide) wd_150 rfl rfl dX0_record_19 rfl ?_
    refine y_cq (n := 25) C (fun r hr H locs la hP hS hl => y_runV (ci := 0) (st := []) C ky_X0_stateAt wd_222 ⟨Nat.le_of_ble_eq_true rfl, Nat.le_of_ble_eq_true rfl⟩ hO.1 rfl (mX0_stateAt hO w7 (w7.1 o 1) g.2.1 r hr) rfl (Nat.le_of_ble_eq_true rfl) rfl dX0_record_22 hP hS hl) rfl (fun hr8 => ?_) (fun r8 hr8 => ?_)
    · refine y_astore_nN (n := 26) (ls' := [(2, .null), (0, .ref (E.2.2.2.2.1 + o)), (1, .ref (E.2.2.2.2.1 + o1))]) C dX0_record_25 (by decide) rfl rfl ?_
      refine y_aload_nN (n := 27) C dX0_record_26 0 rfl rfl ?_
      refine y_ifnullN (tgt := 45) C dX0_record_27 (by decide) ?_
      exact y_rv C hR dX0_record_45
    · refine y_astore_n (n := 26) (ls' := [(2, .ref (E.2.2.2.2.1 + r8)), (0, .ref (E.2.2.2.2.1 + o)), (1, .ref (E.2.2.2.2.1 + o1))]) C dX0_record_25 (by decide) rfl rfl ?_
      refine y_aload_n (n := 27) C dX0_record_26 0 rfl rfl ?_
      refine y_ifnull (n := 30) C dX0_record_27 rfl ?_
      refine y_aload_n (n := 31) C dX0_record_30 0 rfl rfl ?_
      refine y_aload_n (n := 32) C dX0_record_31 2 rfl rfl ?_
      refine y_gd2 (fun g9 => ?_)
      refine y_cv (n := 35) C (fun r hr H locs la hP hS hl => y_runVN (ci := 3) (st := []) C ky_X3_copyFrom wd_226 ⟨Nat.le_of_ble_eq_true rfl, Nat.le_of_ble_eq_true rfl⟩ g9.1 rfl (mX3_copyFrom g9 hO1 w7 g.2.1 r hr) rfl (Nat.le_of_ble_eq_true rfl) rfl dX0_record_32 hP hS hl) rfl (fun w10 hw10 => ?_)
      refine y_aload_n (n := 36) C dX0_record_35 1 rfl rfl ?_
      refine y_dup (n := 37) C dX0_record_36 rfl rfl ?_
      refine y_get (ci := 0) (f := 1) (n := 40) C in_X0 hO.1 rfl (by decide) wd_150 rfl rfl dX0_record_37 rfl ?_
      refine y_iconst (n := 41) C (1 : Int32) dX0_record_40 (by decide) rfl ?_
      refine y_iadd (n := 42) C dX0_record_41 rfl ?_
      refine y_putI (ci := 0) (f := 1) (n := 45) C in_X0 tyX0 tyX0_ok nmX0 hO.1 rfl (by decide) wd_150 rfl rfl (by decide +kernel) (Nat.le_of_ble_eq_true rfl) st_X0_1 dX0_record_42 rfl (fun w11 hw11 => ?_)
      exact y_rv C hR dX0_record_45
theorem mX0_record {E : Ex} {o o1 : Nat} (hO : shH E.2.2.2.2.2.1 o) (hO1 : shS E.2.2.2.2.2.1 o1) (w : Wd)  (l : Launch) : MV l yX0_record cX0_record 3 none { frames := 4, cells := 0, slots := 0, locals := 111 } E [.ref (E.2.2.2.2.1 + o), .ref (E.2.2.2.2.1 + o1)] w (fX0_record E.2.2.2.2.2.1 w o o1) :=
  y_met (Qc := yQv E) (by decide +kernel) (Nat.le_of_ble_eq_true rfl) (fun g C hR => eX0_record C hR hO hO1 w ) l
def fX5_at (w : Wd) (k1 q1 : Nat) (a2 : Int32) : Option (Int32) :=
  if a2 < 0 then
    some 0
  else
    if (nI q1) ≤ a2 then
      some 0
    else
      (ldI q1 w k1 a2).bind fun v3 =>
      some v3
set_option maxRecDepth 4000 in
theorem eX5_at {g : Gx} {E : Ex} (C : CC g E cX5_at 2 RX5 0 0) (hR : RT g (some .int)) {k1 q1 : Nat} (hk1 : E.2.2.2.2.2.1[k1]? = some (0, q1)) (w : Wd) (a2 : Int32) : YO g E 2 (QP g E w) (fX5_at w k1 q1 a2) w 0 [(0, .ref (E.2.2.2.2.1 + k1)), (1, .int a2)] [] := by
  unfold fX5_at
  refine y_iload_n (n := 1) C dX5_at_0 1 rfl rfl ?_
  refine y_if_lt (tgt := 16) (n := 4) C dX5_at_1 (by decide) rfl (fun h1 => ?_) (fun h1 => ?_)
  · refine y_iconst (n := 17) C (0 : Int32) dX5_at_16 (by decide) rfl ?_
    exact y_rp C hR dX5_at_17
  · refine y_iload_n (n := 5) C dX5_at_4 1 rfl rfl ?_
    refine y_aload_n (n := 6) C dX5_at_5 0 rfl rfl ?_
    refine y_alen (n := 7) C hk1 dX5_at_6 rfl ?_
    refine y_icmp_ge (tgt := 16) (n := 10) C dX5_at_7 (by decide) rfl (fun h2 => ?_) (fun h2 => ?_)
    · refine y_iconst (n := 17) C (0 : Int32) dX5_at_16 (by decide) rfl ?_
      exact y_rp C hR dX5_at_17
    · refine y_aload_n (n := 11) C dX5_at_10 0 rfl rfl ?_
      refine y_iload_n (n := 12) C dX5_at_11 1 rfl rfl ?_
      refine y_iald (n := 13) C hk1 dX5_at_12 rfl (fun v3 hv3 => ?_)
      refine y_goto (tgt := 17) C dX5_at_13 (by decide) ?_
      exact y_rp C hR dX5_at_17
theorem mX5_at {E : Ex} {k1 q1 : Nat} (hk1 : E.2.2.2.2.2.1[k1]? = some (0, q1)) (w : Wd) (a2 : Int32) (l : Launch) : MP l yX5_at cX5_at 2 (some .int) { frames := 0, cells := 0, slots := 0, locals := 0 } E [.ref (E.2.2.2.2.1 + k1), .int a2] w (fX5_at w k1 q1 a2) :=
  y_met (Qc := fun r => yQi E (r, w)) (by decide +kernel) (Nat.le_of_ble_eq_true rfl) (fun g C hR => eX5_at C hR hk1 w a2) l
def fX5_oneIf (w : Wd) (a1 : Int32) : Option (Int32) :=
  if a1 = 0 then
    some 0
  else
    some 1
set_option maxRecDepth 4000 in
theorem eX5_oneIf {g : Gx} {E : Ex} (C : CC g E cX5_oneIf 1 RX5 0 0) (hR : RT g (some .int))  (w : Wd) (a1 : Int32) : YO g E 1 (QP g E w) (fX5_oneIf w a1) w 0 [(0, .int a1)] [] := by
  unfold fX5_oneIf
  refine y_iload_n (n := 1) C dX5_oneIf_0 0 rfl rfl ?_
  refine y_if_eq (tgt := 8) (n := 4) C dX5_oneIf_1 (by decide) rfl (fun h1 => ?_) (fun h1 => ?_)
  · refine y_iconst (n := 9) C (0 : Int32) dX5_oneIf_8 (by decide) rfl ?_
    exact y_rp C hR dX5_oneIf_9
  · refine y_iconst (n := 5) C (1 : Int32) dX5_oneIf_4 (by decide) rfl ?_
    refine y_goto (tgt := 9) C dX5_oneIf_5 (by decide) ?_
    exact y_rp C hR dX5_oneIf_9
theorem mX5_oneIf {E : Ex}  (w : Wd) (a1 : Int32) (l : Launch) : MP l yX5_oneIf cX5_oneIf 1 (some .int) { frames := 0, cells := 0, slots := 0, locals := 0 } E [.int a1] w (fX5_oneIf w a1) :=
  y_met (Qc := fun r => yQi E (r, w)) (by decide +kernel) (Nat.le_of_ble_eq_true rfl) (fun g C hR => eX5_oneIf C hR  w a1) l
def fX1_documentAt (w : Wd) (o : Nat) (a1 : Int32) (a2 : Int32) : Option (Int32) :=
  (fX5_at w (o + 2) 240 ((a1 * 40) + a2)).bind fun v1 =>
  some v1
set_option maxRecDepth 4000 in
theorem eX1_documentAt {g : Gx} {E : Ex} (C : CC g E cX1_documentAt 3 RX1 1 21) (hR : RT g (some .int)) {o : Nat} (hO : shO E.2.2.2.2.2.1 o) (w : Wd) (a1 : Int32) (a2 : Int32) : YO g E 3 (QP g E w) (fX1_documentAt w o a1 a2) w 0 [(0, .ref (E.2.2.2.2.1 + o)), (1, .int a1), (2, .int a2)] [] := by
  unfold fX1_documentAt
  refine y_aload_n (n := 1) C dX1_documentAt_0 0 rfl rfl ?_
  refine y_get (ci := 1) (f := 1) (n := 4) C in_X1 hO.1 rfl (by decide) wd_33 rfl rfl dX1_documentAt_1 rfl ?_
  refine y_iload_n (n := 5) C dX1_documentAt_4 1 rfl rfl ?_
  refine y_bipush (n := 7) C (40 : Int32) dX1_documentAt_5 (by decide) rfl ?_
  refine y_imul (n := 8) C dX1_documentAt_7 rfl ?_
  refine y_iload_n (n := 9) C dX1_documentAt_8 2 rfl rfl ?_
  refine y_iadd (n := 10) C dX1_documentAt_9 rfl ?_
  refine y_cp (n := 13) C (fun r hr H locs la hP hS hl => y_runSN (st := []) C ky_X5_at wd_257 ⟨Nat.le_of_ble_eq_true rfl, Nat.le_of_ble_eq_true rfl⟩ (mX5_at hO.2.2.1 w ((a1 * 40) + a2) g.2.1 r hr) rfl (Nat.le_of_ble_eq_true rfl) rfl dX1_documentAt_10 hP hS hl) rfl (fun v1 hv1 => ?_)
  exact y_rp C hR dX1_documentAt_13
theorem mX1_documentAt {E : Ex} {o : Nat} (hO : shO E.2.2.2.2.2.1 o) (w : Wd) (a1 : Int32) (a2 : Int32) (l : Launch) : MP l yX1_documentAt cX1_documentAt 3 (some .int) { frames := 1, cells := 0, slots := 0, locals := 21 } E [.ref (E.2.2.2.2.1 + o), .int a1, .int a2] w (fX1_documentAt w o a1 a2) :=
  y_met (Qc := fun r => yQi E (r, w)) (by decide +kernel) (Nat.le_of_ble_eq_true rfl) (fun g C hR => eX1_documentAt C hR hO w a1 a2) l
def fX1_isDeleted (w : Wd) (o : Nat) (a1 : Int32) : Option (Int32) :=
  if (lg_cmp (((w.2.1 o) >>> (Int32.toInt64 a1 &&& 63)) &&& 1) 1) = 0 then
    rtZ 1
  else
    rtZ 0
set_option maxRecDepth 4000 in
theorem eX1_isDeleted {g : Gx} {E : Ex} (C : CC g E cX1_isDeleted 2 RX1 0 0) (hR : RT g (some .boolean)) {o : Nat} (hO : shO E.2.2.2.2.2.1 o) (w : Wd) (a1 : Int32) : YO g E 2 (QP g E w) (fX1_isDeleted w o a1) w 0 [(0, .ref (E.2.2.2.2.1 + o)), (1, .int a1)] [] := by
  unfold fX1_isDeleted
  refine y_aload_n (n := 1) C dX1_isDeleted_0 0 rfl rfl ?_
  refine y_get (ci := 1) (f := 5) (n := 4) C in_X1 hO.1 rfl (by decide) wd_40 rfl rfl dX1_isDeleted_1 rfl ?_
  refine y_iload_n (n := 5) C dX1_isDeleted_4 1 rfl rfl ?_
  refine y_lshr (n := 6) C dX1_isDeleted_5 rfl ?_
  refine y_lconst (n := 7) C (1 : Int64) dX1_isDeleted_6 (by decide) rfl ?_
  refine y_land (n := 8) C dX1_isDeleted_7 rfl ?_
  refine y_lconst (n := 9) C (1 : Int64) dX1_isDeleted_8 (by decide) rfl ?_
  refine y_lcmp (n := 10) C dX1_isDeleted_9 rfl ?_
  refine y_if_ne (tgt := 17) (n := 13) C dX1_isDeleted_10 (by decide) rfl (fun h1 => ?_) (fun h1 => ?_)
  · refine y_iconst (n := 18) C (0 : Int32) dX1_isDeleted_17 (by decide) rfl ?_
    exact y_rz C hR dX1_isDeleted_18
  · refine y_iconst (n := 14) C (1 : Int32) dX1_isDeleted_13 (by decide) rfl ?_
    refine y_goto (tgt := 18) C dX1_isDeleted_14 (by decide) ?_
    exact y_rz C hR dX1_isDeleted_18
theorem mX1_isDeleted {E : Ex} {o : Nat} (hO : shO E.2.2.2.2.2.1 o) (w : Wd) (a1 : Int32) (l : Launch) : MP l yX1_isDeleted cX1_isDeleted 2 (some .boolean) { frames := 0, cells := 0, slots := 0, locals := 0 } E [.ref (E.2.2.2.2.1 + o), .int a1] w (fX1_isDeleted w o a1) :=
  y_met (Qc := fun r => yQi E (r, w)) (by decide +kernel) (Nat.le_of_ble_eq_true rfl) (fun g C hR => eX1_isDeleted C hR hO w a1) l
def lX1_deletedIn_14 (o : Nat) : Nat → Wd → Int32 → Int32 → Int32 → Int32 → Option (Int32)
  | 0, _, _, _, _, _ => none
  | n + 1, w, x1, x2, x3, x4 =>
    if x3 ≤ x4 then
      some x2
    else
      (fX1_documentAt w o x1 x4).bind fun v3 =>
      (fX1_isDeleted w o v3).bind fun v4 =>
      (fX5_oneIf w v4).bind fun v5 =>
      lX1_deletedIn_14 o n w x1 (x2 + v5) x3 (x4 + 1)
set_option maxRecDepth 4000 in
theorem clX1_deletedIn_14 {g : Gx} {E : Ex} (C : CC g E cX1_deletedIn 5 RX1 2 43) (hR : RT g (some .int)) {o : Nat} (hO : shO E.2.2.2.2.2.1 o) (w : Wd)  : ∀ (n : Nat) (x1 : Int32) (x2 : Int32) (x3 : Int32) (x4 : Int32), YO g E 5 (QP g E w) (lX1_deletedIn_14 o n w x1 x2 x3 x4) w 14 [(0, .ref (E.2.2.2.2.1 + o)), (1, .int x1), (2, .int x2), (3, .int x3), (4, .int x4)] [] := by
  intro n
  induction n with
  | zero => intro x1 x2 x3 x4; exact y_no
  | succ n ih =>
    intro x1 x2 x3 x4
    rw [lX1_deletedIn_14]
    refine y_iload (n := 16) C dX1_deletedIn_14 4 rfl rfl ?_
    refine y_iload_n (n := 17) C dX1_deletedIn_16 3 rfl rfl ?_
    refine y_icmp_ge (tgt := 43) (n := 20) C dX1_deletedIn_17 (by decide) rfl (fun h2 => ?_) (fun h2 => ?_)
    · refine y_iload_n (n := 44) C dX1_deletedIn_43 2 rfl rfl ?_
      exact y_rp C hR dX1_deletedIn_44
    · refine y_iload_n (n := 21) C dX1_deletedIn_20 2 rfl rfl ?_
      refine y_aload_n (n := 22) C dX1_deletedIn_21 0 rfl rfl ?_
      refine y_aload_n (n := 23) C dX1_deletedIn_22 0 rfl rfl ?_
      refine y_iload_n (n := 24) C dX1_deletedIn_23 1 rfl rfl ?_
      refine y_iload (n := 26) C dX1_deletedIn_24 4 rfl rfl ?_
      refine y_cp (n := 29) C (fun r hr H locs la hP hS hl => y_runV (ci := 1) (st := [.ref (E.2.2.2.2.1 + o), .int x2]) C ky_X1_documentAt wd_319 ⟨Nat.le_of_ble_eq_true rfl, Nat.le_of_ble_eq_true rfl⟩ hO.1 rfl (mX1_documentAt hO w x1 x4 g.2.1 r hr) rfl (Nat.le_of_ble_eq_true rfl) rfl dX1_deletedIn_26 hP hS hl) rfl (fun v3 hv3 => ?_)
      refine y_cp (n := 32) C (fun r hr H locs la hP hS hl => y_runV (ci := 1) (st := [.int x2]) C ky_X1_isDeleted wd_377 ⟨Nat.le_of_ble_eq_true rfl, Nat.le_of_ble_eq_true rfl⟩ hO.1 rfl (mX1_isDeleted hO w v3 g.2.1 r hr) rfl (Nat.le_of_ble_eq_true rfl) rfl dX1_deletedIn_29 hP hS hl) rfl (fun v4 hv4 => ?_)
      refine y_cp (n := 35) C (fun r hr H locs la hP hS hl => y_runSN (st := [.int x2]) C ky_X5_oneIf wd_260 ⟨Nat.le_of_ble_eq_true rfl, Nat.le_of_ble_eq_true rfl⟩ (mX5_oneIf w v4 g.2.1 r hr) rfl (Nat.le_of_ble_eq_true rfl) rfl dX1_deletedIn_32 hP hS hl) rfl (fun v5 hv5 => ?_)
      refine y_iadd (n := 36) C dX1_deletedIn_35 rfl ?_
      refine y_istore_n (n := 37) (ls' := [(2, .int (x2 + v5)), (0, .ref (E.2.2.2.2.1 + o)), (1, .int x1), (3, .int x3), (4, .int x4)]) C dX1_deletedIn_36 (by decide) rfl rfl ?_
      refine y_iinc (n := 40) (v := x4 + 1) (ls' := [(4, .int (x4 + 1)), (2, .int (x2 + v5)), (0, .ref (E.2.2.2.2.1 + o)), (1, .int x1), (3, .int x3)]) C dX1_deletedIn_37 4 rfl rfl (by decide) rfl rfl ?_
      refine y_goto (tgt := 14) C dX1_deletedIn_40 (by decide) ?_
      refine y_ls [2, 3, 1, 4, 0] rfl ?_
      exact ih x1 (x2 + v5) x3 (x4 + 1)
def fX1_deletedIn (w : Wd) (o : Nat) (a1 : Int32) : Option (Int32) :=
  (fX5_at w (o + 3) 6 a1).bind fun v1 =>
  lX1_deletedIn_14 o 4096 w a1 0 v1 0
set_option maxRecDepth 4000 in
theorem eX1_deletedIn {g : Gx} {E : Ex} (C : CC g E cX1_deletedIn 5 RX1 2 43) (hR : RT g (some .int)) {o : Nat} (hO : shO E.2.2.2.2.2.1 o) (w : Wd) (a1 : Int32) : YO g E 5 (QP g E w) (fX1_deletedIn w o a1) w 0 [(0, .ref (E.2.2.2.2.1 + o)), (1, .int a1)] [] := by
  unfold fX1_deletedIn
  refine y_iconst (n := 1) C (0 : Int32) dX1_deletedIn_0 (by decide) rfl ?_
  refine y_istore_n (n := 2) (ls' := [(2, .int 0), (0, .ref (E.2.2.2.2.1 + o)), (1, .int a1)]) C dX1_deletedIn_1 (by decide) rfl rfl ?_
  refine y_aload_n (n := 3) C dX1_deletedIn_2 1 rfl rfl ?_
  refine y_get (ci := 1) (f := 2) (n := 6) C in_X1 hO.1 rfl (by decide) wd_34 rfl rfl dX1_deletedIn_3 rfl ?_
  refine y_iload_n (n := 7) C dX1_deletedIn_6 2 rfl rfl ?_
  refine y_cp (n := 10) C (fun r hr H locs la hP hS hl => y_runSN (st := []) C ky_X5_at wd_257 ⟨Nat.le_of_ble_eq_true rfl, Nat.le_of_ble_eq_true rfl⟩ (mX5_at hO.2.2.2.1 w a1 g.2.1 r hr) rfl (Nat.le_of_ble_eq_true rfl) rfl dX1_deletedIn_7 hP hS hl) rfl (fun v1 hv1 => ?_)
  refine y_istore_n (n := 11) (ls' := [(3, .int v1), (2, .int 0), (0, .ref (E.2.2.2.2.1 + o)), (1, .int a1)]) C dX1_deletedIn_10 (by decide) rfl rfl ?_
  refine y_iconst (n := 12) C (0 : Int32) dX1_deletedIn_11 (by decide) rfl ?_
  refine y_istore (n := 14) (ls' := [(4, .int 0), (3, .int v1), (2, .int 0), (0, .ref (E.2.2.2.2.1 + o)), (1, .int a1)]) C dX1_deletedIn_12 (by decide) rfl rfl ?_
  refine y_ls [3, 4, 2, 1, 0] rfl ?_
  exact clX1_deletedIn_14 C hR hO w 4096 a1 0 v1 0
theorem mX1_deletedIn {E : Ex} {o : Nat} (hO : shO E.2.2.2.2.2.1 o) (w : Wd) (a1 : Int32) (l : Launch) : MP l yX1_deletedIn cX1_deletedIn 5 (some .int) { frames := 2, cells := 0, slots := 0, locals := 43 } E [.ref (E.2.2.2.2.1 + o), .int a1] w (fX1_deletedIn w o a1) :=
  y_met (Qc := fun r => yQi E (r, w)) (by decide +kernel) (Nat.le_of_ble_eq_true rfl) (fun g C hR => eX1_deletedIn C hR hO w a1) l
def lX1_entries_4 (o : Nat) : Nat → Wd → Int32 → Int32 → Option (Int32)
  | 0, _, _, _ => none
  | n + 1, w, x1, x2 =>
    if 6 ≤ x2 then
      some x1
    else
      (fX5_at w (o + 3) 6 x2).bind fun v2 =>
      lX1_entries_4 o n w (x1 + v2) (x2 + 1)
set_option maxRecDepth 4000 in
theorem clX1_entries_4 {g : Gx} {E : Ex} (C : CC g E cX1_entries 3 RX1 1 21) (hR : RT g (some .int)) {o : Nat} (hO : shO E.2.2.2.2.2.1 o) (w : Wd)  : ∀ (n : Nat) (x1 : Int32) (x2 : Int32), YO g E 3 (QP g E w) (lX1_entries_4 o n w x1 x2) w 4 [(0, .ref (E.2.2.2.2.1 + o)), (1, .int x1), (2, .int x2)] [] := by
  intro n
  induction n with
  | zero => intro x1 x2; exact y_no
  | succ n ih =>
    intro x1 x2
    rw [lX1_entries_4]
    refine y_iload_n (n := 5) C dX1_entries_4 2 rfl rfl ?_
    refine y_bipush (n := 7) C (6 : Int32) dX1_entries_5 (by decide) rfl ?_
    refine y_icmp_ge (tgt := 27) (n := 10) C dX1_entries_7 (by decide) rfl (fun h1 => ?_) (fun h1 => ?_)
    · refine y_iload_n (n := 28) C dX1_entries_27 1 rfl rfl ?_
      exact y_rp C hR dX1_entries_28
    · refine y_iload_n (n := 11) C dX1_entries_10 1 rfl rfl ?_
      refine y_aload_n (n := 12) C dX1_entries_11 0 rfl rfl ?_
      refine y_get (ci := 1) (f := 2) (n := 15) C in_X1 hO.1 rfl (by decide) wd_34 rfl rfl dX1_entries_12 rfl ?_
      refine y_iload_n (n := 16) C dX1_entries_15 2 rfl rfl ?_
      refine y_cp (n := 19) C (fun r hr H locs la hP hS hl => y_runSN (st := [.int x1]) C ky_X5_at wd_257 ⟨Nat.le_of_ble_eq_true rfl, Nat.le_of_ble_eq_true rfl⟩ (mX5_at hO.2.2.2.1 w x2 g.2.1 r hr) rfl (Nat.le_of_ble_eq_true rfl) rfl dX1_entries_16 hP hS hl) rfl (fun v2 hv2 => ?_)
      refine y_iadd (n := 20) C dX1_entries_19 rfl ?_
      refine y_istore_n (n := 21) (ls' := [(1, .int (x1 + v2)), (0, .ref (E.2.2.2.2.1 + o)), (2, .int x2)]) C dX1_entries_20 (by decide) rfl rfl ?_
      refine y_iinc (n := 24) (v := x2 + 1) (ls' := [(2, .int (x2 + 1)), (1, .int (x1 + v2)), (0, .ref (E.2.2.2.2.1 + o))]) C dX1_entries_21 2 rfl rfl (by decide) rfl rfl ?_
      refine y_goto (tgt := 4) C dX1_entries_24 (by decide) ?_
      refine y_ls [2, 1, 0] rfl ?_
      exact ih (x1 + v2) (x2 + 1)
def fX1_entries (w : Wd) (o : Nat)  : Option (Int32) :=
  lX1_entries_4 o 4096 w 0 0
set_option maxRecDepth 4000 in
theorem eX1_entries {g : Gx} {E : Ex} (C : CC g E cX1_entries 3 RX1 1 21) (hR : RT g (some .int)) {o : Nat} (hO : shO E.2.2.2.2.2.1 o) (w : Wd)  : YO g E 3 (QP g E w) (fX1_entries w o) w 0 [(0, .ref (E.2.2.2.2.1 + o))] [] := by
  unfold fX1_entries
  refine y_iconst (n := 1) C (0 : Int32) dX1_entries_0 (by decide) rfl ?_
  refine y_istore_n (n := 2) (ls' := [(1, .int 0), (0, .ref (E.2.2.2.2.1 + o))]) C dX1_entries_1 (by decide) rfl rfl ?_
  refine y_iconst (n := 3) C (0 : Int32) dX1_entries_2 (by decide) rfl ?_
  refine y_istore_n (n := 4) (ls' := [(2, .int 0), (1, .int 0), (0, .ref (E.2.2.2.2.1 + o))]) C dX1_entries_3 (by decide) rfl rfl ?_
  refine y_ls [2, 1, 0] rfl ?_
  exact clX1_entries_4 C hR hO w 4096 0 0
theorem mX1_entries {E : Ex} {o : Nat} (hO : shO E.2.2.2.2.2.1 o) (w : Wd)  (l : Launch) : MP l yX1_entries cX1_entries 3 (some .int) { frames := 1, cells := 0, slots := 0, locals := 21 } E [.ref (E.2.2.2.2.1 + o)] w (fX1_entries w o) :=
  y_met (Qc := fun r => yQi E (r, w)) (by decide +kernel) (Nat.le_of_ble_eq_true rfl) (fun g C hR => eX1_entries C hR hO w ) l
def fX5_isDocument (w : Wd) (a1 : Int32) : Option (Int32) :=
  if a1 < 0 then
    rtZ 0
  else
    if 60 ≤ a1 then
      rtZ 0
    else
      rtZ 1
set_option maxRecDepth 4000 in
theorem eX5_isDocument {g : Gx} {E : Ex} (C : CC g E cX5_isDocument 1 RX5 0 0) (hR : RT g (some .boolean))  (w : Wd) (a1 : Int32) : YO g E 1 (QP g E w) (fX5_isDocument w a1) w 0 [(0, .int a1)] [] := by
  unfold fX5_isDocument
  refine y_iload_n (n := 1) C dX5_isDocument_0 0 rfl rfl ?_
  refine y_if_lt (tgt := 14) (n := 4) C dX5_isDocument_1 (by decide) rfl (fun h1 => ?_) (fun h1 => ?_)
  · refine y_iconst (n := 15) C (0 : Int32) dX5_isDocument_14 (by decide) rfl ?_
    exact y_rz C hR dX5_isDocument_15
  · refine y_iload_n (n := 5) C dX5_isDocument_4 0 rfl rfl ?_
    refine y_bipush (n := 7) C (60 : Int32) dX5_isDocument_5 (by decide) rfl ?_
    refine y_icmp_ge (tgt := 14) (n := 10) C dX5_isDocument_7 (by decide) rfl (fun h2 => ?_) (fun h2 => ?_)
    · refine y_iconst (n := 15) C (0 : Int32) dX5_isDocument_14 (by decide) rfl ?_
      exact y_rz C hR dX5_isDocument_15
    · refine y_iconst (n := 11) C (1 : Int32) dX5_isDocument_10 (by decide) rfl ?_
      refine y_goto (tgt := 15) C dX5_isDocument_11 (by decide) ?_
      exact y_rz C hR dX5_isDocument_15
theorem mX5_isDocument {E : Ex}  (w : Wd) (a1 : Int32) (l : Launch) : MP l yX5_isDocument cX5_isDocument 1 (some .boolean) { frames := 0, cells := 0, slots := 0, locals := 0 } E [.int a1] w (fX5_isDocument w a1) :=
  y_met (Qc := fun r => yQi E (r, w)) (by decide +kernel) (Nat.le_of_ble_eq_true rfl) (fun g C hR => eX5_isDocument C hR  w a1) l
def fX1_scoreOf (w : Wd) (o : Nat) (a1 : Int32) (a2 : Int32) : Option (Int32) :=
  (fX5_isDocument w a2).bind fun v1 =>
  if v1 = 0 then
    some 0
  else
    (fX5_at w (o + 1) 360 ((a1 * 60) + a2)).bind fun v3 =>
    some v3
set_option maxRecDepth 4000 in
theorem eX1_scoreOf {g : Gx} {E : Ex} (C : CC g E cX1_scoreOf 3 RX1 1 21) (hR : RT g (some .int)) {o : Nat} (hO : shO E.2.2.2.2.2.1 o) (w : Wd) (a1 : Int32) (a2 : Int32) : YO g E 3 (QP g E w) (fX1_scoreOf w o a1 a2) w 0 [(0, .ref (E.2.2.2.2.1 + o)), (1, .int a1), (2, .int a2)] [] := by
  unfold fX1_scoreOf
  refine y_iload_n (n := 1) C dX1_scoreOf_0 2 rfl rfl ?_
  refine y_cp (n := 4) C (fun r hr H locs la hP hS hl => y_runSN (st := []) C ky_X5_isDocument wd_256 ⟨Nat.le_of_ble_eq_true rfl, Nat.le_of_ble_eq_true rfl⟩ (mX5_isDocument w a2 g.2.1 r hr) rfl (Nat.le_of_ble_eq_true rfl) rfl dX1_scoreOf_1 hP hS hl) rfl (fun v1 hv1 => ?_)
  refine y_if_eq (tgt := 23) (n := 7) C dX1_scoreOf_4 (by decide) rfl (fun h2 => ?_) (fun h2 => ?_)
  · refine y_iconst (n := 24) C (0 : Int32) dX1_scoreOf_23 (by decide) rfl ?_
    exact y_rp C hR dX1_scoreOf_24
  · refine y_aload_n (n := 8) C dX1_scoreOf_7 0 rfl rfl ?_
    refine y_get (ci := 1) (f := 0) (n := 11) C in_X1 hO.1 rfl (by decide) wd_32 rfl rfl dX1_scoreOf_8 rfl ?_
    refine y_iload_n (n := 12) C dX1_scoreOf_11 1 rfl rfl ?_
    refine y_bipush (n := 14) C (60 : Int32) dX1_scoreOf_12 (by decide) rfl ?_
    refine y_imul (n := 15) C dX1_scoreOf_14 rfl ?_
    refine y_iload_n (n := 16) C dX1_scoreOf_15 2 rfl rfl ?_
    refine y_iadd (n := 17) C dX1_scoreOf_16 rfl ?_
    refine y_cp (n := 20) C (fun r hr H locs la hP hS hl => y_runSN (st := []) C ky_X5_at wd_257 ⟨Nat.le_of_ble_eq_true rfl, Nat.le_of_ble_eq_true rfl⟩ (mX5_at hO.2.1 w ((a1 * 60) + a2) g.2.1 r hr) rfl (Nat.le_of_ble_eq_true rfl) rfl dX1_scoreOf_17 hP hS hl) rfl (fun v3 hv3 => ?_)
    refine y_goto (tgt := 24) C dX1_scoreOf_20 (by decide) ?_
    exact y_rp C hR dX1_scoreOf_24
theorem mX1_scoreOf {E : Ex} {o : Nat} (hO : shO E.2.2.2.2.2.1 o) (w : Wd) (a1 : Int32) (a2 : Int32) (l : Launch) : MP l yX1_scoreOf cX1_scoreOf 3 (some .int) { frames := 1, cells := 0, slots := 0, locals := 21 } E [.ref (E.2.2.2.2.1 + o), .int a1, .int a2] w (fX1_scoreOf w o a1 a2) :=
  y_met (Qc := fun r => yQi E (r, w)) (by decide +kernel) (Nat.le_of_ble_eq_true rfl) (fun g C hR => eX1_scoreOf C hR hO w a1 a2) l
def lX1_valueOf_4 (o : Nat) : Nat → Wd → Int32 → Int32 → Int32 → Option (Int32)
  | 0, _, _, _, _ => none
  | n + 1, w, x1, x2, x3 =>
    if 6 ≤ x3 then
      some x2
    else
      (fX5_at w (o + 4) 6 x3).bind fun v2 =>
      (fX1_scoreOf w o x3 x1).bind fun v3 =>
      lX1_valueOf_4 o n w x1 (x2 + (v2 * v3)) (x3 + 1)
set_option maxRecDepth 4000 in
theorem clX1_valueOf_4 {g : Gx} {E : Ex} (C : CC g E cX1_valueOf 4 RX1 2 43) (hR : RT g (some .int)) {o : Nat} (hO : shO E.2.2.2.2.2.1 o) (w : Wd)  : ∀ (n : Nat) (x1 : Int32) (x2 : Int32) (x3 : Int32), YO g E 4 (QP g E w) (lX1_valueOf_4 o n w x1 x2 x3) w 4 [(0, .ref (E.2.2.2.2.1 + o)), (1, .int x1), (2, .int x2), (3, .int x3)] [] := by
  intro n
  induction n with
  | zero => intro x1 x2 x3; exact y_no
  | succ n ih =>
    intro x1 x2 x3
    rw [lX1_valueOf_4]
    refine y_iload_n (n := 5) C dX1_valueOf_4 3 rfl rfl ?_
    refine y_bipush (n := 7) C (6 : Int32) dX1_valueOf_5 (by decide) rfl ?_
    refine y_icmp_ge (tgt := 34) (n := 10) C dX1_valueOf_7 (by decide) rfl (fun h1 => ?_) (fun h1 => ?_)
    · refine y_iload_n (n := 35) C dX1_valueOf_34 2 rfl rfl ?_
      exact y_rp C hR dX1_valueOf_35
    · refine y_iload_n (n := 11) C dX1_valueOf_10 2 rfl rfl ?_
      refine y_aload_n (n := 12) C dX1_valueOf_11 0 rfl rfl ?_
      refine y_get (ci := 1) (f := 3) (n := 15) C in_X1 hO.1 rfl (by decide) wd_35 rfl rfl dX1_valueOf_12 rfl ?_
      refine y_iload_n (n := 16) C dX1_valueOf_15 3 rfl rfl ?_
      refine y_cp (n := 19) C (fun r hr H locs la hP hS hl => y_runSN (st := [.int x2]) C ky_X5_at wd_257 ⟨Nat.le_of_ble_eq_true rfl, Nat.le_of_ble_eq_true rfl⟩ (mX5_at hO.2.2.2.2.1 w x3 g.2.1 r hr) rfl (Nat.le_of_ble_eq_true rfl) rfl dX1_valueOf_16 hP hS hl) rfl (fun v2 hv2 => ?_)
      refine y_aload_n (n := 20) C dX1_valueOf_19 0 rfl rfl ?_
      refine y_iload_n (n := 21) C dX1_valueOf_20 3 rfl rfl ?_
      refine y_iload_n (n := 22) C dX1_valueOf_21 1 rfl rfl ?_
      refine y_cp (n := 25) C (fun r hr H locs la hP hS hl => y_runV (ci := 1) (st := [.int v2, .int x2]) C ky_X1_scoreOf wd_252 ⟨Nat.le_of_ble_eq_true rfl, Nat.le_of_ble_eq_true rfl⟩ hO.1 rfl (mX1_scoreOf hO w x3 x1 g.2.1 r hr) rfl (Nat.le_of_ble_eq_true rfl) rfl dX1_valueOf_22 hP hS hl) rfl (fun v3 hv3 => ?_)
      refine y_imul (n := 26) C dX1_valueOf_25 rfl ?_
      refine y_iadd (n := 27) C dX1_valueOf_26 rfl ?_
      refine y_istore_n (n := 28) (ls' := [(2, .int (x2 + (v2 * v3))), (0, .ref (E.2.2.2.2.1 + o)), (1, .int x1), (3, .int x3)]) C dX1_valueOf_27 (by decide) rfl rfl ?_
      refine y_iinc (n := 31) (v := x3 + 1) (ls' := [(3, .int (x3 + 1)), (2, .int (x2 + (v2 * v3))), (0, .ref (E.2.2.2.2.1 + o)), (1, .int x1)]) C dX1_valueOf_28 3 rfl rfl (by decide) rfl rfl ?_
      refine y_goto (tgt := 4) C dX1_valueOf_31 (by decide) ?_
      refine y_ls [2, 3, 1, 0] rfl ?_
      exact ih x1 (x2 + (v2 * v3)) (x3 + 1)
def fX1_valueOf (w : Wd) (o : Nat) (a1 : Int32) : Option (Int32) :=
  lX1_valueOf_4 o 4096 w a1 0 0
set_option maxRecDepth 4000 in
theorem eX1_valueOf {g : Gx} {E : Ex} (C : CC g E cX1_valueOf 4 RX1 2 43) (hR : RT g (some .int)) {o : Nat} (hO : shO E.2.2.2.2.2.1 o) (w : Wd) (a1 : Int32) : YO g E 4 (QP g E w) (fX1_valueOf w o a1) w 0 [(0, .ref (E.2.2.2.2.1 + o)), (1, .int a1)] [] := by
  unfold fX1_valueOf
  refine y_iconst (n := 1) C (0 : Int32) dX1_valueOf_0 (by decide) rfl ?_
  refine y_istore_n (n := 2) (ls' := [(2, .int 0), (0, .ref (E.2.2.2.2.1 + o)), (1, .int a1)]) C dX1_valueOf_1 (by decide) rfl rfl ?_
  refine y_iconst (n := 3) C (0 : Int32) dX1_valueOf_2 (by decide) rfl ?_
  refine y_istore_n (n := 4) (ls' := [(3, .int 0), (2, .int 0), (0, .ref (E.2.2.2.2.1 + o)), (1, .int a1)]) C dX1_valueOf_3 (by decide) rfl rfl ?_
  refine y_ls [2, 3, 1, 0] rfl ?_
  exact clX1_valueOf_4 C hR hO w 4096 a1 0 0
theorem mX1_valueOf {E : Ex} {o : Nat} (hO : shO E.2.2.2.2.2.1 o) (w : Wd) (a1 : Int32) (l : Launch) : MP l yX1_valueOf cX1_valueOf 4 (some .int) { frames := 2, cells := 0, slots := 0, locals := 43 } E [.ref (E.2.2.2.2.1 + o), .int a1] w (fX1_valueOf w o a1) :=
  y_met (Qc := fun r => yQi E (r, w)) (by decide +kernel) (Nat.le_of_ble_eq_true rfl) (fun g C hR => eX1_valueOf C hR hO w a1) l
def fX1_isAnswer (w : Wd) (o : Nat) (a1 : Int32) : Option (Int32) :=
  (fX1_isDeleted w o a1).bind fun v1 =>
  if v1 = 0 then
    (fX1_valueOf w o a1).bind fun v3 =>
    if v3 ≤ 0 then
      rtZ 0
    else
      rtZ 1
  else
    rtZ 0
set_option maxRecDepth 4000 in
theorem eX1_isAnswer {g : Gx} {E : Ex} (C : CC g E cX1_isAnswer 2 RX1 3 66) (hR : RT g (some .boolean)) {o : Nat} (hO : shO E.2.2.2.2.2.1 o) (w : Wd) (a1 : Int32) : YO g E 2 (QP g E w) (fX1_isAnswer w o a1) w 0 [(0, .ref (E.2.2.2.2.1 + o)), (1, .int a1)] [] := by
  unfold fX1_isAnswer
  refine y_aload_n (n := 1) C dX1_isAnswer_0 0 rfl rfl ?_
  refine y_iload_n (n := 2) C dX1_isAnswer_1 1 rfl rfl ?_
  refine y_cp (n := 5) C (fun r hr H locs la hP hS hl => y_runV (ci := 1) (st := []) C ky_X1_isDeleted wd_377 ⟨Nat.le_of_ble_eq_true rfl, Nat.le_of_ble_eq_true rfl⟩ hO.1 rfl (mX1_isDeleted hO w a1 g.2.1 r hr) rfl (Nat.le_of_ble_eq_true rfl) rfl dX1_isAnswer_2 hP hS hl) rfl (fun v1 hv1 => ?_)
  refine y_if_ne (tgt := 20) (n := 8) C dX1_isAnswer_5 (by decide) rfl (fun h2 => ?_) (fun h2 => ?_)
  · refine y_iconst (n := 21) C (0 : Int32) dX1_isAnswer_20 (by decide) rfl ?_
    exact y_rz C hR dX1_isAnswer_21
  · refine y_aload_n (n := 9) C dX1_isAnswer_8 0 rfl rfl ?_
    refine y_iload_n (n := 10) C dX1_isAnswer_9 1 rfl rfl ?_
    refine y_cp (n := 13) C (fun r hr H locs la hP hS hl => y_runV (ci := 1) (st := []) C ky_X1_valueOf wd_378 ⟨Nat.le_of_ble_eq_true rfl, Nat.le_of_ble_eq_true rfl⟩ hO.1 rfl (mX1_valueOf hO w a1 g.2.1 r hr) rfl (Nat.le_of_ble_eq_true rfl) rfl dX1_isAnswer_10 hP hS hl) rfl (fun v3 hv3 => ?_)
    refine y_if_le (tgt := 20) (n := 16) C dX1_isAnswer_13 (by decide) rfl (fun h4 => ?_) (fun h4 => ?_)
    · refine y_iconst (n := 21) C (0 : Int32) dX1_isAnswer_20 (by decide) rfl ?_
      exact y_rz C hR dX1_isAnswer_21
    · refine y_iconst (n := 17) C (1 : Int32) dX1_isAnswer_16 (by decide) rfl ?_
      refine y_goto (tgt := 21) C dX1_isAnswer_17 (by decide) ?_
      exact y_rz C hR dX1_isAnswer_21
theorem mX1_isAnswer {E : Ex} {o : Nat} (hO : shO E.2.2.2.2.2.1 o) (w : Wd) (a1 : Int32) (l : Launch) : MP l yX1_isAnswer cX1_isAnswer 2 (some .boolean) { frames := 3, cells := 0, slots := 0, locals := 66 } E [.ref (E.2.2.2.2.1 + o), .int a1] w (fX1_isAnswer w o a1) :=
  y_met (Qc := fun r => yQi E (r, w)) (by decide +kernel) (Nat.le_of_ble_eq_true rfl) (fun g C hR => eX1_isAnswer C hR hO w a1) l
def fX1_isAsked (w : Wd) (o : Nat) (a1 : Int32) : Option (Int32) :=
  (fX5_at w (o + 4) 6 a1).bind fun v1 =>
  if v1 ≤ 0 then
    rtZ 0
  else
    rtZ 1
set_option maxRecDepth 4000 in
theorem eX1_isAsked {g : Gx} {E : Ex} (C : CC g E cX1_isAsked 2 RX1 1 21) (hR : RT g (some .boolean)) {o : Nat} (hO : shO E.2.2.2.2.2.1 o) (w : Wd) (a1 : Int32) : YO g E 2 (QP g E w) (fX1_isAsked w o a1) w 0 [(0, .ref (E.2.2.2.2.1 + o)), (1, .int a1)] [] := by
  unfold fX1_isAsked
  refine y_aload_n (n := 1) C dX1_isAsked_0 0 rfl rfl ?_
  refine y_get (ci := 1) (f := 3) (n := 4) C in_X1 hO.1 rfl (by decide) wd_35 rfl rfl dX1_isAsked_1 rfl ?_
  refine y_iload_n (n := 5) C dX1_isAsked_4 1 rfl rfl ?_
  refine y_cp (n := 8) C (fun r hr H locs la hP hS hl => y_runSN (st := []) C ky_X5_at wd_257 ⟨Nat.le_of_ble_eq_true rfl, Nat.le_of_ble_eq_true rfl⟩ (mX5_at hO.2.2.2.2.1 w a1 g.2.1 r hr) rfl (Nat.le_of_ble_eq_true rfl) rfl dX1_isAsked_5 hP hS hl) rfl (fun v1 hv1 => ?_)
  refine y_if_le (tgt := 15) (n := 11) C dX1_isAsked_8 (by decide) rfl (fun h2 => ?_) (fun h2 => ?_)
  · refine y_iconst (n := 16) C (0 : Int32) dX1_isAsked_15 (by decide) rfl ?_
    exact y_rz C hR dX1_isAsked_16
  · refine y_iconst (n := 12) C (1 : Int32) dX1_isAsked_11 (by decide) rfl ?_
    refine y_goto (tgt := 16) C dX1_isAsked_12 (by decide) ?_
    exact y_rz C hR dX1_isAsked_16
theorem mX1_isAsked {E : Ex} {o : Nat} (hO : shO E.2.2.2.2.2.1 o) (w : Wd) (a1 : Int32) (l : Launch) : MP l yX1_isAsked cX1_isAsked 2 (some .boolean) { frames := 1, cells := 0, slots := 0, locals := 21 } E [.ref (E.2.2.2.2.1 + o), .int a1] w (fX1_isAsked w o a1) :=
  y_met (Qc := fun r => yQi E (r, w)) (by decide +kernel) (Nat.le_of_ble_eq_true rfl) (fun g C hR => eX1_isAsked C hR hO w a1) l
def lX1_listsWith_4 (o : Nat) : Nat → Wd → Int32 → Int32 → Int32 → Option (Int32)
  | 0, _, _, _, _ => none
  | n + 1, w, x1, x2, x3 =>
    if 6 ≤ x3 then
      some x2
    else
      (fX1_scoreOf w o x3 x1).bind fun v2 =>
      if v2 ≤ 0 then
        (fX5_oneIf w 0).bind fun v4 =>
        lX1_listsWith_4 o n w x1 (x2 ||| (v4 <<< (x3 &&& 31))) (x3 + 1)
      else
        (fX5_oneIf w 1).bind fun v5 =>
        lX1_listsWith_4 o n w x1 (x2 ||| (v5 <<< (x3 &&& 31))) (x3 + 1)
set_option maxRecDepth 4000 in
theorem clX1_listsWith_4 {g : Gx} {E : Ex} (C : CC g E cX1_listsWith 4 RX1 2 43) (hR : RT g (some .int)) {o : Nat} (hO : shO E.2.2.2.2.2.1 o) (w : Wd)  : ∀ (n : Nat) (x1 : Int32) (x2 : Int32) (x3 : Int32), YO g E 4 (QP g E w) (lX1_listsWith_4 o n w x1 x2 x3) w 4 [(0, .ref (E.2.2.2.2.1 + o)), (1, .int x1), (2, .int x2), (3, .int x3)] [] := by
  intro n
  induction n with
  | zero => intro x1 x2 x3; exact y_no
  | succ n ih =>
    intro x1 x2 x3
    rw [lX1_listsWith_4]
    refine y_iload_n (n := 5) C dX1_listsWith_4 3 rfl rfl ?_
    refine y_bipush (n := 7) C (6 : Int32) dX1_listsWith_5 (by decide) rfl ?_
    refine y_icmp_ge (tgt := 38) (n := 10) C dX1_listsWith_7 (by decide) rfl (fun h1 => ?_) (fun h1 => ?_)
    · refine y_iload_n (n := 39) C dX1_listsWith_38 2 rfl rfl ?_
      exact y_rp C hR dX1_listsWith_39
    · refine y_iload_n (n := 11) C dX1_listsWith_10 2 rfl rfl ?_
      refine y_aload_n (n := 12) C dX1_listsWith_11 0 rfl rfl ?_
      refine y_iload_n (n := 13) C dX1_listsWith_12 3 rfl rfl ?_
      refine y_iload_n (n := 14) C dX1_listsWith_13 1 rfl rfl ?_
      refine y_cp (n := 17) C (fun r hr H locs la hP hS hl => y_runV (ci := 1) (st := [.int x2]) C ky_X1_scoreOf wd_252 ⟨Nat.le_of_ble_eq_true rfl, Nat.le_of_ble_eq_true rfl⟩ hO.1 rfl (mX1_scoreOf hO w x3 x1 g.2.1 r hr) rfl (Nat.le_of_ble_eq_true rfl) rfl dX1_listsWith_14 hP hS hl) rfl (fun v2 hv2 => ?_)
      refine y_if_le (tgt := 24) (n := 20) C dX1_listsWith_17 (by decide) rfl (fun h3 => ?_) (fun h3 => ?_)
      · refine y_iconst (n := 25) C (0 : Int32) dX1_listsWith_24 (by decide) rfl ?_
        refine y_cp (n := 28) C (fun r hr H locs la hP hS hl => y_runSN (st := [.int x2]) C ky_X5_oneIf wd_260 ⟨Nat.le_of_ble_eq_true rfl, Nat.le_of_ble_eq_true rfl⟩ (mX5_oneIf w 0 g.2.1 r hr) rfl (Nat.le_of_ble_eq_true rfl) rfl dX1_listsWith_25 hP hS hl) rfl (fun v4 hv4 => ?_)
        refine y_iload_n (n := 29) C dX1_listsWith_28 3 rfl rfl ?_
        refine y_ishl (n := 30) C dX1_listsWith_29 rfl ?_
        refine y_ior (n := 31) C dX1_listsWith_30 rfl ?_
        refine y_istore_n (n := 32) (ls' := [(2, .int (x2 ||| (v4 <<< (x3 &&& 31)))), (0, .ref (E.2.2.2.2.1 + o)), (1, .int x1), (3, .int x3)]) C dX1_listsWith_31 (by decide) rfl rfl ?_
        refine y_iinc (n := 35) (v := x3 + 1) (ls' := [(3, .int (x3 + 1)), (2, .int (x2 ||| (v4 <<< (x3 &&& 31)))), (0, .ref (E.2.2.2.2.1 + o)), (1, .int x1)]) C dX1_listsWith_32 3 rfl rfl (by decide) rfl rfl ?_
        refine y_goto (tgt := 4) C dX1_listsWith_35 (by decide) ?_
        refine y_ls [2, 3, 1, 0] rfl ?_
        exact ih x1 (x2 ||| (v4 <<< (x3 &&& 31))) (x3 + 1)
      · refine y_iconst (n := 21) C (1 : Int32) dX1_listsWith_20 (by decide) rfl ?_
        refine y_goto (tgt := 25) C dX1_listsWith_21 (by decide) ?_
        refine y_cp (n := 28) C (fun r hr H locs la hP hS hl => y_runSN (st := [.int x2]) C ky_X5_oneIf wd_260 ⟨Nat.le_of_ble_eq_true rfl, Nat.le_of_ble_eq_true rfl⟩ (mX5_oneIf w 1 g.2.1 r hr) rfl (Nat.le_of_ble_eq_true rfl) rfl dX1_listsWith_25 hP hS hl) rfl (fun v5 hv5 => ?_)
        refine y_iload_n (n := 29) C dX1_listsWith_28 3 rfl rfl ?_
        refine y_ishl (n := 30) C dX1_listsWith_29 rfl ?_
        refine y_ior (n := 31) C dX1_listsWith_30 rfl ?_
        refine y_istore_n (n := 32) (ls' := [(2, .int (x2 ||| (v5 <<< (x3 &&& 31)))), (0, .ref (E.2.2.2.2.1 + o)), (1, .int x1), (3, .int x3)]) C dX1_listsWith_31 (by decide) rfl rfl ?_
        refine y_iinc (n := 35) (v := x3 + 1) (ls' := [(3, .int (x3 + 1)), (2, .int (x2 ||| (v5 <<< (x3 &&& 31)))), (0, .ref (E.2.2.2.2.1 + o)), (1, .int x1)]) C dX1_listsWith_32 3 rfl rfl (by decide) rfl rfl ?_
        refine y_goto (tgt := 4) C dX1_listsWith_35 (by decide) ?_
        refine y_ls [2, 3, 1, 0] rfl ?_
        exact ih x1 (x2 ||| (v5 <<< (x3 &&& 31))) (x3 + 1)
def fX1_listsWith (w : Wd) (o : Nat) (a1 : Int32) : Option (Int32) :=
  lX1_listsWith_4 o 4096 w a1 0 0
set_option maxRecDepth 4000 in
theorem eX1_listsWith {g : Gx} {E : Ex} (C : CC g E cX1_listsWith 4 RX1 2 43) (hR : RT g (some .int)) {o : Nat} (hO : shO E.2.2.2.2.2.1 o) (w : Wd) (a1 : Int32) : YO g E 4 (QP g E w) (fX1_listsWith w o a1) w 0 [(0, .ref (E.2.2.2.2.1 + o)), (1, .int a1)] [] := by
  unfold fX1_listsWith
  refine y_iconst (n := 1) C (0 : Int32) dX1_listsWith_0 (by decide) rfl ?_
  refine y_istore_n (n := 2) (ls' := [(2, .int 0), (0, .ref (E.2.2.2.2.1 + o)), (1, .int a1)]) C dX1_listsWith_1 (by decide) rfl rfl ?_
  refine y_iconst (n := 3) C (0 : Int32) dX1_listsWith_2 (by decide) rfl ?_
  refine y_istore_n (n := 4) (ls' := [(3, .int 0), (2, .int 0), (0, .ref (E.2.2.2.2.1 + o)), (1, .int a1)]) C dX1_listsWith_3 (by decide) rfl rfl ?_
  refine y_ls [2, 3, 1, 0] rfl ?_
  exact clX1_listsWith_4 C hR hO w 4096 a1 0 0
theorem mX1_listsWith {E : Ex} {o : Nat} (hO : shO E.2.2.2.2.2.1 o) (w : Wd) (a1 : Int32) (l : Launch) : MP l yX1_listsWith cX1_listsWith 4 (some .int) { frames := 2, cells := 0, slots := 0, locals := 43 } E [.ref (E.2.2.2.2.1 + o), .int a1] w (fX1_listsWith w o a1) :=
  y_met (Qc := fun r => yQi E (r, w)) (by decide +kernel) (Nat.le_of_ble_eq_true rfl) (fun g C hR => eX1_listsWith C hR hO w a1) l
def fX5_put (w : Wd) (k1 q1 : Nat) (a2 : Int32) (a3 : Int32) : Option (Wd) :=
  if a2 < 0 then
    some w
  else
    if (nI q1) ≤ a2 then
      some w
    else
      (stI q1 w k1 a2 a3).bind fun w3 =>
      some w3
set_option maxRecDepth 4000 in
theorem eX5_put {g : Gx} {E : Ex} (C : CC g E cX5_put 3 RX5 0 0) (hR : RT g none) {k1 q1 : Nat} (hk1 : E.2.2.2.2.2.1[k1]? = some (0, q1)) (w : Wd) (a2 : Int32) (a3 : Int32) : YO g E 3 (QV g E) (fX5_put w k1 q1 a2 a3) w 0 [(0, .ref (E.2.2.2.2.1 + k1)), (1, .int a2), (2, .int a3)] [] := by
  unfold fX5_put
  refine y_iload_n (n := 1) C dX5_put_0 1 rfl rfl ?_
  refine y_if_lt (tgt := 14) (n := 4) C dX5_put_1 (by decide) rfl (fun h1 => ?_) (fun h1 => ?_)
  · exact y_rv C hR dX5_put_14
  · refine y_iload_n (n := 5) C dX5_put_4 1 rfl rfl ?_
    refine y_aload_n (n := 6) C dX5_put_5 0 rfl rfl ?_
    refine y_alen (n := 7) C hk1 dX5_put_6 rfl ?_
    refine y_icmp_ge (tgt := 14) (n := 10) C dX5_put_7 (by decide) rfl (fun h2 => ?_) (fun h2 => ?_)
    · exact y_rv C hR dX5_put_14
    · refine y_aload_n (n := 11) C dX5_put_10 0 rfl rfl ?_
      refine y_iload_n (n := 12) C dX5_put_11 1 rfl rfl ?_
      refine y_iload_n (n := 13) C dX5_put_12 2 rfl rfl ?_
      refine y_iast (n := 14) C hk1 dX5_put_13 rfl (fun w3 hw3 => ?_)
      exact y_rv C hR dX5_put_14
theorem mX5_put {E : Ex} {k1 q1 : Nat} (hk1 : E.2.2.2.2.2.1[k1]? = some (0, q1)) (w : Wd) (a2 : Int32) (a3 : Int32) (l : Launch) : MV l yX5_put cX5_put 3 none { frames := 0, cells := 0, slots := 0, locals := 0 } E [.ref (E.2.2.2.2.1 + k1), .int a2, .int a3] w (fX5_put w k1 q1 a2 a3) :=
  y_met (Qc := yQv E) (by decide +kernel) (Nat.le_of_ble_eq_true rfl) (fun g C hR => eX5_put C hR hk1 w a2 a3) l
def fX1_scoreAt (w : Wd) (o : Nat) (a1 : Int32) (a2 : Int32) : Option (Int32) :=
  (fX5_at w (o + 3) 6 a1).bind fun v1 =>
  if v1 ≤ a2 then
    some 0
  else
    (fX1_documentAt w o a1 a2).bind fun v3 =>
    (fX1_scoreOf w o a1 v3).bind fun v4 =>
    some v4
set_option maxRecDepth 4000 in
theorem eX1_scoreAt {g : Gx} {E : Ex} (C : CC g E cX1_scoreAt 3 RX1 2 43) (hR : RT g (some .int)) {o : Nat} (hO : shO E.2.2.2.2.2.1 o) (w : Wd) (a1 : Int32) (a2 : Int32) : YO g E 3 (QP g E w) (fX1_scoreAt w o a1 a2) w 0 [(0, .ref (E.2.2.2.2.1 + o)), (1, .int a1), (2, .int a2)] [] := by
  unfold fX1_scoreAt
  refine y_iload_n (n := 1) C dX1_scoreAt_0 2 rfl rfl ?_
  refine y_aload_n (n := 2) C dX1_scoreAt_1 0 rfl rfl ?_
  refine y_get (ci := 1) (f := 2) (n := 5) C in_X1 hO.1 rfl (by decide) wd_34 rfl rfl dX1_scoreAt_2 rfl ?_
  refine y_iload_n (n := 6) C dX1_scoreAt_5 1 rfl rfl ?_
  refine y_cp (n := 9) C (fun r hr H locs la hP hS hl => y_runSN (st := [.int a2]) C ky_X5_at wd_257 ⟨Nat.le_of_ble_eq_true rfl, Nat.le_of_ble_eq_true rfl⟩ (mX5_at hO.2.2.2.1 w a1 g.2.1 r hr) rfl (Nat.le_of_ble_eq_true rfl) rfl dX1_scoreAt_6 hP hS hl) rfl (fun v1 hv1 => ?_)
  refine y_icmp_ge (tgt := 26) (n := 12) C dX1_scoreAt_9 (by decide) rfl (fun h2 => ?_) (fun h2 => ?_)
  · refine y_iconst (n := 27) C (0 : Int32) dX1_scoreAt_26 (by decide) rfl ?_
    exact y_rp C hR dX1_scoreAt_27
  · refine y_aload_n (n := 13) C dX1_scoreAt_12 0 rfl rfl ?_
    refine y_iload_n (n := 14) C dX1_scoreAt_13 1 rfl rfl ?_
    refine y_aload_n (n := 15) C dX1_scoreAt_14 0 rfl rfl ?_
    refine y_iload_n (n := 16) C dX1_scoreAt_15 1 rfl rfl ?_
    refine y_iload_n (n := 17) C dX1_scoreAt_16 2 rfl rfl ?_
    refine y_cp (n := 20) C (fun r hr H locs la hP hS hl => y_runV (ci := 1) (st := [.int a1, .ref (E.2.2.2.2.1 + o)]) C ky_X1_documentAt wd_319 ⟨Nat.le_of_ble_eq_true rfl, Nat.le_of_ble_eq_true rfl⟩ hO.1 rfl (mX1_documentAt hO w a1 a2 g.2.1 r hr) rfl (Nat.le_of_ble_eq_true rfl) rfl dX1_scoreAt_17 hP hS hl) rfl (fun v3 hv3 => ?_)
    refine y_cp (n := 23) C (fun r hr H locs la hP hS hl => y_runV (ci := 1) (st := []) C ky_X1_scoreOf wd_252 ⟨Nat.le_of_ble_eq_true rfl, Nat.le_of_ble_eq_true rfl⟩ hO.1 rfl (mX1_scoreOf hO w a1 v3 g.2.1 r hr) rfl (Nat.le_of_ble_eq_true rfl) rfl dX1_scoreAt_20 hP hS hl) rfl (fun v4 hv4 => ?_)
    refine y_goto (tgt := 27) C dX1_scoreAt_23 (by decide) ?_
    exact y_rp C hR dX1_scoreAt_27
theorem mX1_scoreAt {E : Ex} {o : Nat} (hO : shO E.2.2.2.2.2.1 o) (w : Wd) (a1 : Int32) (a2 : Int32) (l : Launch) : MP l yX1_scoreAt cX1_scoreAt 3 (some .int) { frames := 2, cells := 0, slots := 0, locals := 43 } E [.ref (E.2.2.2.2.1 + o), .int a1, .int a2] w (fX1_scoreAt w o a1 a2) :=
  y_met (Qc := fun r => yQi E (r, w)) (by decide +kernel) (Nat.le_of_ble_eq_true rfl) (fun g C hR => eX1_scoreAt C hR hO w a1 a2) l
def fX1_standsAhead (w : Wd) (o : Nat) (a1 : Int32) (a2 : Int32) (a3 : Int32) (a4 : Int32) : Option (Int32) :=
  (fX1_scoreAt w o a1 a2).bind fun v1 =>
  if a4 < v1 then
    rtZ 1
  else
    if v1 = a4 then
      (fX1_documentAt w o a1 a2).bind fun v4 =>
      if a3 ≤ v4 then
        rtZ 0
      else
        rtZ 1
    else
      rtZ 0
set_option maxRecDepth 4000 in
theorem eX1_standsAhead {g : Gx} {E : Ex} (C : CC g E cX1_standsAhead 6 RX1 3 65) (hR : RT g (some .boolean)) {o : Nat} (hO : shO E.2.2.2.2.2.1 o) (w : Wd) (a1 : Int32) (a2 : Int32) (a3 : Int32) (a4 : Int32) : YO g E 6 (QP g E w) (fX1_standsAhead w o a1 a2 a3 a4) w 0 [(0, .ref (E.2.2.2.2.1 + o)), (1, .int a1), (2, .int a2), (3, .int a3), (4, .int a4)] [] := by
  unfold fX1_standsAhead
  refine y_aload_n (n := 1) C dX1_standsAhead_0 0 rfl rfl ?_
  refine y_iload_n (n := 2) C dX1_standsAhead_1 1 rfl rfl ?_
  refine y_iload_n (n := 3) C dX1_standsAhead_2 2 rfl rfl ?_
  refine y_cp (n := 6) C (fun r hr H locs la hP hS hl => y_runV (ci := 1) (st := []) C ky_X1_scoreAt wd_510 ⟨Nat.le_of_ble_eq_true rfl, Nat.le_of_ble_eq_true rfl⟩ hO.1 rfl (mX1_scoreAt hO w a1 a2 g.2.1 r hr) rfl (Nat.le_of_ble_eq_true rfl) rfl dX1_standsAhead_3 hP hS hl) rfl (fun v1 hv1 => ?_)
  refine y_istore (n := 8) (ls' := [(5, .int v1), (0, .ref (E.2.2.2.2.1 + o)), (1, .int a1), (2, .int a2), (3, .int a3), (4, .int a4)]) C dX1_standsAhead_6 (by decide) rfl rfl ?_
  refine y_iload (n := 10) C dX1_standsAhead_8 0 rfl rfl ?_
  refine y_iload (n := 12) C dX1_standsAhead_10 5 rfl rfl ?_
  refine y_icmp_gt (tgt := 32) (n := 15) C dX1_standsAhead_12 (by decide) rfl (fun h2 => ?_) (fun h2 => ?_)
  · refine y_iconst (n := 33) C (1 : Int32) dX1_standsAhead_32 (by decide) rfl ?_
    refine y_goto (tgt := 37) C dX1_standsAhead_33 (by decide) ?_
    exact y_rz C hR dX1_standsAhead_37
  · refine y_iload (n := 17) C dX1_standsAhead_15 0 rfl rfl ?_
    refine y_iload (n := 19) C dX1_standsAhead_17 5 rfl rfl ?_
    refine y_icmp_ne (tgt := 36) (n := 22) C dX1_standsAhead_19 (by decide) rfl (fun h3 => ?_) (fun h3 => ?_)
    · refine y_iconst (n := 37) C (0 : Int32) dX1_standsAhead_36 (by decide) rfl ?_
      exact y_rz C hR dX1_standsAhead_37
    · refine y_aload_n (n := 23) C dX1_standsAhead_22 1 rfl rfl ?_
      refine y_iload_n (n := 24) C dX1_standsAhead_23 2 rfl rfl ?_
      refine y_iload_n (n := 25) C dX1_standsAhead_24 3 rfl rfl ?_
      refine y_cp (n := 28) C (fun r hr H locs la hP hS hl => y_runV (ci := 1) (st := []) C ky_X1_documentAt wd_319 ⟨Nat.le_of_ble_eq_true rfl, Nat.le_of_ble_eq_true rfl⟩ hO.1 rfl (mX1_documentAt hO w a1 a2 g.2.1 r hr) rfl (Nat.le_of_ble_eq_true rfl) rfl dX1_standsAhead_25 hP hS hl) rfl (fun v4 hv4 => ?_)
      refine y_iload_n (n := 29) C dX1_standsAhead_28 4 rfl rfl ?_
      refine y_icmp_ge (tgt := 36) (n := 32) C dX1_standsAhead_29 (by decide) rfl (fun h5 => ?_) (fun h5 => ?_)
      · refine y_iconst (n := 37) C (0 : Int32) dX1_standsAhead_36 (by decide) rfl ?_
        exact y_rz C hR dX1_standsAhead_37
      · refine y_iconst (n := 33) C (1 : Int32) dX1_standsAhead_32 (by decide) rfl ?_
        refine y_goto (tgt := 37) C dX1_standsAhead_33 (by decide) ?_
        exact y_rz C hR dX1_standsAhead_37
theorem mX1_standsAhead {E : Ex} {o : Nat} (hO : shO E.2.2.2.2.2.1 o) (w : Wd) (a1 : Int32) (a2 : Int32) (a3 : Int32) (a4 : Int32) (l : Launch) : MP l yX1_standsAhead cX1_standsAhead 6 (some .boolean) { frames := 3, cells := 0, slots := 0, locals := 65 } E [.ref (E.2.2.2.2.1 + o), .int a1, .int a2, .int a3, .int a4] w (fX1_standsAhead w o a1 a2 a3 a4) :=
  y_met (Qc := fun r => yQi E (r, w)) (by decide +kernel) (Nat.le_of_ble_eq_true rfl) (fun g C hR => eX1_standsAhead C hR hO w a1 a2 a3 a4) l
def lX1_takeOut_62 (o : Nat) : Nat → Wd → Int32 → Int32 → Int32 → Int32 → Int32 → Option (Wd)
  | 0, _, _, _, _, _, _ => none
  | n + 1, w, x1, x2, x3, x4, x6 =>
    if x3 ≤ x6 then
      (fX5_put w (o + 3) 6 x1 (x3 - 1)).bind fun w6 =>
      (fX5_put w6 (o + 1) 360 ((x1 * 60) + x2) 0).bind fun w7 =>
      some w7
    else
      (fX5_at w (o + 2) 240 (x4 + x6)).bind fun v8 =>
      (fX5_put w (o + 2) 240 ((x4 + x6) - 1) v8).bind fun w9 =>
      lX1_takeOut_62 o n w9 x1 x2 x3 x4 (x6 + 1)
set_option maxRecDepth 4000 in
theorem clX1_takeOut_62 {g : Gx} {E : Ex} (C : CC g E cX1_takeOut 7 RX1 2 43) (hR : RT g none) {o : Nat} (hO : shO E.2.2.2.2.2.1 o)  : ∀ (n : Nat) (w : Wd) (x1 : Int32) (x2 : Int32) (x3 : Int32) (x4 : Int32) (x6 : Int32), YO g E 7 (QV g E) (lX1_takeOut_62 o n w x1 x2 x3 x4 x6) w 62 [(0, .ref (E.2.2.2.2.1 + o)), (1, .int x1), (2, .int x2), (3, .int x3), (4, .int x4), (6, .int x6)] [] := by
  intro n
  induction n with
  | zero => intro w x1 x2 x3 x4 x6; exact y_no
  | succ n ih =>
    intro w x1 x2 x3 x4 x6
    rw [lX1_takeOut_62]
    refine y_iload (n := 64) C dX1_takeOut_62 5 rfl rfl ?_
    refine y_iload_n (n := 65) C dX1_takeOut_64 3 rfl rfl ?_
    refine y_icmp_ge (tgt := 100) (n := 68) C dX1_takeOut_65 (by decide) rfl (fun h5 => ?_) (fun h5 => ?_)
    · refine y_aload_n (n := 101) C dX1_takeOut_100 0 rfl rfl ?_
      refine y_get (ci := 1) (f := 2) (n := 104) C in_X1 hO.1 rfl (by decide) wd_34 rfl rfl dX1_takeOut_101 rfl ?_
      refine y_iload_n (n := 105) C dX1_takeOut_104 1 rfl rfl ?_
      refine y_iload_n (n := 106) C dX1_takeOut_105 3 rfl rfl ?_
      refine y_iconst (n := 107) C (1 : Int32) dX1_takeOut_106 (by decide) rfl ?_
      refine y_isub (n := 108) C dX1_takeOut_107 rfl ?_
      refine y_cv (n := 111) C (fun r hr H locs la hP hS hl => y_runSN (st := []) C ky_X5_put wd_505 ⟨Nat.le_of_ble_eq_true rfl, Nat.le_of_ble_eq_true rfl⟩ (mX5_put hO.2.2.2.1 w x1 (x3 - 1) g.2.1 r hr) rfl (Nat.le_of_ble_eq_true rfl) rfl dX1_takeOut_108 hP hS hl) rfl (fun w6 hw6 => ?_)
      refine y_aload_n (n := 112) C dX1_takeOut_111 0 rfl rfl ?_
      refine y_get (ci := 1) (f := 0) (n := 115) C in_X1 hO.1 rfl (by decide) wd_32 rfl rfl dX1_takeOut_112 rfl ?_
      refine y_iload_n (n := 116) C dX1_takeOut_115 1 rfl rfl ?_
      refine y_bipush (n := 118) C (60 : Int32) dX1_takeOut_116 (by decide) rfl ?_
      refine y_imul (n := 119) C dX1_takeOut_118 rfl ?_
      refine y_iload_n (n := 120) C dX1_takeOut_119 2 rfl rfl ?_
      refine y_iadd (n := 121) C dX1_takeOut_120 rfl ?_
      refine y_iconst (n := 122) C (0 : Int32) dX1_takeOut_121 (by decide) rfl ?_
      refine y_cv (n := 125) C (fun r hr H locs la hP hS hl => y_runSN (st := []) C ky_X5_put wd_505 ⟨Nat.le_of_ble_eq_true rfl, Nat.le_of_ble_eq_true rfl⟩ (mX5_put hO.2.1 w6 ((x1 * 60) + x2) 0 g.2.1 r hr) rfl (Nat.le_of_ble_eq_true rfl) rfl dX1_takeOut_122 hP hS hl) rfl (fun w7 hw7 => ?_)
      exact y_rv C hR dX1_takeOut_125
    · refine y_aload_n (n := 69) C dX1_takeOut_68 0 rfl rfl ?_
      refine y_get (ci := 1) (f := 1) (n := 72) C in_X1 hO.1 rfl (by decide) wd_33 rfl rfl dX1_takeOut_69 rfl ?_
      refine y_iload (n := 74) C dX1_takeOut_72 4 rfl rfl ?_
      refine y_iload (n := 76) C dX1_takeOut_74 5 rfl rfl ?_
      refine y_iadd (n := 77) C dX1_takeOut_76 rfl ?_
      refine y_iconst (n := 78) C (1 : Int32) dX1_takeOut_77 (by decide) rfl ?_
      refine y_isub (n := 79) C dX1_takeOut_78 rfl ?_
      refine y_aload_n (n := 80) C dX1_takeOut_79 0 rfl rfl ?_
      refine y_get (ci := 1) (f := 1) (n := 83) C in_X1 hO.1 rfl (by decide) wd_33 rfl rfl dX1_takeOut_80 rfl ?_
      refine y_iload (n := 85) C dX1_takeOut_83 4 rfl rfl ?_
      refine y_iload (n := 87) C dX1_takeOut_85 5 rfl rfl ?_
      refine y_iadd (n := 88) C dX1_takeOut_87 rfl ?_
      refine y_cp (n := 91) C (fun r hr H locs la hP hS hl => y_runSN (st := [.int ((x4 + x6) - 1), .ref (E.2.2.2.2.1 + (o + 2))]) C ky_X5_at wd_257 ⟨Nat.le_of_ble_eq_true rfl, Nat.le_of_ble_eq_true rfl⟩ (mX5_at hO.2.2.1 w (x4 + x6) g.2.1 r hr) rfl (Nat.le_of_ble_eq_true rfl) rfl dX1_takeOut_88 hP hS hl) rfl (fun v8 hv8 => ?_)
      refine y_cv (n := 94) C (fun r hr H locs la hP hS hl => y_runSN (st := []) C ky_X5_put wd_505 ⟨Nat.le_of_ble_eq_true rfl, Nat.le_of_ble_eq_true rfl⟩ (mX5_put hO.2.2.1 w ((x4 + x6) - 1) v8 g.2.1 r hr) rfl (Nat.le_of_ble_eq_true rfl) rfl dX1_takeOut_91 hP hS hl) rfl (fun w9 hw9 => ?_)
      refine y_iinc (n := 97) (v := x6 + 1) (ls' := [(6, .int (x6 + 1)), (0, .ref (E.2.2.2.2.1 + o)), (1, .int x1), (2, .int x2), (3, .int x3), (4, .int x4)]) C dX1_takeOut_94 5 rfl rfl (by decide) rfl rfl ?_
      refine y_goto (tgt := 62) C dX1_takeOut_97 (by decide) ?_
      refine y_ls [1, 2, 3, 4, 5, 0] rfl ?_
      exact ih w9 x1 x2 x3 x4 (x6 + 1)
def lX1_takeOut_28 (o : Nat) : Nat → Wd → Int32 → Int32 → Int32 → Int32 → Int32 → Option (Wd)
  | 0, _, _, _, _, _, _ => none
  | n + 1, w, x1, x2, x3, x4, x5 =>
    if x3 ≤ x5 then
      lX1_takeOut_62 o 4096 w x1 x2 x3 x4 (x5 + 1)
    else
      (fX5_at w (o + 2) 240 (x4 + x5)).bind fun v10 =>
      if v10 = x2 then
        lX1_takeOut_62 o 4096 w x1 x2 x3 x4 (x5 + 1)
      else
        lX1_takeOut_28 o n w x1 x2 x3 x4 (x5 + 1)
set_option maxRecDepth 4000 in
theorem clX1_takeOut_28 {g : Gx} {E : Ex} (C : CC g E cX1_takeOut 7 RX1 2 43) (hR : RT g none) {o : Nat} (hO : shO E.2.2.2.2.2.1 o)  : ∀ (n : Nat) (w : Wd) (x1 : Int32) (x2 : Int32) (x3 : Int32) (x4 : Int32) (x5 : Int32), YO g E 7 (QV g E) (lX1_takeOut_28 o n w x1 x2 x3 x4 x5) w 28 [(0, .ref (E.2.2.2.2.1 + o)), (1, .int x1), (2, .int x2), (3, .int x3), (4, .int x4), (5, .int x5)] [] := by
  intro n
  induction n with
  | zero => intro w x1 x2 x3 x4 x5; exact y_no
  | succ n ih =>
    intro w x1 x2 x3 x4 x5
    rw [lX1_takeOut_28]
    refine y_iload (n := 30) C dX1_takeOut_28 5 rfl rfl ?_
    refine y_iload_n (n := 31) C dX1_takeOut_30 3 rfl rfl ?_
    refine y_icmp_ge (tgt := 56) (n := 34) C dX1_takeOut_31 (by decide) rfl (fun h4 => ?_) (fun h4 => ?_)
    · refine y_iload (n := 58) C dX1_takeOut_56 5 rfl rfl ?_
      refine y_iconst (n := 59) C (1 : Int32) dX1_takeOut_58 (by decide) rfl ?_
      refine y_iadd (n := 60) C dX1_takeOut_59 rfl ?_
      refine y_istore (n := 62) (ls' := [(6, .int (x5 + 1)), (0, .ref (E.2.2.2.2.1 + o)), (1, .int x1), (2, .int x2), (3, .int x3), (4, .int x4), (5, .int x5)]) C dX1_takeOut_60 (by decide) rfl rfl ?_
      refine y_ls [1, 2, 3, 4, 5, 0] rfl ?_
      exact clX1_takeOut_62 C hR hO 4096 w x1 x2 x3 x4 (x5 + 1)
    · refine y_aload_n (n := 35) C dX1_takeOut_34 0 rfl rfl ?_
      refine y_get (ci := 1) (f := 1) (n := 38) C in_X1 hO.1 rfl (by decide) wd_33 rfl rfl dX1_takeOut_35 rfl ?_
      refine y_iload (n := 40) C dX1_takeOut_38 4 rfl rfl ?_
      refine y_iload (n := 42) C dX1_takeOut_40 5 rfl rfl ?_
      refine y_iadd (n := 43) C dX1_takeOut_42 rfl ?_
      refine y_cp (n := 46) C (fun r hr H locs la hP hS hl => y_runSN (st := []) C ky_X5_at wd_257 ⟨Nat.le_of_ble_eq_true rfl, Nat.le_of_ble_eq_true rfl⟩ (mX5_at hO.2.2.1 w (x4 + x5) g.2.1 r hr) rfl (Nat.le_of_ble_eq_true rfl) rfl dX1_takeOut_43 hP hS hl) rfl (fun v10 hv10 => ?_)
      refine y_iload_n (n := 47) C dX1_takeOut_46 2 rfl rfl ?_
      refine y_icmp_eq (tgt := 56) (n := 50) C dX1_takeOut_47 (by decide) rfl (fun h11 => ?_) (fun h11 => ?_)
      · refine y_iload (n := 58) C dX1_takeOut_56 5 rfl rfl ?_
        refine y_iconst (n := 59) C (1 : Int32) dX1_takeOut_58 (by decide) rfl ?_
        refine y_iadd (n := 60) C dX1_takeOut_59 rfl ?_
        refine y_istore (n := 62) (ls' := [(6, .int (x5 + 1)), (0, .ref (E.2.2.2.2.1 + o)), (1, .int x1), (2, .int x2), (3, .int x3), (4, .int x4), (5, .int x5)]) C dX1_takeOut_60 (by decide) rfl rfl ?_
        refine y_ls [1, 2, 3, 4, 5, 0] rfl ?_
        exact clX1_takeOut_62 C hR hO 4096 w x1 x2 x3 x4 (x5 + 1)
      · refine y_iinc (n := 53) (v := x5 + 1) (ls' := [(5, .int (x5 + 1)), (0, .ref (E.2.2.2.2.1 + o)), (1, .int x1), (2, .int x2), (3, .int x3), (4, .int x4)]) C dX1_takeOut_50 5 rfl rfl (by decide) rfl rfl ?_
        refine y_goto (tgt := 28) C dX1_takeOut_53 (by decide) ?_
        refine y_ls [1, 2, 3, 4, 5, 0] rfl ?_
        exact ih w x1 x2 x3 x4 (x5 + 1)
def fX1_takeOut (w : Wd) (o : Nat) (a1 : Int32) (a2 : Int32) : Option (Wd) :=
  (fX1_scoreOf w o a1 a2).bind fun v1 =>
  if v1 = 0 then
    some w
  else
    (fX5_at w (o + 3) 6 a1).bind fun v3 =>
    lX1_takeOut_28 o 4096 w a1 a2 v3 (a1 * 40) 0
set_option maxRecDepth 4000 in
theorem eX1_takeOut {g : Gx} {E : Ex} (C : CC g E cX1_takeOut 7 RX1 2 43) (hR : RT g none) {o : Nat} (hO : shO E.2.2.2.2.2.1 o) (w : Wd) (a1 : Int32) (a2 : Int32) : YO g E 7 (QV g E) (fX1_takeOut w o a1 a2) w 0 [(0, .ref (E.2.2.2.2.1 + o)), (1, .int a1), (2, .int a2)] [] := by
  unfold fX1_takeOut
  refine y_aload_n (n := 1) C dX1_takeOut_0 0 rfl rfl ?_
  refine y_iload_n (n := 2) C dX1_takeOut_1 1 rfl rfl ?_
  refine y_iload_n (n := 3) C dX1_takeOut_2 2 rfl rfl ?_
  refine y_cp (n := 6) C (fun r hr H locs la hP hS hl => y_runV (ci := 1) (st := []) C ky_X1_scoreOf wd_252 ⟨Nat.le_of_ble_eq_true rfl, Nat.le_of_ble_eq_true rfl⟩ hO.1 rfl (mX1_scoreOf hO w a1 a2 g.2.1 r hr) rfl (Nat.le_of_ble_eq_true rfl) rfl dX1_takeOut_3 hP hS hl) rfl (fun v1 hv1 => ?_)
  refine y_if_ne (tgt := 10) (n := 9) C dX1_takeOut_6 (by decide) rfl (fun h2 => ?_) (fun h2 => ?_)
  · refine y_aload_n (n := 11) C dX1_takeOut_10 0 rfl rfl ?_
    refine y_get (ci := 1) (f := 2) (n := 14) C in_X1 hO.1 rfl (by decide) wd_34 rfl rfl dX1_takeOut_11 rfl ?_
    refine y_iload_n (n := 15) C dX1_takeOut_14 1 rfl rfl ?_
    refine y_cp (n := 18) C (fun r hr H locs la hP hS hl => y_runSN (st := []) C ky_X5_at wd_257 ⟨Nat.le_of_ble_eq_true rfl, Nat.le_of_ble_eq_true rfl⟩ (mX5_at hO.2.2.2.1 w a1 g.2.1 r hr) rfl (Nat.le_of_ble_eq_true rfl) rfl dX1_takeOut_15 hP hS hl) rfl (fun v3 hv3 => ?_)
    refine y_istore_n (n := 19) (ls' := [(3, .int v3), (0, .ref (E.2.2.2.2.1 + o)), (1, .int a1), (2, .int a2)]) C dX1_takeOut_18 (by decide) rfl rfl ?_
    refine y_iload_n (n := 20) C dX1_takeOut_19 2 rfl rfl ?_
    refine y_bipush (n := 22) C (40 : Int32) dX1_takeOut_20 (by decide) rfl ?_
    refine y_imul (n := 23) C dX1_takeOut_22 rfl ?_
    refine y_istore (n := 25) (ls' := [(4, .int (a1 * 40)), (3, .int v3), (0, .ref (E.2.2.2.2.1 + o)), (1, .int a1), (2, .int a2)]) C dX1_takeOut_23 (by decide) rfl rfl ?_
    refine y_iconst (n := 26) C (0 : Int32) dX1_takeOut_25 (by decide) rfl ?_
    refine y_istore (n := 28) (ls' := [(5, .int 0), (4, .int (a1 * 40)), (3, .int v3), (0, .ref (E.2.2.2.2.1 + o)), (1, .int a1), (2, .int a2)]) C dX1_takeOut_26 (by decide) rfl rfl ?_
    refine y_ls [3, 4, 5, 2, 1, 0] rfl ?_
    exact clX1_takeOut_28 C hR hO 4096 w a1 a2 v3 (a1 * 40) 0
  · exact y_rv C hR dX1_takeOut_9
theorem mX1_takeOut {E : Ex} {o : Nat} (hO : shO E.2.2.2.2.2.1 o) (w : Wd) (a1 : Int32) (a2 : Int32) (l : Launch) : MV l yX1_takeOut cX1_takeOut 7 none { frames := 2, cells := 0, slots := 0, locals := 43 } E [.ref (E.2.2.2.2.1 + o), .int a1, .int a2] w (fX1_takeOut w o a1 a2) :=
  y_met (Qc := yQv E) (by decide +kernel) (Nat.le_of_ble_eq_true rfl) (fun g C hR => eX1_takeOut C hR hO w a1 a2) l
