/-! L_low L_placeOf L_fill -/
def fL_low (w : Wd) (a1 : Int32) (a2 : Int32) : Option (Int32) :=
  if a2 = 0 then none else
    some ((a1 &&& 2147483647) - (a1 &&& 2147483647) / a2 * a2)
set_option maxRecDepth 4000 in
theorem eL_low {g : Gx} {E : Ex} (C : CC g E cL_low 2 RL 0 0) (hR : RT g (some .int))  (w : Wd) (a1 : Int32) (a2 : Int32) : YO g E 2 (QP g E w) (fL_low w a1 a2) w 0 [(0, .int a1), (1, .int a2)] [] := by
  unfold fL_low
  refine y_iload_n (n := 1) C dL_low_0 0 rfl rfl ?_
  refine y_ldc (n := 3) C (2147483647) wd_466 dL_low_1 rfl ?_
  refine y_iand (n := 4) C dL_low_3 rfl ?_
  refine y_iload_n (n := 5) C dL_low_4 1 rfl rfl ?_
  refine y_iremv (n := 6) C dL_low_5 rfl (fun h1 => ?_)
  exact y_rp C hR dL_low_6
theorem mL_low {E : Ex}  (w : Wd) (a1 : Int32) (a2 : Int32) (l : Launch) : MP l yL_low cL_low 2 (some .int) { frames := 0, cells := 0, slots := 0, locals := 0 } E [.int a1, .int a2] w (fL_low w a1 a2) :=
  y_met (Qc := fun r => yQi E (r, w)) (by decide +kernel) (Nat.le_of_ble_eq_true rfl) (fun g C hR => eL_low C hR  w a1 a2) l
def lL_placeOf_10 (o1 : Nat) : Nat → Wd → Int32 → Int32 → Int32 → Int32 → Option (Int32)
  | 0, _, _, _, _, _ => none
  | n + 1, w, x1, x2, x3, x4 =>
    if x3 ≤ x4 then
      some (-1)
    else
      (fX5_entry w o1 x1 x4 0).bind fun v3 =>
      if v3 = x2 then
        some x4
      else
        lL_placeOf_10 o1 n w x1 x2 x3 (x4 + 1)
set_option maxRecDepth 4000 in
theorem clL_placeOf_10 {g : Gx} {E : Ex} (C : CC g E cL_placeOf 5 RL 4 89) (hR : RT g (some .int)) {o1 : Nat} (hO1 : shB E.2.2.2.2.2.1 o1) (w : Wd)  : ∀ (n : Nat) (x1 : Int32) (x2 : Int32) (x3 : Int32) (x4 : Int32), YO g E 5 (QP g E w) (lL_placeOf_10 o1 n w x1 x2 x3 x4) w 10 [(0, .ref (E.2.2.2.2.1 + o1)), (1, .int x1), (2, .int x2), (3, .int x3), (4, .int x4)] [] := by
  intro n
  induction n with
  | zero => intro x1 x2 x3 x4; exact y_no
  | succ n ih =>
    intro x1 x2 x3 x4
    rw [lL_placeOf_10]
    refine y_iload (n := 12) C dL_placeOf_10 4 rfl rfl ?_
    refine y_iload_n (n := 13) C dL_placeOf_12 3 rfl rfl ?_
    refine y_icmp_ge (tgt := 37) (n := 16) C dL_placeOf_13 (by decide) rfl (fun h2 => ?_) (fun h2 => ?_)
    · refine y_iconst (n := 38) C ((-1) : Int32) dL_placeOf_37 (by decide) rfl ?_
      exact y_rp C hR dL_placeOf_38
    · refine y_aload_n (n := 17) C dL_placeOf_16 0 rfl rfl ?_
      refine y_iload_n (n := 18) C dL_placeOf_17 1 rfl rfl ?_
      refine y_iload (n := 20) C dL_placeOf_18 4 rfl rfl ?_
      refine y_iconst (n := 21) C (0 : Int32) dL_placeOf_20 (by decide) rfl ?_
      refine y_cp (n := 24) C (fun r hr H locs la hP hS hl => y_runV (ci := 5) (st := []) C ky_X5_entry wd_487 ⟨Nat.le_of_ble_eq_true rfl, Nat.le_of_ble_eq_true rfl⟩ hO1.1 rfl (mX5_entry hO1 w x1 x4 0 g.2.1 r hr) rfl (Nat.le_of_ble_eq_true rfl) rfl dL_placeOf_21 hP hS hl) rfl (fun v3 hv3 => ?_)
      refine y_iload_n (n := 25) C dL_placeOf_24 2 rfl rfl ?_
      refine y_icmp_ne (tgt := 31) (n := 28) C dL_placeOf_25 (by decide) rfl (fun h4 => ?_) (fun h4 => ?_)
      · refine y_iinc (n := 34) (v := x4 + 1) (ls' := [(4, .int (x4 + 1)), (0, .ref (E.2.2.2.2.1 + o1)), (1, .int x1), (2, .int x2), (3, .int x3)]) C dL_placeOf_31 4 rfl rfl (by decide) rfl rfl ?_
        refine y_goto (tgt := 10) C dL_placeOf_34 (by decide) ?_
        refine y_ls [1, 2, 3, 4, 0] rfl ?_
        exact ih x1 x2 x3 (x4 + 1)
      · refine y_iload (n := 30) C dL_placeOf_28 4 rfl rfl ?_
        exact y_rp C hR dL_placeOf_30
def fL_placeOf (w : Wd) (o1 : Nat) (a2 : Int32) (a3 : Int32) : Option (Int32) :=
  (fX5_list w o1 a2 0).bind fun v1 =>
  lL_placeOf_10 o1 4096 w a2 a3 v1 0
set_option maxRecDepth 4000 in
theorem eL_placeOf {g : Gx} {E : Ex} (C : CC g E cL_placeOf 5 RL 4 89) (hR : RT g (some .int)) {o1 : Nat} (hO1 : shB E.2.2.2.2.2.1 o1) (w : Wd) (a2 : Int32) (a3 : Int32) : YO g E 5 (QP g E w) (fL_placeOf w o1 a2 a3) w 0 [(0, .ref (E.2.2.2.2.1 + o1)), (1, .int a2), (2, .int a3)] [] := by
  unfold fL_placeOf
  refine y_aload_n (n := 1) C dL_placeOf_0 0 rfl rfl ?_
  refine y_iload_n (n := 2) C dL_placeOf_1 1 rfl rfl ?_
  refine y_iconst (n := 3) C (0 : Int32) dL_placeOf_2 (by decide) rfl ?_
  refine y_cp (n := 6) C (fun r hr H locs la hP hS hl => y_runV (ci := 5) (st := []) C ky_X5_list wd_476 ⟨Nat.le_of_ble_eq_true rfl, Nat.le_of_ble_eq_true rfl⟩ hO1.1 rfl (mX5_list hO1 w a2 0 g.2.1 r hr) rfl (Nat.le_of_ble_eq_true rfl) rfl dL_placeOf_3 hP hS hl) rfl (fun v1 hv1 => ?_)
  refine y_istore_n (n := 7) (ls' := [(3, .int v1), (0, .ref (E.2.2.2.2.1 + o1)), (1, .int a2), (2, .int a3)]) C dL_placeOf_6 (by decide) rfl rfl ?_
  refine y_iconst (n := 8) C (0 : Int32) dL_placeOf_7 (by decide) rfl ?_
  refine y_istore (n := 10) (ls' := [(4, .int 0), (3, .int v1), (0, .ref (E.2.2.2.2.1 + o1)), (1, .int a2), (2, .int a3)]) C dL_placeOf_8 (by decide) rfl rfl ?_
  refine y_ls [2, 3, 4, 1, 0] rfl ?_
  exact clL_placeOf_10 C hR hO1 w 4096 a2 a3 v1 0
theorem mL_placeOf {E : Ex} {o1 : Nat} (hO1 : shB E.2.2.2.2.2.1 o1) (w : Wd) (a2 : Int32) (a3 : Int32) (l : Launch) : MP l yL_placeOf cL_placeOf 5 (some .int) { frames := 4, cells := 0, slots := 0, locals := 89 } E [.ref (E.2.2.2.2.1 + o1), .int a2, .int a3] w (fL_placeOf w o1 a2 a3) :=
  y_met (Qc := fun r => yQi E (r, w)) (by decide +kernel) (Nat.le_of_ble_eq_true rfl) (fun g C hR => eL_placeOf C hR hO1 w a2 a3) l
def bL_fill_204 (y : Ly) (K17 : Wd → Int32 → Int32 → Int32 → Int32 → Option (Int32 × Wd)) (w : Wd) (o1 L : Nat) (xs : Nat → Int32) (x2 : Int32) (x3 : Int32) (x4 : Int32) (x5 : Int32) (x6 : Int32) (x7 : Int32) (s0 : Int32) (s1 : Int32) : Option (Int32 × Wd) :=
  if s1 = s0 then
    (fL_isInOrder w o1 x2).bind fun v21 =>
    if v21 = 0 then
      (rtZ 0).bind fun z => some (z, w)
    else
      (fL_low w (x6 >>> (15 &&& 31)) 9).bind fun v23 =>
      if v23 = 0 then
        ob2 (fX5_drop y w o1 x2 x7) fun v25 w26 =>
        (fX5_list w26 o1 x2 0).bind fun v27 =>
        if v25 = v27 then
          (fL_placeOf w26 o1 x2 x7).bind fun v29 =>
          if 0 ≤ v29 then
            (rtZ 0).bind fun z => some (z, w26)
          else
            ob2 (fX5_drop y w26 o1 x2 x7) fun v31 w32 =>
            if v31 = (-1) then
              K17 w32 x2 x3 x4 (x5 + 1)
            else
              (rtZ 0).bind fun z => some (z, w32)
        else
          (rtZ 0).bind fun z => some (z, w26)
      else
        K17 w x2 x3 x4 (x5 + 1)
  else
    (rtZ 0).bind fun z => some (z, w)
set_option maxRecDepth 4000 in
theorem cbL_fill_204 {g : Gx} {E : Ex} (C : CC g E cL_fill 14 RL 6 157) (hR : RT g (some .boolean)) {o1 L : Nat} {xs : Nat → Int32} (hO1 : shB E.2.2.2.2.2.1 o1) (HX : SX E L xs) (w : Wd) (K17 : Wd → Int32 → Int32 → Int32 → Int32 → Option (Int32 × Wd)) (hK17 : ∀ (w : Wd) (x2 : Int32) (x3 : Int32) (x4 : Int32) (x5 : Int32), YO g E 14 (QI g E) (K17 w x2 x3 x4 x5) w 17 [(0, .ref (E.2.2.2.2.1 + o1)), (1, .ref (E.2.2.2.2.2.2.1 0)), (2, .int x2), (3, .int x3), (4, .int x4), (5, .int x5)] []) (x2 : Int32) (x3 : Int32) (x4 : Int32) (x5 : Int32) (x6 : Int32) (x7 : Int32) (s0 : Int32) (s1 : Int32) : YO g E 14 (QI g E) (bL_fill_204 E.2.2.2.2.2.1 K17 w o1 L xs x2 x3 x4 x5 x6 x7 s0 s1) w 204 [(0, .ref (E.2.2.2.2.1 + o1)), (1, .ref (E.2.2.2.2.2.2.1 0)), (2, .int x2), (3, .int x3), (4, .int x4), (5, .int x5), (6, .int x6), (7, .int x7)] [.int s0, .int s1] := by
  unfold bL_fill_204
  refine y_icmp_ne (tgt := 215) (n := 207) C dL_fill_204 (by decide) rfl (fun h20 => ?_) (fun h20 => ?_)
  · refine y_iconst (n := 216) C (0 : Int32) dL_fill_215 (by decide) rfl ?_
    exact y_rzi C hR dL_fill_216
  · refine y_aload_n (n := 208) C dL_fill_207 0 rfl rfl ?_
    refine y_iload_n (n := 209) C dL_fill_208 2 rfl rfl ?_
    refine y_cp (n := 212) C (fun r hr H locs la hP hS hl => y_runS (st := []) C ky_L_isInOrder wd_511 ⟨Nat.le_of_ble_eq_true rfl, Nat.le_of_ble_eq_true rfl⟩ (mL_isInOrder hO1 w x2 g.2.1 r hr) rfl (Nat.le_of_ble_eq_true rfl) rfl dL_fill_209 hP hS hl) rfl (fun v21 hv21 => ?_)
    refine y_if_ne (tgt := 217) (n := 215) C dL_fill_212 (by decide) rfl (fun h22 => ?_) (fun h22 => ?_)
    · refine y_iload (n := 219) C dL_fill_217 6 rfl rfl ?_
      refine y_bipush (n := 221) C (15 : Int32) dL_fill_219 (by decide) rfl ?_
      refine y_ishr (n := 222) C dL_fill_221 rfl ?_
      refine y_bipush (n := 224) C (9 : Int32) dL_fill_222 (by decide) rfl ?_
      refine y_cp (n := 227) C (fun r hr H locs la hP hS hl => y_runS (st := []) C ky_L_low wd_463 ⟨Nat.le_of_ble_eq_true rfl, Nat.le_of_ble_eq_true rfl⟩ (mL_low w (x6 >>> (15 &&& 31)) 9 g.2.1 r hr) rfl (Nat.le_of_ble_eq_true rfl) rfl dL_fill_224 hP hS hl) rfl (fun v23 hv23 => ?_)
      refine y_if_ne (tgt := 269) (n := 230) C dL_fill_227 (by decide) rfl (fun h24 => ?_) (fun h24 => ?_)
      · refine y_iinc (n := 272) (v := x5 + 1) (ls' := [(5, .int (x5 + 1)), (0, .ref (E.2.2.2.2.1 + o1)), (1, .ref (E.2.2.2.2.2.2.1 0)), (2, .int x2), (3, .int x3), (4, .int x4), (6, .int x6), (7, .int x7)]) C dL_fill_269 5 rfl rfl (by decide) rfl rfl ?_
        refine y_goto (tgt := 17) C dL_fill_272 (by decide) ?_
        refine y_ls [1, 2, 3, 4, 5, 0] rfl ?_
        exact hK17 w x2 x3 x4 (x5 + 1)
      · refine y_aload_n (n := 231) C dL_fill_230 0 rfl rfl ?_
        refine y_iload_n (n := 232) C dL_fill_231 2 rfl rfl ?_
        refine y_iload (n := 234) C dL_fill_232 7 rfl rfl ?_
        refine y_ci2 (n := 237) C (fun r hr H locs la hP hS hl => y_runV (ci := 5) (st := []) C ky_X5_drop wd_514 ⟨Nat.le_of_ble_eq_true rfl, Nat.le_of_ble_eq_true rfl⟩ hO1.1 rfl (mX5_drop hO1 w x2 x7 g.2.1 r hr) rfl (Nat.le_of_ble_eq_true rfl) rfl dL_fill_234 hP hS hl) rfl (fun v25 w26 hv25 => ?_)
        refine y_aload_n (n := 238) C dL_fill_237 0 rfl rfl ?_
        refine y_iload_n (n := 239) C dL_fill_238 2 rfl rfl ?_
        refine y_iconst (n := 240) C (0 : Int32) dL_fill_239 (by decide) rfl ?_
        refine y_cp (n := 243) C (fun r hr H locs la hP hS hl => y_runV (ci := 5) (st := [.int v25]) C ky_X5_list wd_476 ⟨Nat.le_of_ble_eq_true rfl, Nat.le_of_ble_eq_true rfl⟩ hO1.1 rfl (mX5_list hO1 w26 x2 0 g.2.1 r hr) rfl (Nat.le_of_ble_eq_true rfl) rfl dL_fill_240 hP hS hl) rfl (fun v27 hv27 => ?_)
        refine y_icmp_ne (tgt := 267) (n := 246) C dL_fill_243 (by decide) rfl (fun h28 => ?_) (fun h28 => ?_)
        · refine y_iconst (n := 268) C (0 : Int32) dL_fill_267 (by decide) rfl ?_
          exact y_rzi C hR dL_fill_268
        · refine y_aload_n (n := 247) C dL_fill_246 0 rfl rfl ?_
          refine y_iload_n (n := 248) C dL_fill_247 2 rfl rfl ?_
          refine y_iload (n := 250) C dL_fill_248 7 rfl rfl ?_
          refine y_cp (n := 253) C (fun r hr H locs la hP hS hl => y_runS (st := []) C ky_L_placeOf wd_473 ⟨Nat.le_of_ble_eq_true rfl, Nat.le_of_ble_eq_true rfl⟩ (mL_placeOf hO1 w26 x2 x7 g.2.1 r hr) rfl (Nat.le_of_ble_eq_true rfl) rfl dL_fill_250 hP hS hl) rfl (fun v29 hv29 => ?_)
          refine y_if_ge (tgt := 267) (n := 256) C dL_fill_253 (by decide) rfl (fun h30 => ?_) (fun h30 => ?_)
          · refine y_iconst (n := 268) C (0 : Int32) dL_fill_267 (by decide) rfl ?_
            exact y_rzi C hR dL_fill_268
          · refine y_aload_n (n := 257) C dL_fill_256 0 rfl rfl ?_
            refine y_iload_n (n := 258) C dL_fill_257 2 rfl rfl ?_
            refine y_iload (n := 260) C dL_fill_258 7 rfl rfl ?_
            refine y_ci2 (n := 263) C (fun r hr H locs la hP hS hl => y_runV (ci := 5) (st := []) C ky_X5_drop wd_514 ⟨Nat.le_of_ble_eq_true rfl, Nat.le_of_ble_eq_true rfl⟩ hO1.1 rfl (mX5_drop hO1 w26 x2 x7 g.2.1 r hr) rfl (Nat.le_of_ble_eq_true rfl) rfl dL_fill_260 hP hS hl) rfl (fun v31 w32 hv31 => ?_)
            refine y_iconst (n := 264) C ((-1) : Int32) dL_fill_263 (by decide) rfl ?_
            refine y_icmp_eq (tgt := 269) (n := 267) C dL_fill_264 (by decide) rfl (fun h33 => ?_) (fun h33 => ?_)
            · refine y_iinc (n := 272) (v := x5 + 1) (ls' := [(5, .int (x5 + 1)), (0, .ref (E.2.2.2.2.1 + o1)), (1, .ref (E.2.2.2.2.2.2.1 0)), (2, .int x2), (3, .int x3), (4, .int x4), (6, .int x6), (7, .int x7)]) C dL_fill_269 5 rfl rfl (by decide) rfl rfl ?_
              refine y_goto (tgt := 17) C dL_fill_272 (by decide) ?_
              refine y_ls [1, 2, 3, 4, 5, 0] rfl ?_
              exact hK17 w32 x2 x3 x4 (x5 + 1)
            · refine y_iconst (n := 268) C (0 : Int32) dL_fill_267 (by decide) rfl ?_
              exact y_rzi C hR dL_fill_268
    · refine y_iconst (n := 216) C (0 : Int32) dL_fill_215 (by decide) rfl ?_
      exact y_rzi C hR dL_fill_216
def bL_fill_177 (y : Ly) (K17 : Wd → Int32 → Int32 → Int32 → Int32 → Option (Int32 × Wd)) (w : Wd) (o1 L : Nat) (xs : Nat → Int32) (x2 : Int32) (x3 : Int32) (x4 : Int32) (x5 : Int32) (x6 : Int32) (x7 : Int32) (x9 : Int32) (x10 : Int32) (s0 : Int32) : Option (Int32 × Wd) :=
  if s0 = 0 then
    (rtZ 0).bind fun z => some (z, w)
  else
    (fX5_list w o1 x2 0).bind fun v18 =>
    if 0 ≤ x9 then
      bL_fill_204 y K17 w o1 L xs x2 x3 x4 x5 x6 x7 x10 v18
    else
      bL_fill_204 y K17 w o1 L xs x2 x3 x4 x5 x6 x7 (x10 + 1) v18
set_option maxRecDepth 4000 in
theorem cbL_fill_177 {g : Gx} {E : Ex} (C : CC g E cL_fill 14 RL 6 157) (hR : RT g (some .boolean)) {o1 L : Nat} {xs : Nat → Int32} (hO1 : shB E.2.2.2.2.2.1 o1) (HX : SX E L xs) (w : Wd) (K17 : Wd → Int32 → Int32 → Int32 → Int32 → Option (Int32 × Wd)) (hK17 : ∀ (w : Wd) (x2 : Int32) (x3 : Int32) (x4 : Int32) (x5 : Int32), YO g E 14 (QI g E) (K17 w x2 x3 x4 x5) w 17 [(0, .ref (E.2.2.2.2.1 + o1)), (1, .ref (E.2.2.2.2.2.2.1 0)), (2, .int x2), (3, .int x3), (4, .int x4), (5, .int x5)] []) (x2 : Int32) (x3 : Int32) (x4 : Int32) (x5 : Int32) (x6 : Int32) (x7 : Int32) (x9 : Int32) (x10 : Int32) (s0 : Int32) : YO g E 14 (QI g E) (bL_fill_177 E.2.2.2.2.2.1 K17 w o1 L xs x2 x3 x4 x5 x6 x7 x9 x10 s0) w 177 [(0, .ref (E.2.2.2.2.1 + o1)), (1, .ref (E.2.2.2.2.2.2.1 0)), (2, .int x2), (3, .int x3), (4, .int x4), (5, .int x5), (6, .int x6), (7, .int x7), (9, .int x9), (10, .int x10)] [.int s0] := by
  unfold bL_fill_177
  refine y_istore (n := 179) (ls' := [(13, .int s0), (0, .ref (E.2.2.2.2.1 + o1)), (1, .ref (E.2.2.2.2.2.2.1 0)), (2, .int x2), (3, .int x3), (4, .int x4), (5, .int x5), (6, .int x6), (7, .int x7), (9, .int x9), (10, .int x10)]) C dL_fill_177 (by decide) rfl rfl ?_
  refine y_iload (n := 181) C dL_fill_179 0 rfl rfl ?_
  refine y_if_eq (tgt := 215) (n := 184) C dL_fill_181 (by decide) rfl (fun h17 => ?_) (fun h17 => ?_)
  · refine y_iconst (n := 216) C (0 : Int32) dL_fill_215 (by decide) rfl ?_
    exact y_rzi C hR dL_fill_216
  · refine y_aload_n (n := 185) C dL_fill_184 1 rfl rfl ?_
    refine y_iload_n (n := 186) C dL_fill_185 3 rfl rfl ?_
    refine y_iconst (n := 187) C (0 : Int32) dL_fill_186 (by decide) rfl ?_
    refine y_cp (n := 190) C (fun r hr H locs la hP hS hl => y_runV (ci := 5) (st := []) C ky_X5_list wd_476 ⟨Nat.le_of_ble_eq_true rfl, Nat.le_of_ble_eq_true rfl⟩ hO1.1 rfl (mX5_list hO1 w x2 0 g.2.1 r hr) rfl (Nat.le_of_ble_eq_true rfl) rfl dL_fill_187 hP hS hl) rfl (fun v18 hv18 => ?_)
    refine y_iload (n := 192) C dL_fill_190 9 rfl rfl ?_
    refine y_if_ge (tgt := 202) (n := 195) C dL_fill_192 (by decide) rfl (fun h19 => ?_) (fun h19 => ?_)
    · refine y_iload (n := 204) C dL_fill_202 10 rfl rfl ?_
      refine y_ls [1, 2, 3, 4, 5, 6, 7, 8] rfl ?_
      exact cbL_fill_204 C hR hO1 HX w K17 hK17 x2 x3 x4 x5 x6 x7 x10 v18
    · refine y_iload (n := 197) C dL_fill_195 10 rfl rfl ?_
      refine y_iconst (n := 198) C (1 : Int32) dL_fill_197 (by decide) rfl ?_
      refine y_iadd (n := 199) C dL_fill_198 rfl ?_
      refine y_goto (tgt := 204) C dL_fill_199 (by decide) ?_
      refine y_ls [1, 2, 3, 4, 5, 6, 7, 8] rfl ?_
      exact cbL_fill_204 C hR hO1 HX w K17 hK17 x2 x3 x4 x5 x6 x7 (x10 + 1) v18
def bL_fill_176 (y : Ly) (K17 : Wd → Int32 → Int32 → Int32 → Int32 → Option (Int32 × Wd)) (w : Wd) (o1 L : Nat) (xs : Nat → Int32) (x2 : Int32) (x3 : Int32) (x4 : Int32) (x5 : Int32) (x6 : Int32) (x7 : Int32) (x9 : Int32) (x10 : Int32) : Option (Int32 × Wd) :=
  bL_fill_177 y K17 w o1 L xs x2 x3 x4 x5 x6 x7 x9 x10 0
set_option maxRecDepth 4000 in
theorem cbL_fill_176 {g : Gx} {E : Ex} (C : CC g E cL_fill 14 RL 6 157) (hR : RT g (some .boolean)) {o1 L : Nat} {xs : Nat → Int32} (hO1 : shB E.2.2.2.2.2.1 o1) (HX : SX E L xs) (w : Wd) (K17 : Wd → Int32 → Int32 → Int32 → Int32 → Option (Int32 × Wd)) (hK17 : ∀ (w : Wd) (x2 : Int32) (x3 : Int32) (x4 : Int32) (x5 : Int32), YO g E 14 (QI g E) (K17 w x2 x3 x4 x5) w 17 [(0, .ref (E.2.2.2.2.1 + o1)), (1, .ref (E.2.2.2.2.2.2.1 0)), (2, .int x2), (3, .int x3), (4, .int x4), (5, .int x5)] []) (x2 : Int32) (x3 : Int32) (x4 : Int32) (x5 : Int32) (x6 : Int32) (x7 : Int32) (x9 : Int32) (x10 : Int32) : YO g E 14 (QI g E) (bL_fill_176 E.2.2.2.2.2.1 K17 w o1 L xs x2 x3 x4 x5 x6 x7 x9 x10) w 176 [(0, .ref (E.2.2.2.2.1 + o1)), (1, .ref (E.2.2.2.2.2.2.1 0)), (2, .int x2), (3, .int x3), (4, .int x4), (5, .int x5), (6, .int x6), (7, .int x7), (9, .int x9), (10, .int x10)] [] := by
  unfold bL_fill_176
  refine y_iconst (n := 177) C (0 : Int32) dL_fill_176 (by decide) rfl ?_
  exact cbL_fill_177 C hR hO1 HX w K17 hK17 x2 x3 x4 x5 x6 x7 x9 x10 0
def bL_fill_113 (y : Ly) (K17 : Wd → Int32 → Int32 → Int32 → Int32 → Option (Int32 × Wd)) (w : Wd) (o1 L : Nat) (xs : Nat → Int32) (x2 : Int32) (x3 : Int32) (x4 : Int32) (x5 : Int32) (x6 : Int32) (x7 : Int32) (x8 : Int32) (x9 : Int32) (x10 : Int32) (s0 : Int32) : Option (Int32 × Wd) :=
  ob2 (fX5_add y w o1 x2 x7 x8) fun v12 w13 =>
  if s0 = 0 then
    (fX5_entry w13 o1 x2 v12 0).bind fun v15 =>
    if v15 = x7 then
      (fX5_entry w13 o1 x2 v12 1).bind fun v34 =>
      if v34 = x8 then
        bL_fill_177 y K17 w13 o1 L xs x2 x3 x4 x5 x6 x7 x9 x10 1
      else
        bL_fill_176 y K17 w13 o1 L xs x2 x3 x4 x5 x6 x7 x9 x10
    else
      bL_fill_176 y K17 w13 o1 L xs x2 x3 x4 x5 x6 x7 x9 x10
  else
    if v12 = (-5) then
      bL_fill_177 y K17 w13 o1 L xs x2 x3 x4 x5 x6 x7 x9 x10 1
    else
      bL_fill_177 y K17 w13 o1 L xs x2 x3 x4 x5 x6 x7 x9 x10 0
set_option maxRecDepth 4000 in
theorem cbL_fill_113 {g : Gx} {E : Ex} (C : CC g E cL_fill 14 RL 6 157) (hR : RT g (some .boolean)) {o1 L : Nat} {xs : Nat → Int32} (hO1 : shB E.2.2.2.2.2.1 o1) (HX : SX E L xs) (w : Wd) (K17 : Wd → Int32 → Int32 → Int32 → Int32 → Option (Int32 × Wd)) (hK17 : ∀ (w : Wd) (x2 : Int32) (x3 : Int32) (x4 : Int32) (x5 : Int32), YO g E 14 (QI g E) (K17 w x2 x3 x4 x5) w 17 [(0, .ref (E.2.2.2.2.1 + o1)), (1, .ref (E.2.2.2.2.2.2.1 0)), (2, .int x2), (3, .int x3), (4, .int x4), (5, .int x5)] []) (x2 : Int32) (x3 : Int32) (x4 : Int32) (x5 : Int32) (x6 : Int32) (x7 : Int32) (x8 : Int32) (x9 : Int32) (x10 : Int32) (s0 : Int32) : YO g E 14 (QI g E) (bL_fill_113 E.2.2.2.2.2.1 K17 w o1 L xs x2 x3 x4 x5 x6 x7 x8 x9 x10 s0) w 113 [(0, .ref (E.2.2.2.2.1 + o1)), (1, .ref (E.2.2.2.2.2.2.1 0)), (2, .int x2), (3, .int x3), (4, .int x4), (5, .int x5), (6, .int x6), (7, .int x7), (8, .int x8), (9, .int x9), (10, .int x10)] [.int s0] := by
  unfold bL_fill_113
  refine y_istore (n := 115) (ls' := [(11, .int s0), (0, .ref (E.2.2.2.2.1 + o1)), (1, .ref (E.2.2.2.2.2.2.1 0)), (2, .int x2), (3, .int x3), (4, .int x4), (5, .int x5), (6, .int x6), (7, .int x7), (8, .int x8), (9, .int x9), (10, .int x10)]) C dL_fill_113 (by decide) rfl rfl ?_
  refine y_aload_n (n := 116) C dL_fill_115 1 rfl rfl ?_
  refine y_iload_n (n := 117) C dL_fill_116 3 rfl rfl ?_
  refine y_iload (n := 119) C dL_fill_117 8 rfl rfl ?_
  refine y_iload (n := 121) C dL_fill_119 9 rfl rfl ?_
  refine y_ci2 (n := 124) C (fun r hr H locs la hP hS hl => y_runV (ci := 5) (st := []) C ky_X5_add wd_492 ⟨Nat.le_of_ble_eq_true rfl, Nat.le_of_ble_eq_true rfl⟩ hO1.1 rfl (mX5_add hO1 w x2 x7 x8 g.2.1 r hr) rfl (Nat.le_of_ble_eq_true rfl) rfl dL_fill_121 hP hS hl) rfl (fun v12 w13 hv12 => ?_)
  refine y_istore (n := 126) (ls' := [(12, .int v12), (11, .int s0), (0, .ref (E.2.2.2.2.1 + o1)), (1, .ref (E.2.2.2.2.2.2.1 0)), (2, .int x2), (3, .int x3), (4, .int x4), (5, .int x5), (6, .int x6), (7, .int x7), (8, .int x8), (9, .int x9), (10, .int x10)]) C dL_fill_124 (by decide) rfl rfl ?_
  refine y_iload (n := 128) C dL_fill_126 1 rfl rfl ?_
  refine y_if_eq (tgt := 146) (n := 131) C dL_fill_128 (by decide) rfl (fun h14 => ?_) (fun h14 => ?_)
  · refine y_aload_n (n := 147) C dL_fill_146 2 rfl rfl ?_
    refine y_iload_n (n := 148) C dL_fill_147 4 rfl rfl ?_
    refine y_iload (n := 150) C dL_fill_148 0 rfl rfl ?_
    refine y_iconst (n := 151) C (0 : Int32) dL_fill_150 (by decide) rfl ?_
    refine y_cp (n := 154) C (fun r hr H locs la hP hS hl => y_runV (ci := 5) (st := []) C ky_X5_entry wd_487 ⟨Nat.le_of_ble_eq_true rfl, Nat.le_of_ble_eq_true rfl⟩ hO1.1 rfl (mX5_entry hO1 w13 x2 v12 0 g.2.1 r hr) rfl (Nat.le_of_ble_eq_true rfl) rfl dL_fill_151 hP hS hl) rfl (fun v15 hv15 => ?_)
    refine y_iload (n := 156) C dL_fill_154 9 rfl rfl ?_
    refine y_icmp_ne (tgt := 176) (n := 159) C dL_fill_156 (by decide) rfl (fun h16 => ?_) (fun h16 => ?_)
    · refine y_ls [2, 3, 4, 5, 6, 7, 8, 9, 11, 12] rfl ?_
      exact cbL_fill_176 C hR hO1 HX w13 K17 hK17 x2 x3 x4 x5 x6 x7 x9 x10
    · refine y_aload_n (n := 160) C dL_fill_159 2 rfl rfl ?_
      refine y_iload_n (n := 161) C dL_fill_160 4 rfl rfl ?_
      refine y_iload (n := 163) C dL_fill_161 0 rfl rfl ?_
      refine y_iconst (n := 164) C (1 : Int32) dL_fill_163 (by decide) rfl ?_
      refine y_cp (n := 167) C (fun r hr H locs la hP hS hl => y_runV (ci := 5) (st := []) C ky_X5_entry wd_487 ⟨Nat.le_of_ble_eq_true rfl, Nat.le_of_ble_eq_true rfl⟩ hO1.1 rfl (mX5_entry hO1 w13 x2 v12 1 g.2.1 r hr) rfl (Nat.le_of_ble_eq_true rfl) rfl dL_fill_164 hP hS hl) rfl (fun v34 hv34 => ?_)
      refine y_iload (n := 169) C dL_fill_167 10 rfl rfl ?_
      refine y_icmp_ne (tgt := 176) (n := 172) C dL_fill_169 (by decide) rfl (fun h35 => ?_) (fun h35 => ?_)
      · refine y_ls [2, 3, 4, 5, 6, 7, 8, 9, 11, 12] rfl ?_
        exact cbL_fill_176 C hR hO1 HX w13 K17 hK17 x2 x3 x4 x5 x6 x7 x9 x10
      · refine y_iconst (n := 173) C (1 : Int32) dL_fill_172 (by decide) rfl ?_
        refine y_goto (tgt := 177) C dL_fill_173 (by decide) ?_
        refine y_ls [2, 3, 4, 5, 6, 7, 8, 9, 11, 12] rfl ?_
        exact cbL_fill_177 C hR hO1 HX w13 K17 hK17 x2 x3 x4 x5 x6 x7 x9 x10 1
  · refine y_iload (n := 133) C dL_fill_131 0 rfl rfl ?_
    refine y_bipush (n := 135) C ((-5) : Int32) dL_fill_133 (by decide) rfl ?_
    refine y_icmp_ne (tgt := 142) (n := 138) C dL_fill_135 (by decide) rfl (fun h36 => ?_) (fun h36 => ?_)
    · refine y_iconst (n := 143) C (0 : Int32) dL_fill_142 (by decide) rfl ?_
      refine y_goto (tgt := 177) C dL_fill_143 (by decide) ?_
      refine y_ls [2, 3, 4, 5, 6, 7, 8, 9, 11, 12] rfl ?_
      exact cbL_fill_177 C hR hO1 HX w13 K17 hK17 x2 x3 x4 x5 x6 x7 x9 x10 0
    · refine y_iconst (n := 139) C (1 : Int32) dL_fill_138 (by decide) rfl ?_
      refine y_goto (tgt := 177) C dL_fill_139 (by decide) ?_
      refine y_ls [2, 3, 4, 5, 6, 7, 8, 9, 11, 12] rfl ?_
      exact cbL_fill_177 C hR hO1 HX w13 K17 hK17 x2 x3 x4 x5 x6 x7 x9 x10 1
def bL_fill_112 (y : Ly) (K17 : Wd → Int32 → Int32 → Int32 → Int32 → Option (Int32 × Wd)) (w : Wd) (o1 L : Nat) (xs : Nat → Int32) (x2 : Int32) (x3 : Int32) (x4 : Int32) (x5 : Int32) (x6 : Int32) (x7 : Int32) (x8 : Int32) (x9 : Int32) (x10 : Int32) : Option (Int32 × Wd) :=
  bL_fill_113 y K17 w o1 L xs x2 x3 x4 x5 x6 x7 x8 x9 x10 0
set_option maxRecDepth 4000 in
theorem cbL_fill_112 {g : Gx} {E : Ex} (C : CC g E cL_fill 14 RL 6 157) (hR : RT g (some .boolean)) {o1 L : Nat} {xs : Nat → Int32} (hO1 : shB E.2.2.2.2.2.1 o1) (HX : SX E L xs) (w : Wd) (K17 : Wd → Int32 → Int32 → Int32 → Int32 → Option (Int32 × Wd)) (hK17 : ∀ (w : Wd) (x2 : Int32) (x3 : Int32) (x4 : Int32) (x5 : Int32), YO g E 14 (QI g E) (K17 w x2 x3 x4 x5) w 17 [(0, .ref (E.2.2.2.2.1 + o1)), (1, .ref (E.2.2.2.2.2.2.1 0)), (2, .int x2), (3, .int x3), (4, .int x4), (5, .int x5)] []) (x2 : Int32) (x3 : Int32) (x4 : Int32) (x5 : Int32) (x6 : Int32) (x7 : Int32) (x8 : Int32) (x9 : Int32) (x10 : Int32) : YO g E 14 (QI g E) (bL_fill_112 E.2.2.2.2.2.1 K17 w o1 L xs x2 x3 x4 x5 x6 x7 x8 x9 x10) w 112 [(0, .ref (E.2.2.2.2.1 + o1)), (1, .ref (E.2.2.2.2.2.2.1 0)), (2, .int x2), (3, .int x3), (4, .int x4), (5, .int x5), (6, .int x6), (7, .int x7), (8, .int x8), (9, .int x9), (10, .int x10)] [] := by
  unfold bL_fill_112
  refine y_iconst (n := 113) C (0 : Int32) dL_fill_112 (by decide) rfl ?_
  exact cbL_fill_113 C hR hO1 HX w K17 hK17 x2 x3 x4 x5 x6 x7 x8 x9 x10 0
def bL_fill_67 (y : Ly) (K17 : Wd → Int32 → Int32 → Int32 → Int32 → Option (Int32 × Wd)) (w : Wd) (o1 L : Nat) (xs : Nat → Int32) (x2 : Int32) (x3 : Int32) (x4 : Int32) (x5 : Int32) (x6 : Int32) (x7 : Int32) (s0 : Int32) (s1 : Int32) (s2 : Int32) : Option (Int32 × Wd) :=
  (fL_low w s1 s0).bind fun v8 =>
  (fL_placeOf w o1 x2 x7).bind fun v9 =>
  (fX5_list w o1 x2 0).bind fun v10 =>
  if v9 < 0 then
    bL_fill_112 y K17 w o1 L xs x2 x3 x4 x5 x6 x7 (s2 + v8) v9 v10
  else
    (fX5_entry w o1 x2 v9 1).bind fun v37 =>
    if v37 = (s2 + v8) then
      bL_fill_113 y K17 w o1 L xs x2 x3 x4 x5 x6 x7 (s2 + v8) v9 v10 1
    else
      bL_fill_112 y K17 w o1 L xs x2 x3 x4 x5 x6 x7 (s2 + v8) v9 v10
set_option maxRecDepth 4000 in
theorem cbL_fill_67 {g : Gx} {E : Ex} (C : CC g E cL_fill 14 RL 6 157) (hR : RT g (some .boolean)) {o1 L : Nat} {xs : Nat → Int32} (hO1 : shB E.2.2.2.2.2.1 o1) (HX : SX E L xs) (w : Wd) (K17 : Wd → Int32 → Int32 → Int32 → Int32 → Option (Int32 × Wd)) (hK17 : ∀ (w : Wd) (x2 : Int32) (x3 : Int32) (x4 : Int32) (x5 : Int32), YO g E 14 (QI g E) (K17 w x2 x3 x4 x5) w 17 [(0, .ref (E.2.2.2.2.1 + o1)), (1, .ref (E.2.2.2.2.2.2.1 0)), (2, .int x2), (3, .int x3), (4, .int x4), (5, .int x5)] []) (x2 : Int32) (x3 : Int32) (x4 : Int32) (x5 : Int32) (x6 : Int32) (x7 : Int32) (s0 : Int32) (s1 : Int32) (s2 : Int32) : YO g E 14 (QI g E) (bL_fill_67 E.2.2.2.2.2.1 K17 w o1 L xs x2 x3 x4 x5 x6 x7 s0 s1 s2) w 67 [(0, .ref (E.2.2.2.2.1 + o1)), (1, .ref (E.2.2.2.2.2.2.1 0)), (2, .int x2), (3, .int x3), (4, .int x4), (5, .int x5), (6, .int x6), (7, .int x7)] [.int s0, .int s1, .int s2] := by
  unfold bL_fill_67
  refine y_cp (n := 70) C (fun r hr H locs la hP hS hl => y_runS (st := [.int s2]) C ky_L_low wd_463 ⟨Nat.le_of_ble_eq_true rfl, Nat.le_of_ble_eq_true rfl⟩ (mL_low w s1 s0 g.2.1 r hr) rfl (Nat.le_of_ble_eq_true rfl) rfl dL_fill_67 hP hS hl) rfl (fun v8 hv8 => ?_)
  refine y_iadd (n := 71) C dL_fill_70 rfl ?_
  refine y_istore (n := 73) (ls' := [(8, .int (s2 + v8)), (0, .ref (E.2.2.2.2.1 + o1)), (1, .ref (E.2.2.2.2.2.2.1 0)), (2, .int x2), (3, .int x3), (4, .int x4), (5, .int x5), (6, .int x6), (7, .int x7)]) C dL_fill_71 (by decide) rfl rfl ?_
  refine y_aload_n (n := 74) C dL_fill_73 1 rfl rfl ?_
  refine y_iload_n (n := 75) C dL_fill_74 3 rfl rfl ?_
  refine y_iload (n := 77) C dL_fill_75 8 rfl rfl ?_
  refine y_cp (n := 80) C (fun r hr H locs la hP hS hl => y_runS (st := []) C ky_L_placeOf wd_473 ⟨Nat.le_of_ble_eq_true rfl, Nat.le_of_ble_eq_true rfl⟩ (mL_placeOf hO1 w x2 x7 g.2.1 r hr) rfl (Nat.le_of_ble_eq_true rfl) rfl dL_fill_77 hP hS hl) rfl (fun v9 hv9 => ?_)
  refine y_istore (n := 82) (ls' := [(9, .int v9), (8, .int (s2 + v8)), (0, .ref (E.2.2.2.2.1 + o1)), (1, .ref (E.2.2.2.2.2.2.1 0)), (2, .int x2), (3, .int x3), (4, .int x4), (5, .int x5), (6, .int x6), (7, .int x7)]) C dL_fill_80 (by decide) rfl rfl ?_
  refine y_aload_n (n := 83) C dL_fill_82 2 rfl rfl ?_
  refine y_iload_n (n := 84) C dL_fill_83 4 rfl rfl ?_
  refine y_iconst (n := 85) C (0 : Int32) dL_fill_84 (by decide) rfl ?_
  refine y_cp (n := 88) C (fun r hr H locs la hP hS hl => y_runV (ci := 5) (st := []) C ky_X5_list wd_476 ⟨Nat.le_of_ble_eq_true rfl, Nat.le_of_ble_eq_true rfl⟩ hO1.1 rfl (mX5_list hO1 w x2 0 g.2.1 r hr) rfl (Nat.le_of_ble_eq_true rfl) rfl dL_fill_85 hP hS hl) rfl (fun v10 hv10 => ?_)
  refine y_istore (n := 90) (ls' := [(10, .int v10), (9, .int v9), (8, .int (s2 + v8)), (0, .ref (E.2.2.2.2.1 + o1)), (1, .ref (E.2.2.2.2.2.2.1 0)), (2, .int x2), (3, .int x3), (4, .int x4), (5, .int x5), (6, .int x6), (7, .int x7)]) C dL_fill_88 (by decide) rfl rfl ?_
  refine y_iload (n := 92) C dL_fill_90 1 rfl rfl ?_
  refine y_if_lt (tgt := 112) (n := 95) C dL_fill_92 (by decide) rfl (fun h11 => ?_) (fun h11 => ?_)
  · refine y_ls [3, 4, 5, 6, 7, 8, 9, 10, 2, 1, 0] rfl ?_
    exact cbL_fill_112 C hR hO1 HX w K17 hK17 x2 x3 x4 x5 x6 x7 (s2 + v8) v9 v10
  · refine y_aload_n (n := 96) C dL_fill_95 3 rfl rfl ?_
    refine y_iload_n (n := 97) C dL_fill_96 5 rfl rfl ?_
    refine y_iload (n := 99) C dL_fill_97 1 rfl rfl ?_
    refine y_iconst (n := 100) C (1 : Int32) dL_fill_99 (by decide) rfl ?_
    refine y_cp (n := 103) C (fun r hr H locs la hP hS hl => y_runV (ci := 5) (st := []) C ky_X5_entry wd_487 ⟨Nat.le_of_ble_eq_true rfl, Nat.le_of_ble_eq_true rfl⟩ hO1.1 rfl (mX5_entry hO1 w x2 v9 1 g.2.1 r hr) rfl (Nat.le_of_ble_eq_true rfl) rfl dL_fill_100 hP hS hl) rfl (fun v37 hv37 => ?_)
    refine y_iload (n := 105) C dL_fill_103 2 rfl rfl ?_
    refine y_icmp_ne (tgt := 112) (n := 108) C dL_fill_105 (by decide) rfl (fun h38 => ?_) (fun h38 => ?_)
    · refine y_ls [3, 4, 5, 6, 7, 8, 9, 10, 2, 1, 0] rfl ?_
      exact cbL_fill_112 C hR hO1 HX w K17 hK17 x2 x3 x4 x5 x6 x7 (s2 + v8) v9 v10
    · refine y_iconst (n := 109) C (1 : Int32) dL_fill_108 (by decide) rfl ?_
      refine y_goto (tgt := 113) C dL_fill_109 (by decide) ?_
      refine y_ls [3, 4, 5, 6, 7, 8, 9, 10, 2, 1, 0] rfl ?_
      exact cbL_fill_113 C hR hO1 HX w K17 hK17 x2 x3 x4 x5 x6 x7 (s2 + v8) v9 v10 1
def lL_fill_17 (y : Ly) (o1 L : Nat) (xs : Nat → Int32) : Nat → Wd → Int32 → Int32 → Int32 → Int32 → Option (Int32 × Wd)
  | 0, _, _, _, _, _ => none
  | n + 1, w, x2, x3, x4, x5 =>
    if x4 < x5 then
      (rtZ 1).bind fun z => some (z, w)
    else
      (fL_cell w L xs (x3 + x5)).bind fun v4 =>
      (fL_low w v4 12).bind fun v5 =>
      (fL_low w (v4 >>> (24 &&& 31)) 3).bind fun v6 =>
      if v6 = 0 then
        bL_fill_67 y (fun w z0 z1 z2 z3 => lL_fill_17 y o1 L xs n w z0 z1 z2 z3) w o1 L xs x2 x3 x4 x5 v4 v5 5 (v4 >>> (4 &&& 31)) 1
      else
        bL_fill_67 y (fun w z0 z1 z2 z3 => lL_fill_17 y o1 L xs n w z0 z1 z2 z3) w o1 L xs x2 x3 x4 x5 v4 v5 999 (v4 >>> (4 &&& 31)) 1
set_option maxRecDepth 4000 in
theorem clL_fill_17 {g : Gx} {E : Ex} (C : CC g E cL_fill 14 RL 6 157) (hR : RT g (some .boolean)) {o1 L : Nat} {xs : Nat → Int32} (hO1 : shB E.2.2.2.2.2.1 o1) (HX : SX E L xs)  : ∀ (n : Nat) (w : Wd) (x2 : Int32) (x3 : Int32) (x4 : Int32) (x5 : Int32), YO g E 14 (QI g E) (lL_fill_17 E.2.2.2.2.2.1 o1 L xs n w x2 x3 x4 x5) w 17 [(0, .ref (E.2.2.2.2.1 + o1)), (1, .ref (E.2.2.2.2.2.2.1 0)), (2, .int x2), (3, .int x3), (4, .int x4), (5, .int x5)] [] := by
  intro n
  induction n with
  | zero => intro w x2 x3 x4 x5; exact y_no
  | succ n ih =>
    intro w x2 x3 x4 x5
    rw [lL_fill_17]
    refine y_iload (n := 19) C dL_fill_17 5 rfl rfl ?_
    refine y_iload (n := 21) C dL_fill_19 4 rfl rfl ?_
    refine y_icmp_gt (tgt := 275) (n := 24) C dL_fill_21 (by decide) rfl (fun h3 => ?_) (fun h3 => ?_)
    · refine y_iconst (n := 276) C (1 : Int32) dL_fill_275 (by decide) rfl ?_
      exact y_rzi C hR dL_fill_276
    · refine y_aload_n (n := 25) C dL_fill_24 1 rfl rfl ?_
      refine y_iload_n (n := 26) C dL_fill_25 3 rfl rfl ?_
      refine y_iload (n := 28) C dL_fill_26 5 rfl rfl ?_
      refine y_iadd (n := 29) C dL_fill_28 rfl ?_
      refine y_cp (n := 32) C (fun r hr H locs la hP hS hl => y_runS (st := []) C ky_L_cell wd_458 ⟨Nat.le_of_ble_eq_true rfl, Nat.le_of_ble_eq_true rfl⟩ (mL_cell HX w (x3 + x5) g.2.1 r hr) rfl (Nat.le_of_ble_eq_true rfl) rfl dL_fill_29 hP hS hl) rfl (fun v4 hv4 => ?_)
      refine y_istore (n := 34) (ls' := [(6, .int v4), (0, .ref (E.2.2.2.2.1 + o1)), (1, .ref (E.2.2.2.2.2.2.1 0)), (2, .int x2), (3, .int x3), (4, .int x4), (5, .int x5)]) C dL_fill_32 (by decide) rfl rfl ?_
      refine y_iload (n := 36) C dL_fill_34 0 rfl rfl ?_
      refine y_bipush (n := 38) C (12 : Int32) dL_fill_36 (by decide) rfl ?_
      refine y_cp (n := 41) C (fun r hr H locs la hP hS hl => y_runS (st := []) C ky_L_low wd_463 ⟨Nat.le_of_ble_eq_true rfl, Nat.le_of_ble_eq_true rfl⟩ (mL_low w v4 12 g.2.1 r hr) rfl (Nat.le_of_ble_eq_true rfl) rfl dL_fill_38 hP hS hl) rfl (fun v5 hv5 => ?_)
      refine y_istore (n := 43) (ls' := [(7, .int v5), (6, .int v4), (0, .ref (E.2.2.2.2.1 + o1)), (1, .ref (E.2.2.2.2.2.2.1 0)), (2, .int x2), (3, .int x3), (4, .int x4), (5, .int x5)]) C dL_fill_41 (by decide) rfl rfl ?_
      refine y_iconst (n := 44) C (1 : Int32) dL_fill_43 (by decide) rfl ?_
      refine y_iload (n := 46) C dL_fill_44 1 rfl rfl ?_
      refine y_iconst (n := 47) C (4 : Int32) dL_fill_46 (by decide) rfl ?_
      refine y_ishr (n := 48) C dL_fill_47 rfl ?_
      refine y_iload (n := 50) C dL_fill_48 1 rfl rfl ?_
      refine y_bipush (n := 52) C (24 : Int32) dL_fill_50 (by decide) rfl ?_
      refine y_ishr (n := 53) C dL_fill_52 rfl ?_
      refine y_iconst (n := 54) C (3 : Int32) dL_fill_53 (by decide) rfl ?_
      refine y_cp (n := 57) C (fun r hr H locs la hP hS hl => y_runS (st := [.int (v4 >>> (4 &&& 31)), .int 1]) C ky_L_low wd_463 ⟨Nat.le_of_ble_eq_true rfl, Nat.le_of_ble_eq_true rfl⟩ (mL_low w (v4 >>> (24 &&& 31)) 3 g.2.1 r hr) rfl (Nat.le_of_ble_eq_true rfl) rfl dL_fill_54 hP hS hl) rfl (fun v6 hv6 => ?_)
      refine y_if_ne (tgt := 64) (n := 60) C dL_fill_57 (by decide) rfl (fun h7 => ?_) (fun h7 => ?_)
      · refine y_sipush (n := 67) C (999 : Int32) dL_fill_64 (by decide) rfl ?_
        refine y_ls [2, 3, 4, 5, 6, 7, 1, 0] rfl ?_
        exact cbL_fill_67 C hR hO1 HX w (fun w z0 z1 z2 z3 => lL_fill_17 E.2.2.2.2.2.1 o1 L xs n w z0 z1 z2 z3)  (fun w z0 z1 z2 z3 => ih w z0 z1 z2 z3) x2 x3 x4 x5 v4 v5 999 (v4 >>> (4 &&& 31)) 1
      · refine y_iconst (n := 61) C (5 : Int32) dL_fill_60 (by decide) rfl ?_
        refine y_goto (tgt := 67) C dL_fill_61 (by decide) ?_
        refine y_ls [2, 3, 4, 5, 6, 7, 1, 0] rfl ?_
        exact cbL_fill_67 C hR hO1 HX w (fun w z0 z1 z2 z3 => lL_fill_17 E.2.2.2.2.2.1 o1 L xs n w z0 z1 z2 z3)  (fun w z0 z1 z2 z3 => ih w z0 z1 z2 z3) x2 x3 x4 x5 v4 v5 5 (v4 >>> (4 &&& 31)) 1
def fL_fill (y : Ly) (w : Wd) (o1 L : Nat) (xs : Nat → Int32) (a3 : Int32) (a4 : Int32) : Option (Int32 × Wd) :=
  (fL_cell w L xs a4).bind fun v1 =>
  (fL_low w v1 9).bind fun v2 =>
  lL_fill_17 y o1 L xs 4096 w a3 a4 (1 + v2) 1
set_option maxRecDepth 4000 in
theorem eL_fill {g : Gx} {E : Ex} (C : CC g E cL_fill 14 RL 6 157) (hR : RT g (some .boolean)) {o1 L : Nat} {xs : Nat → Int32} (hO1 : shB E.2.2.2.2.2.1 o1) (HX : SX E L xs) (w : Wd) (a3 : Int32) (a4 : Int32) : YO g E 14 (QI g E) (fL_fill E.2.2.2.2.2.1 w o1 L xs a3 a4) w 0 [(0, .ref (E.2.2.2.2.1 + o1)), (1, .ref (E.2.2.2.2.2.2.1 0)), (2, .int a3), (3, .int a4)] [] := by
  unfold fL_fill
  refine y_iconst (n := 1) C (1 : Int32) dL_fill_0 (by decide) rfl ?_
  refine y_aload_n (n := 2) C dL_fill_1 1 rfl rfl ?_
  refine y_iload_n (n := 3) C dL_fill_2 3 rfl rfl ?_
  refine y_cp (n := 6) C (fun r hr H locs la hP hS hl => y_runS (st := [.int 1]) C ky_L_cell wd_458 ⟨Nat.le_of_ble_eq_true rfl, Nat.le_of_ble_eq_true rfl⟩ (mL_cell HX w a4 g.2.1 r hr) rfl (Nat.le_of_ble_eq_true rfl) rfl dL_fill_3 hP hS hl) rfl (fun v1 hv1 => ?_)
  refine y_bipush (n := 8) C (9 : Int32) dL_fill_6 (by decide) rfl ?_
  refine y_cp (n := 11) C (fun r hr H locs la hP hS hl => y_runS (st := [.int 1]) C ky_L_low wd_463 ⟨Nat.le_of_ble_eq_true rfl, Nat.le_of_ble_eq_true rfl⟩ (mL_low w v1 9 g.2.1 r hr) rfl (Nat.le_of_ble_eq_true rfl) rfl dL_fill_8 hP hS hl) rfl (fun v2 hv2 => ?_)
  refine y_iadd (n := 12) C dL_fill_11 rfl ?_
  refine y_istore (n := 14) (ls' := [(4, .int (1 + v2)), (0, .ref (E.2.2.2.2.1 + o1)), (1, .ref (E.2.2.2.2.2.2.1 0)), (2, .int a3), (3, .int a4)]) C dL_fill_12 (by decide) rfl rfl ?_
  refine y_iconst (n := 15) C (1 : Int32) dL_fill_14 (by decide) rfl ?_
  refine y_istore (n := 17) (ls' := [(5, .int 1), (4, .int (1 + v2)), (0, .ref (E.2.2.2.2.1 + o1)), (1, .ref (E.2.2.2.2.2.2.1 0)), (2, .int a3), (3, .int a4)]) C dL_fill_15 (by decide) rfl rfl ?_
  refine y_ls [2, 3, 4, 5, 1, 0] rfl ?_
  exact clL_fill_17 C hR hO1 HX 4096 w a3 a4 (1 + v2) 1
theorem mL_fill {E : Ex} {o1 L : Nat} {xs : Nat → Int32} (hO1 : shB E.2.2.2.2.2.1 o1) (HX : SX E L xs) (w : Wd) (a3 : Int32) (a4 : Int32) (l : Launch) : MI l yL_fill cL_fill 14 (some .boolean) { frames := 6, cells := 0, slots := 0, locals := 157 } E [.ref (E.2.2.2.2.1 + o1), .ref (E.2.2.2.2.2.2.1 0), .int a3, .int a4] w (fL_fill E.2.2.2.2.2.1 w o1 L xs a3 a4) :=
  y_met (Qc := yQi E) (by decide +kernel) (Nat.le_of_ble_eq_true rfl) (fun g C hR => eL_fill C hR hO1 HX w a3 a4) l
