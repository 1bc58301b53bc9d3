/-! L_read -/
def bL_read_364 (y : Ly) (w : Wd) (o1 : Nat) (x7 : Int32) (x8 : Int32) (s0 : Int32) : Option (Int32 × Wd) :=
  if s0 = 0 then
    some ((-1), w)
  else
    ob2 (fX5_end y w o1) fun v12 w13 =>
    if v12 = x7 then
      (fX5_reading w13 o1 0).bind fun v15 =>
      if v15 = (-4) then
        some (x8, w13)
      else
        some ((-1), w13)
    else
      some ((-1), w13)
set_option maxRecDepth 4000 in
theorem cbL_read_364 {g : Gx} {E : Ex} (C : CC g E cL_read 9 RL 7 163) (hR : RT g (some .int)) {o1 : Nat} (hO1 : shB E.2.2.2.2.2.1 o1) (w : Wd) (x7 : Int32) (x8 : Int32) (s0 : Int32) : YO g E 9 (QI g E) (bL_read_364 E.2.2.2.2.2.1 w o1 x7 x8 s0) w 364 [(0, .ref (E.2.2.2.2.1 + o1)), (7, .int x7), (8, .int x8)] [.int s0] := by
  unfold bL_read_364
  refine y_istore (n := 366) (ls' := [(6, .int s0), (0, .ref (E.2.2.2.2.1 + o1)), (7, .int x7), (8, .int x8)]) C dL_read_364 (by decide) rfl rfl ?_
  refine y_iload (n := 368) C dL_read_366 0 rfl rfl ?_
  refine y_if_eq (tgt := 395) (n := 371) C dL_read_368 (by decide) rfl (fun h11 => ?_) (fun h11 => ?_)
  · refine y_iconst (n := 396) C ((-1) : Int32) dL_read_395 (by decide) rfl ?_
    exact y_ri C hR dL_read_396
  · refine y_aload_n (n := 372) C dL_read_371 1 rfl rfl ?_
    refine y_ci2 (n := 375) C (fun r hr H locs la hP hS hl => y_runV (ci := 5) (st := []) C ky_X5_end wd_592 ⟨Nat.le_of_ble_eq_true rfl, Nat.le_of_ble_eq_true rfl⟩ hO1.1 rfl (mX5_end hO1 w g.2.1 r hr) rfl (Nat.le_of_ble_eq_true rfl) rfl dL_read_372 hP hS hl) rfl (fun v12 w13 hv12 => ?_)
    refine y_iload (n := 377) C dL_read_375 2 rfl rfl ?_
    refine y_icmp_ne (tgt := 395) (n := 380) C dL_read_377 (by decide) rfl (fun h14 => ?_) (fun h14 => ?_)
    · refine y_iconst (n := 396) C ((-1) : Int32) dL_read_395 (by decide) rfl ?_
      exact y_ri C hR dL_read_396
    · refine y_aload_n (n := 381) C dL_read_380 1 rfl rfl ?_
      refine y_iconst (n := 382) C (0 : Int32) dL_read_381 (by decide) rfl ?_
      refine y_cp (n := 385) C (fun r hr H locs la hP hS hl => y_runV (ci := 5) (st := []) C ky_X5_reading wd_546 ⟨Nat.le_of_ble_eq_true rfl, Nat.le_of_ble_eq_true rfl⟩ hO1.1 rfl (mX5_reading hO1 w13 0 g.2.1 r hr) rfl (Nat.le_of_ble_eq_true rfl) rfl dL_read_382 hP hS hl) rfl (fun v15 hv15 => ?_)
      refine y_bipush (n := 387) C ((-4) : Int32) dL_read_385 (by decide) rfl ?_
      refine y_icmp_ne (tgt := 395) (n := 390) C dL_read_387 (by decide) rfl (fun h16 => ?_) (fun h16 => ?_)
      · refine y_iconst (n := 396) C ((-1) : Int32) dL_read_395 (by decide) rfl ?_
        exact y_ri C hR dL_read_396
      · refine y_iload (n := 392) C dL_read_390 3 rfl rfl ?_
        refine y_goto (tgt := 396) C dL_read_392 (by decide) ?_
        exact y_ri C hR dL_read_396
def bL_read_363 (y : Ly) (w : Wd) (o1 : Nat) (x7 : Int32) (x8 : Int32) : Option (Int32 × Wd) :=
  bL_read_364 y w o1 x7 x8 0
set_option maxRecDepth 4000 in
theorem cbL_read_363 {g : Gx} {E : Ex} (C : CC g E cL_read 9 RL 7 163) (hR : RT g (some .int)) {o1 : Nat} (hO1 : shB E.2.2.2.2.2.1 o1) (w : Wd) (x7 : Int32) (x8 : Int32) : YO g E 9 (QI g E) (bL_read_363 E.2.2.2.2.2.1 w o1 x7 x8) w 363 [(0, .ref (E.2.2.2.2.1 + o1)), (7, .int x7), (8, .int x8)] [] := by
  unfold bL_read_363
  refine y_iconst (n := 364) C (0 : Int32) dL_read_363 (by decide) rfl ?_
  exact cbL_read_364 C hR hO1 w x7 x8 0
def bL_read_319 (y : Ly) (w : Wd) (o1 : Nat) (x5 : Int32) (x7 : Int32) (x8 : Int32) (s0 : Int32) : Option (Int32 × Wd) :=
  if s0 = 0 then
    bL_read_363 y w o1 x7 x8
  else
    ob2 (fX5_add y w o1 0 0 1) fun v17 w18 =>
    if v17 = (-4) then
      ob2 (fX5_begin y w18 o1 0 1) fun v20 w21 =>
      if v20 = (-4) then
        (fX5_reading w21 o1 0).bind fun v23 =>
        if v23 = x5 then
          bL_read_364 y w21 o1 x7 x8 1
        else
          bL_read_363 y w21 o1 x7 x8
      else
        bL_read_363 y w21 o1 x7 x8
    else
      bL_read_363 y w18 o1 x7 x8
set_option maxRecDepth 4000 in
theorem cbL_read_319 {g : Gx} {E : Ex} (C : CC g E cL_read 9 RL 7 163) (hR : RT g (some .int)) {o1 : Nat} (hO1 : shB E.2.2.2.2.2.1 o1) (w : Wd) (x5 : Int32) (x7 : Int32) (x8 : Int32) (s0 : Int32) : YO g E 9 (QI g E) (bL_read_319 E.2.2.2.2.2.1 w o1 x5 x7 x8 s0) w 319 [(0, .ref (E.2.2.2.2.1 + o1)), (5, .int x5), (7, .int x7), (8, .int x8)] [.int s0] := by
  unfold bL_read_319
  refine y_istore (n := 321) (ls' := [(6, .int s0), (0, .ref (E.2.2.2.2.1 + o1)), (5, .int x5), (7, .int x7), (8, .int x8)]) C dL_read_319 (by decide) rfl rfl ?_
  refine y_iload (n := 323) C dL_read_321 0 rfl rfl ?_
  refine y_if_eq (tgt := 363) (n := 326) C dL_read_323 (by decide) rfl (fun h10 => ?_) (fun h10 => ?_)
  · refine y_ls [1, 3, 4] rfl ?_
    exact cbL_read_363 C hR hO1 w x7 x8
  · refine y_aload_n (n := 327) C dL_read_326 1 rfl rfl ?_
    refine y_iconst (n := 328) C (0 : Int32) dL_read_327 (by decide) rfl ?_
    refine y_iconst (n := 329) C (0 : Int32) dL_read_328 (by decide) rfl ?_
    refine y_iconst (n := 330) C (1 : Int32) dL_read_329 (by decide) rfl ?_
    refine y_ci2 (n := 333) C (fun r hr H locs la hP hS hl => y_runV (ci := 5) (st := []) C ky_X5_add wd_492 ⟨Nat.le_of_ble_eq_true rfl, Nat.le_of_ble_eq_true rfl⟩ hO1.1 rfl (mX5_add hO1 w 0 0 1 g.2.1 r hr) rfl (Nat.le_of_ble_eq_true rfl) rfl dL_read_330 hP hS hl) rfl (fun v17 w18 hv17 => ?_)
    refine y_bipush (n := 335) C ((-4) : Int32) dL_read_333 (by decide) rfl ?_
    refine y_icmp_ne (tgt := 363) (n := 338) C dL_read_335 (by decide) rfl (fun h19 => ?_) (fun h19 => ?_)
    · refine y_ls [1, 3, 4] rfl ?_
      exact cbL_read_363 C hR hO1 w18 x7 x8
    · refine y_aload_n (n := 339) C dL_read_338 1 rfl rfl ?_
      refine y_iconst (n := 340) C (0 : Int32) dL_read_339 (by decide) rfl ?_
      refine y_iconst (n := 341) C (1 : Int32) dL_read_340 (by decide) rfl ?_
      refine y_ci2 (n := 344) C (fun r hr H locs la hP hS hl => y_runV (ci := 5) (st := []) C ky_X5_begin wd_288 ⟨Nat.le_of_ble_eq_true rfl, Nat.le_of_ble_eq_true rfl⟩ hO1.1 rfl (mX5_begin hO1 w18 0 1 g.2.1 r hr) rfl (Nat.le_of_ble_eq_true rfl) rfl dL_read_341 hP hS hl) rfl (fun v20 w21 hv20 => ?_)
      refine y_bipush (n := 346) C ((-4) : Int32) dL_read_344 (by decide) rfl ?_
      refine y_icmp_ne (tgt := 363) (n := 349) C dL_read_346 (by decide) rfl (fun h22 => ?_) (fun h22 => ?_)
      · refine y_ls [1, 3, 4] rfl ?_
        exact cbL_read_363 C hR hO1 w21 x7 x8
      · refine y_aload_n (n := 350) C dL_read_349 1 rfl rfl ?_
        refine y_iconst (n := 351) C (0 : Int32) dL_read_350 (by decide) rfl ?_
        refine y_cp (n := 354) C (fun r hr H locs la hP hS hl => y_runV (ci := 5) (st := []) C ky_X5_reading wd_546 ⟨Nat.le_of_ble_eq_true rfl, Nat.le_of_ble_eq_true rfl⟩ hO1.1 rfl (mX5_reading hO1 w21 0 g.2.1 r hr) rfl (Nat.le_of_ble_eq_true rfl) rfl dL_read_351 hP hS hl) rfl (fun v23 hv23 => ?_)
        refine y_iload (n := 356) C dL_read_354 2 rfl rfl ?_
        refine y_icmp_ne (tgt := 363) (n := 359) C dL_read_356 (by decide) rfl (fun h24 => ?_) (fun h24 => ?_)
        · refine y_ls [1, 3, 4] rfl ?_
          exact cbL_read_363 C hR hO1 w21 x7 x8
        · refine y_iconst (n := 360) C (1 : Int32) dL_read_359 (by decide) rfl ?_
          refine y_goto (tgt := 364) C dL_read_360 (by decide) ?_
          refine y_ls [1, 3, 4] rfl ?_
          exact cbL_read_364 C hR hO1 w21 x7 x8 1
def bL_read_318 (y : Ly) (w : Wd) (o1 : Nat) (x5 : Int32) (x7 : Int32) (x8 : Int32) : Option (Int32 × Wd) :=
  bL_read_319 y w o1 x5 x7 x8 0
set_option maxRecDepth 4000 in
theorem cbL_read_318 {g : Gx} {E : Ex} (C : CC g E cL_read 9 RL 7 163) (hR : RT g (some .int)) {o1 : Nat} (hO1 : shB E.2.2.2.2.2.1 o1) (w : Wd) (x5 : Int32) (x7 : Int32) (x8 : Int32) : YO g E 9 (QI g E) (bL_read_318 E.2.2.2.2.2.1 w o1 x5 x7 x8) w 318 [(0, .ref (E.2.2.2.2.1 + o1)), (5, .int x5), (7, .int x7), (8, .int x8)] [] := by
  unfold bL_read_318
  refine y_iconst (n := 319) C (0 : Int32) dL_read_318 (by decide) rfl ?_
  exact cbL_read_319 C hR hO1 w x5 x7 x8 0
def bL_read_243 (y : Ly) (w : Wd) (o1 : Nat) (x1 : Int32) (x2 : Int32) (x5 : Int32) (x6 : Int32) (x7 : Int32) : Option (Int32 × Wd) :=
  (fX5_reading w o1 3).bind fun v8 =>
  if x6 = 0 then
    bL_read_318 y w o1 x5 x7 v8
  else
    (fX5_reading w o1 2).bind fun v25 =>
    if v8 = (x5 + (3 * v25)) then
      ob2 (fX5_trial w o1 x1 x2 0) fun v27 w28 =>
      if v27 = x5 then
        ob2 (fX5_trial w28 o1 x1 x2 1) fun v30 w31 =>
        if v30 = v8 then
          ob2 (fX5_trial w31 o1 x1 x2 2) fun v33 w34 =>
          if v33 = 0 then
            ob2 (fX5_trial w34 o1 x1 x2 3) fun v36 w37 =>
            if v36 = 0 then
              bL_read_319 y w37 o1 x5 x7 v8 1
            else
              bL_read_318 y w37 o1 x5 x7 v8
          else
            bL_read_318 y w34 o1 x5 x7 v8
        else
          bL_read_318 y w31 o1 x5 x7 v8
      else
        bL_read_318 y w28 o1 x5 x7 v8
    else
      bL_read_318 y w o1 x5 x7 v8
set_option maxRecDepth 4000 in
theorem cbL_read_243 {g : Gx} {E : Ex} (C : CC g E cL_read 9 RL 7 163) (hR : RT g (some .int)) {o1 : Nat} (hO1 : shB E.2.2.2.2.2.1 o1) (w : Wd) (x1 : Int32) (x2 : Int32) (x5 : Int32) (x6 : Int32) (x7 : Int32) : YO g E 9 (QI g E) (bL_read_243 E.2.2.2.2.2.1 w o1 x1 x2 x5 x6 x7) w 243 [(0, .ref (E.2.2.2.2.1 + o1)), (1, .int x1), (2, .int x2), (5, .int x5), (6, .int x6), (7, .int x7)] [] := by
  unfold bL_read_243
  refine y_aload_n (n := 244) C dL_read_243 0 rfl rfl ?_
  refine y_iconst (n := 245) C (3 : Int32) dL_read_244 (by decide) rfl ?_
  refine y_cp (n := 248) C (fun r hr H locs la hP hS hl => y_runV (ci := 5) (st := []) C ky_X5_reading wd_546 ⟨Nat.le_of_ble_eq_true rfl, Nat.le_of_ble_eq_true rfl⟩ hO1.1 rfl (mX5_reading hO1 w 3 g.2.1 r hr) rfl (Nat.le_of_ble_eq_true rfl) rfl dL_read_245 hP hS hl) rfl (fun v8 hv8 => ?_)
  refine y_istore (n := 250) (ls' := [(8, .int v8), (0, .ref (E.2.2.2.2.1 + o1)), (1, .int x1), (2, .int x2), (5, .int x5), (6, .int x6), (7, .int x7)]) C dL_read_248 (by decide) rfl rfl ?_
  refine y_iload (n := 252) C dL_read_250 5 rfl rfl ?_
  refine y_if_eq (tgt := 318) (n := 255) C dL_read_252 (by decide) rfl (fun h9 => ?_) (fun h9 => ?_)
  · refine y_ls [1, 4, 6, 0] rfl ?_
    exact cbL_read_318 C hR hO1 w x5 x7 v8
  · refine y_iload (n := 257) C dL_read_255 0 rfl rfl ?_
    refine y_iload (n := 259) C dL_read_257 4 rfl rfl ?_
    refine y_iconst (n := 260) C (3 : Int32) dL_read_259 (by decide) rfl ?_
    refine y_aload_n (n := 261) C dL_read_260 1 rfl rfl ?_
    refine y_iconst (n := 262) C (2 : Int32) dL_read_261 (by decide) rfl ?_
    refine y_cp (n := 265) C (fun r hr H locs la hP hS hl => y_runV (ci := 5) (st := [.int 3, .int x5, .int v8]) C ky_X5_reading wd_546 ⟨Nat.le_of_ble_eq_true rfl, Nat.le_of_ble_eq_true rfl⟩ hO1.1 rfl (mX5_reading hO1 w 2 g.2.1 r hr) rfl (Nat.le_of_ble_eq_true rfl) rfl dL_read_262 hP hS hl) rfl (fun v25 hv25 => ?_)
    refine y_imul (n := 266) C dL_read_265 rfl ?_
    refine y_iadd (n := 267) C dL_read_266 rfl ?_
    refine y_icmp_ne (tgt := 318) (n := 270) C dL_read_267 (by decide) rfl (fun h26 => ?_) (fun h26 => ?_)
    · refine y_ls [1, 4, 6, 0] rfl ?_
      exact cbL_read_318 C hR hO1 w x5 x7 v8
    · refine y_aload_n (n := 271) C dL_read_270 1 rfl rfl ?_
      refine y_iload_n (n := 272) C dL_read_271 2 rfl rfl ?_
      refine y_iload_n (n := 273) C dL_read_272 3 rfl rfl ?_
      refine y_iconst (n := 274) C (0 : Int32) dL_read_273 (by decide) rfl ?_
      refine y_ci2 (n := 277) C (fun r hr H locs la hP hS hl => y_runV (ci := 5) (st := []) C ky_X5_trial wd_588 ⟨Nat.le_of_ble_eq_true rfl, Nat.le_of_ble_eq_true rfl⟩ hO1.1 rfl (mX5_trial hO1 w x1 x2 0 g.2.1 r hr) rfl (Nat.le_of_ble_eq_true rfl) rfl dL_read_274 hP hS hl) rfl (fun v27 w28 hv27 => ?_)
      refine y_iload (n := 279) C dL_read_277 4 rfl rfl ?_
      refine y_icmp_ne (tgt := 318) (n := 282) C dL_read_279 (by decide) rfl (fun h29 => ?_) (fun h29 => ?_)
      · refine y_ls [1, 4, 6, 0] rfl ?_
        exact cbL_read_318 C hR hO1 w28 x5 x7 v8
      · refine y_aload_n (n := 283) C dL_read_282 1 rfl rfl ?_
        refine y_iload_n (n := 284) C dL_read_283 2 rfl rfl ?_
        refine y_iload_n (n := 285) C dL_read_284 3 rfl rfl ?_
        refine y_iconst (n := 286) C (1 : Int32) dL_read_285 (by decide) rfl ?_
        refine y_ci2 (n := 289) C (fun r hr H locs la hP hS hl => y_runV (ci := 5) (st := []) C ky_X5_trial wd_588 ⟨Nat.le_of_ble_eq_true rfl, Nat.le_of_ble_eq_true rfl⟩ hO1.1 rfl (mX5_trial hO1 w28 x1 x2 1 g.2.1 r hr) rfl (Nat.le_of_ble_eq_true rfl) rfl dL_read_286 hP hS hl) rfl (fun v30 w31 hv30 => ?_)
        refine y_iload (n := 291) C dL_read_289 0 rfl rfl ?_
        refine y_icmp_ne (tgt := 318) (n := 294) C dL_read_291 (by decide) rfl (fun h32 => ?_) (fun h32 => ?_)
        · refine y_ls [1, 4, 6, 0] rfl ?_
          exact cbL_read_318 C hR hO1 w31 x5 x7 v8
        · refine y_aload_n (n := 295) C dL_read_294 1 rfl rfl ?_
          refine y_iload_n (n := 296) C dL_read_295 2 rfl rfl ?_
          refine y_iload_n (n := 297) C dL_read_296 3 rfl rfl ?_
          refine y_iconst (n := 298) C (2 : Int32) dL_read_297 (by decide) rfl ?_
          refine y_ci2 (n := 301) C (fun r hr H locs la hP hS hl => y_runV (ci := 5) (st := []) C ky_X5_trial wd_588 ⟨Nat.le_of_ble_eq_true rfl, Nat.le_of_ble_eq_true rfl⟩ hO1.1 rfl (mX5_trial hO1 w31 x1 x2 2 g.2.1 r hr) rfl (Nat.le_of_ble_eq_true rfl) rfl dL_read_298 hP hS hl) rfl (fun v33 w34 hv33 => ?_)
          refine y_if_ne (tgt := 318) (n := 304) C dL_read_301 (by decide) rfl (fun h35 => ?_) (fun h35 => ?_)
          · refine y_ls [1, 4, 6, 0] rfl ?_
            exact cbL_read_318 C hR hO1 w34 x5 x7 v8
          · refine y_aload_n (n := 305) C dL_read_304 1 rfl rfl ?_
            refine y_iload_n (n := 306) C dL_read_305 2 rfl rfl ?_
            refine y_iload_n (n := 307) C dL_read_306 3 rfl rfl ?_
            refine y_iconst (n := 308) C (3 : Int32) dL_read_307 (by decide) rfl ?_
            refine y_ci2 (n := 311) C (fun r hr H locs la hP hS hl => y_runV (ci := 5) (st := []) C ky_X5_trial wd_588 ⟨Nat.le_of_ble_eq_true rfl, Nat.le_of_ble_eq_true rfl⟩ hO1.1 rfl (mX5_trial hO1 w34 x1 x2 3 g.2.1 r hr) rfl (Nat.le_of_ble_eq_true rfl) rfl dL_read_308 hP hS hl) rfl (fun v36 w37 hv36 => ?_)
            refine y_if_ne (tgt := 318) (n := 314) C dL_read_311 (by decide) rfl (fun h38 => ?_) (fun h38 => ?_)
            · refine y_ls [1, 4, 6, 0] rfl ?_
              exact cbL_read_318 C hR hO1 w37 x5 x7 v8
            · refine y_iconst (n := 315) C (1 : Int32) dL_read_314 (by decide) rfl ?_
              refine y_goto (tgt := 319) C dL_read_315 (by decide) ?_
              refine y_ls [1, 4, 6, 0] rfl ?_
              exact cbL_read_319 C hR hO1 w37 x5 x7 v8 1
def bL_read_234 (y : Ly) (K188 : Wd → Int32 → Int32 → Int32 → Int32 → Int32 → Int32 → Option (Int32 × Wd)) (w : Wd) (o1 : Nat) (x1 : Int32) (x2 : Int32) (x5 : Int32) (x7 : Int32) (x8 : Int32) : Option (Int32 × Wd) :=
  K188 w x1 x2 x5 0 x7 (x8 + 1)
set_option maxRecDepth 4000 in
theorem cbL_read_234 {g : Gx} {E : Ex} (C : CC g E cL_read 9 RL 7 163) (hR : RT g (some .int)) {o1 : Nat} (hO1 : shB E.2.2.2.2.2.1 o1) (w : Wd) (K188 : Wd → Int32 → Int32 → Int32 → Int32 → Int32 → Int32 → Option (Int32 × Wd)) (hK188 : ∀ (w : Wd) (x1 : Int32) (x2 : Int32) (x5 : Int32) (x6 : Int32) (x7 : Int32) (x8 : Int32), YO g E 9 (QI g E) (K188 w x1 x2 x5 x6 x7 x8) w 188 [(0, .ref (E.2.2.2.2.1 + o1)), (1, .int x1), (2, .int x2), (5, .int x5), (6, .int x6), (7, .int x7), (8, .int x8)] []) (x1 : Int32) (x2 : Int32) (x5 : Int32) (x7 : Int32) (x8 : Int32) : YO g E 9 (QI g E) (bL_read_234 E.2.2.2.2.2.1 K188 w o1 x1 x2 x5 x7 x8) w 234 [(0, .ref (E.2.2.2.2.1 + o1)), (1, .int x1), (2, .int x2), (5, .int x5), (7, .int x7), (8, .int x8)] [] := by
  unfold bL_read_234
  refine y_iconst (n := 235) C (0 : Int32) dL_read_234 (by decide) rfl ?_
  refine y_istore (n := 237) (ls' := [(6, .int 0), (0, .ref (E.2.2.2.2.1 + o1)), (1, .int x1), (2, .int x2), (5, .int x5), (7, .int x7), (8, .int x8)]) C dL_read_235 (by decide) rfl rfl ?_
  refine y_iinc (n := 240) (v := x8 + 1) (ls' := [(8, .int (x8 + 1)), (6, .int 0), (0, .ref (E.2.2.2.2.1 + o1)), (1, .int x1), (2, .int x2), (5, .int x5), (7, .int x7)]) C dL_read_237 6 rfl rfl (by decide) rfl rfl ?_
  refine y_goto (tgt := 188) C dL_read_240 (by decide) ?_
  refine y_ls [2, 3, 4, 5, 1, 6, 0] rfl ?_
  exact hK188 w x1 x2 x5 0 x7 (x8 + 1)
def lL_read_188 (y : Ly) (o1 : Nat) : Nat → Wd → Int32 → Int32 → Int32 → Int32 → Int32 → Int32 → Option (Int32 × Wd)
  | 0, _, _, _, _, _, _, _ => none
  | n + 1, w, x1, x2, x5, x6, x7, x8 =>
    if x7 ≤ x8 then
      bL_read_243 y w o1 x1 x2 x5 x6 x7
    else
      if x6 = 0 then
        bL_read_243 y w o1 x1 x2 x5 x6 x7
      else
        (fX5_told w o1 x8).bind fun v40 =>
        (fX5_document w o1 v40 3).bind fun v41 =>
        if v41 < 0 then
          bL_read_234 y (fun w z0 z1 z2 z3 z4 z5 => lL_read_188 y o1 n w z0 z1 z2 z3 z4 z5) w o1 x1 x2 x5 x7 x8
        else
          (fX5_told w o1 x8).bind fun v43 =>
          (fX5_seen w o1 v43 3).bind fun v44 =>
          if v44 = x8 then
            lL_read_188 y o1 n w x1 x2 x5 1 x7 (x8 + 1)
          else
            bL_read_234 y (fun w z0 z1 z2 z3 z4 z5 => lL_read_188 y o1 n w z0 z1 z2 z3 z4 z5) w o1 x1 x2 x5 x7 x8
set_option maxRecDepth 4000 in
theorem clL_read_188 {g : Gx} {E : Ex} (C : CC g E cL_read 9 RL 7 163) (hR : RT g (some .int)) {o1 : Nat} (hO1 : shB E.2.2.2.2.2.1 o1)  : ∀ (n : Nat) (w : Wd) (x1 : Int32) (x2 : Int32) (x5 : Int32) (x6 : Int32) (x7 : Int32) (x8 : Int32), YO g E 9 (QI g E) (lL_read_188 E.2.2.2.2.2.1 o1 n w x1 x2 x5 x6 x7 x8) w 188 [(0, .ref (E.2.2.2.2.1 + o1)), (1, .int x1), (2, .int x2), (5, .int x5), (6, .int x6), (7, .int x7), (8, .int x8)] [] := by
  intro n
  induction n with
  | zero => intro w x1 x2 x5 x6 x7 x8; exact y_no
  | succ n ih =>
    intro w x1 x2 x5 x6 x7 x8
    rw [lL_read_188]
    refine y_iload (n := 190) C dL_read_188 6 rfl rfl ?_
    refine y_iload (n := 192) C dL_read_190 5 rfl rfl ?_
    refine y_icmp_ge (tgt := 243) (n := 195) C dL_read_192 (by decide) rfl (fun h7 => ?_) (fun h7 => ?_)
    · refine y_ls [0, 1, 2, 3, 4, 5] rfl ?_
      exact cbL_read_243 C hR hO1 w x1 x2 x5 x6 x7
    · refine y_iload (n := 197) C dL_read_195 4 rfl rfl ?_
      refine y_if_eq (tgt := 243) (n := 200) C dL_read_197 (by decide) rfl (fun h39 => ?_) (fun h39 => ?_)
      · refine y_ls [0, 1, 2, 3, 4, 5] rfl ?_
        exact cbL_read_243 C hR hO1 w x1 x2 x5 x6 x7
      · refine y_aload_n (n := 201) C dL_read_200 0 rfl rfl ?_
        refine y_aload_n (n := 202) C dL_read_201 0 rfl rfl ?_
        refine y_iload (n := 204) C dL_read_202 6 rfl rfl ?_
        refine y_cp (n := 207) C (fun r hr H locs la hP hS hl => y_runV (ci := 5) (st := [.ref (E.2.2.2.2.1 + o1)]) C ky_X5_told wd_573 ⟨Nat.le_of_ble_eq_true rfl, Nat.le_of_ble_eq_true rfl⟩ hO1.1 rfl (mX5_told hO1 w x8 g.2.1 r hr) rfl (Nat.le_of_ble_eq_true rfl) rfl dL_read_204 hP hS hl) rfl (fun v40 hv40 => ?_)
        refine y_iconst (n := 208) C (3 : Int32) dL_read_207 (by decide) rfl ?_
        refine y_cp (n := 211) C (fun r hr H locs la hP hS hl => y_runV (ci := 5) (st := []) C ky_X5_document wd_361 ⟨Nat.le_of_ble_eq_true rfl, Nat.le_of_ble_eq_true rfl⟩ hO1.1 rfl (mX5_document hO1 w v40 3 g.2.1 r hr) rfl (Nat.le_of_ble_eq_true rfl) rfl dL_read_208 hP hS hl) rfl (fun v41 hv41 => ?_)
        refine y_if_lt (tgt := 234) (n := 214) C dL_read_211 (by decide) rfl (fun h42 => ?_) (fun h42 => ?_)
        · refine y_ls [0, 1, 2, 3, 5, 6] rfl ?_
          exact cbL_read_234 C hR hO1 w (fun w z0 z1 z2 z3 z4 z5 => lL_read_188 E.2.2.2.2.2.1 o1 n w z0 z1 z2 z3 z4 z5)  (fun w z0 z1 z2 z3 z4 z5 => ih w z0 z1 z2 z3 z4 z5) x1 x2 x5 x7 x8
        · refine y_aload_n (n := 215) C dL_read_214 0 rfl rfl ?_
          refine y_aload_n (n := 216) C dL_read_215 0 rfl rfl ?_
          refine y_iload (n := 218) C dL_read_216 6 rfl rfl ?_
          refine y_cp (n := 221) C (fun r hr H locs la hP hS hl => y_runV (ci := 5) (st := [.ref (E.2.2.2.2.1 + o1)]) C ky_X5_told wd_573 ⟨Nat.le_of_ble_eq_true rfl, Nat.le_of_ble_eq_true rfl⟩ hO1.1 rfl (mX5_told hO1 w x8 g.2.1 r hr) rfl (Nat.le_of_ble_eq_true rfl) rfl dL_read_218 hP hS hl) rfl (fun v43 hv43 => ?_)
          refine y_iconst (n := 222) C (3 : Int32) dL_read_221 (by decide) rfl ?_
          refine y_cp (n := 225) C (fun r hr H locs la hP hS hl => y_runV (ci := 5) (st := []) C ky_X5_seen wd_577 ⟨Nat.le_of_ble_eq_true rfl, Nat.le_of_ble_eq_true rfl⟩ hO1.1 rfl (mX5_seen hO1 w v43 3 g.2.1 r hr) rfl (Nat.le_of_ble_eq_true rfl) rfl dL_read_222 hP hS hl) rfl (fun v44 hv44 => ?_)
          refine y_iload (n := 227) C dL_read_225 6 rfl rfl ?_
          refine y_icmp_ne (tgt := 234) (n := 230) C dL_read_227 (by decide) rfl (fun h45 => ?_) (fun h45 => ?_)
          · refine y_ls [0, 1, 2, 3, 5, 6] rfl ?_
            exact cbL_read_234 C hR hO1 w (fun w z0 z1 z2 z3 z4 z5 => lL_read_188 E.2.2.2.2.2.1 o1 n w z0 z1 z2 z3 z4 z5)  (fun w z0 z1 z2 z3 z4 z5 => ih w z0 z1 z2 z3 z4 z5) x1 x2 x5 x7 x8
          · refine y_iconst (n := 231) C (1 : Int32) dL_read_230 (by decide) rfl ?_
            refine y_goto (tgt := 235) C dL_read_231 (by decide) ?_
            refine y_istore (n := 237) (ls' := [(6, .int 1), (0, .ref (E.2.2.2.2.1 + o1)), (1, .int x1), (2, .int x2), (5, .int x5), (7, .int x7), (8, .int x8)]) C dL_read_235 (by decide) rfl rfl ?_
            refine y_iinc (n := 240) (v := x8 + 1) (ls' := [(8, .int (x8 + 1)), (6, .int 1), (0, .ref (E.2.2.2.2.1 + o1)), (1, .int x1), (2, .int x2), (5, .int x5), (7, .int x7)]) C dL_read_237 6 rfl rfl (by decide) rfl rfl ?_
            refine y_goto (tgt := 188) C dL_read_240 (by decide) ?_
            refine y_ls [2, 3, 4, 5, 1, 6, 0] rfl ?_
            exact ih w x1 x2 x5 1 x7 (x8 + 1)
def bL_read_182 (y : Ly) (w : Wd) (o1 : Nat) (x1 : Int32) (x2 : Int32) (x5 : Int32) (x7 : Int32) : Option (Int32 × Wd) :=
  lL_read_188 y o1 4096 w x1 x2 x5 0 x7 0
set_option maxRecDepth 4000 in
theorem cbL_read_182 {g : Gx} {E : Ex} (C : CC g E cL_read 9 RL 7 163) (hR : RT g (some .int)) {o1 : Nat} (hO1 : shB E.2.2.2.2.2.1 o1) (w : Wd) (x1 : Int32) (x2 : Int32) (x5 : Int32) (x7 : Int32) : YO g E 9 (QI g E) (bL_read_182 E.2.2.2.2.2.1 w o1 x1 x2 x5 x7) w 182 [(0, .ref (E.2.2.2.2.1 + o1)), (1, .int x1), (2, .int x2), (5, .int x5), (7, .int x7)] [] := by
  unfold bL_read_182
  refine y_iconst (n := 183) C (0 : Int32) dL_read_182 (by decide) rfl ?_
  refine y_istore (n := 185) (ls' := [(6, .int 0), (0, .ref (E.2.2.2.2.1 + o1)), (1, .int x1), (2, .int x2), (5, .int x5), (7, .int x7)]) C dL_read_183 (by decide) rfl rfl ?_
  refine y_iconst (n := 186) C (0 : Int32) dL_read_185 (by decide) rfl ?_
  refine y_istore (n := 188) (ls' := [(8, .int 0), (6, .int 0), (0, .ref (E.2.2.2.2.1 + o1)), (1, .int x1), (2, .int x2), (5, .int x5), (7, .int x7)]) C dL_read_186 (by decide) rfl rfl ?_
  refine y_ls [2, 3, 4, 5, 1, 6, 0] rfl ?_
  exact clL_read_188 C hR hO1 4096 w x1 x2 x5 0 x7 0
def bL_read_143 (y : Ly) (w : Wd) (o1 : Nat) (x1 : Int32) (x2 : Int32) (x5 : Int32) (s0 : Int32) : Option (Int32 × Wd) :=
  (fX5_reading w o1 5).bind fun v5 =>
  if s0 = 0 then
    bL_read_182 y w o1 x1 x2 x5 v5
  else
    (fX5_count w o1 4).bind fun v46 =>
    if v5 = v46 then
      (fX5_told w o1 v5).bind fun v48 =>
      if v48 = (-5) then
        lL_read_188 y o1 4096 w x1 x2 x5 1 v5 0
      else
        bL_read_182 y w o1 x1 x2 x5 v5
    else
      bL_read_182 y w o1 x1 x2 x5 v5
set_option maxRecDepth 4000 in
theorem cbL_read_143 {g : Gx} {E : Ex} (C : CC g E cL_read 9 RL 7 163) (hR : RT g (some .int)) {o1 : Nat} (hO1 : shB E.2.2.2.2.2.1 o1) (w : Wd) (x1 : Int32) (x2 : Int32) (x5 : Int32) (s0 : Int32) : YO g E 9 (QI g E) (bL_read_143 E.2.2.2.2.2.1 w o1 x1 x2 x5 s0) w 143 [(0, .ref (E.2.2.2.2.1 + o1)), (1, .int x1), (2, .int x2), (5, .int x5)] [.int s0] := by
  unfold bL_read_143
  refine y_istore (n := 145) (ls' := [(6, .int s0), (0, .ref (E.2.2.2.2.1 + o1)), (1, .int x1), (2, .int x2), (5, .int x5)]) C dL_read_143 (by decide) rfl rfl ?_
  refine y_aload_n (n := 146) C dL_read_145 1 rfl rfl ?_
  refine y_iconst (n := 147) C (5 : Int32) dL_read_146 (by decide) rfl ?_
  refine y_cp (n := 150) C (fun r hr H locs la hP hS hl => y_runV (ci := 5) (st := []) C ky_X5_reading wd_546 ⟨Nat.le_of_ble_eq_true rfl, Nat.le_of_ble_eq_true rfl⟩ hO1.1 rfl (mX5_reading hO1 w 5 g.2.1 r hr) rfl (Nat.le_of_ble_eq_true rfl) rfl dL_read_147 hP hS hl) rfl (fun v5 hv5 => ?_)
  refine y_istore (n := 152) (ls' := [(7, .int v5), (6, .int s0), (0, .ref (E.2.2.2.2.1 + o1)), (1, .int x1), (2, .int x2), (5, .int x5)]) C dL_read_150 (by decide) rfl rfl ?_
  refine y_iload (n := 154) C dL_read_152 1 rfl rfl ?_
  refine y_if_eq (tgt := 182) (n := 157) C dL_read_154 (by decide) rfl (fun h6 => ?_) (fun h6 => ?_)
  · refine y_ls [2, 3, 4, 5, 0] rfl ?_
    exact cbL_read_182 C hR hO1 w x1 x2 x5 v5
  · refine y_iload (n := 159) C dL_read_157 0 rfl rfl ?_
    refine y_aload_n (n := 160) C dL_read_159 2 rfl rfl ?_
    refine y_iconst (n := 161) C (4 : Int32) dL_read_160 (by decide) rfl ?_
    refine y_cp (n := 164) C (fun r hr H locs la hP hS hl => y_runV (ci := 5) (st := [.int v5]) C ky_X5_count wd_439 ⟨Nat.le_of_ble_eq_true rfl, Nat.le_of_ble_eq_true rfl⟩ hO1.1 rfl (mX5_count hO1 w 4 g.2.1 r hr) rfl (Nat.le_of_ble_eq_true rfl) rfl dL_read_161 hP hS hl) rfl (fun v46 hv46 => ?_)
    refine y_icmp_ne (tgt := 182) (n := 167) C dL_read_164 (by decide) rfl (fun h47 => ?_) (fun h47 => ?_)
    · refine y_ls [2, 3, 4, 5, 0] rfl ?_
      exact cbL_read_182 C hR hO1 w x1 x2 x5 v5
    · refine y_aload_n (n := 168) C dL_read_167 2 rfl rfl ?_
      refine y_iload (n := 170) C dL_read_168 0 rfl rfl ?_
      refine y_cp (n := 173) C (fun r hr H locs la hP hS hl => y_runV (ci := 5) (st := []) C ky_X5_told wd_573 ⟨Nat.le_of_ble_eq_true rfl, Nat.le_of_ble_eq_true rfl⟩ hO1.1 rfl (mX5_told hO1 w v5 g.2.1 r hr) rfl (Nat.le_of_ble_eq_true rfl) rfl dL_read_170 hP hS hl) rfl (fun v48 hv48 => ?_)
      refine y_bipush (n := 175) C ((-5) : Int32) dL_read_173 (by decide) rfl ?_
      refine y_icmp_ne (tgt := 182) (n := 178) C dL_read_175 (by decide) rfl (fun h49 => ?_) (fun h49 => ?_)
      · refine y_ls [2, 3, 4, 5, 0] rfl ?_
        exact cbL_read_182 C hR hO1 w x1 x2 x5 v5
      · refine y_iconst (n := 179) C (1 : Int32) dL_read_178 (by decide) rfl ?_
        refine y_goto (tgt := 183) C dL_read_179 (by decide) ?_
        refine y_istore (n := 185) (ls' := [(6, .int 1), (7, .int v5), (0, .ref (E.2.2.2.2.1 + o1)), (1, .int x1), (2, .int x2), (5, .int x5)]) C dL_read_183 (by decide) rfl rfl ?_
        refine y_iconst (n := 186) C (0 : Int32) dL_read_185 (by decide) rfl ?_
        refine y_istore (n := 188) (ls' := [(8, .int 0), (6, .int 1), (7, .int v5), (0, .ref (E.2.2.2.2.1 + o1)), (1, .int x1), (2, .int x2), (5, .int x5)]) C dL_read_186 (by decide) rfl rfl ?_
        refine y_ls [3, 4, 5, 6, 1, 2, 0] rfl ?_
        exact clL_read_188 C hR hO1 4096 w x1 x2 x5 1 v5 0
def bL_read_142 (y : Ly) (w : Wd) (o1 : Nat) (x1 : Int32) (x2 : Int32) (x5 : Int32) : Option (Int32 × Wd) :=
  bL_read_143 y w o1 x1 x2 x5 0
set_option maxRecDepth 4000 in
theorem cbL_read_142 {g : Gx} {E : Ex} (C : CC g E cL_read 9 RL 7 163) (hR : RT g (some .int)) {o1 : Nat} (hO1 : shB E.2.2.2.2.2.1 o1) (w : Wd) (x1 : Int32) (x2 : Int32) (x5 : Int32) : YO g E 9 (QI g E) (bL_read_142 E.2.2.2.2.2.1 w o1 x1 x2 x5) w 142 [(0, .ref (E.2.2.2.2.1 + o1)), (1, .int x1), (2, .int x2), (5, .int x5)] [] := by
  unfold bL_read_142
  refine y_iconst (n := 143) C (0 : Int32) dL_read_142 (by decide) rfl ?_
  exact cbL_read_143 C hR hO1 w x1 x2 x5 0
def bL_read_74 (y : Ly) (w : Wd) (o1 : Nat) (x1 : Int32) (x2 : Int32) (x4 : Int32) (x5 : Int32) : Option (Int32 × Wd) :=
  if x4 = 1 then
    (fX5_reading w o1 0).bind fun v50 =>
    if v50 = x5 then
      (fX5_reading w o1 10).bind fun v52 =>
      if v52 = 0 then
        (fX5_reading w o1 11).bind fun v54 =>
        if v54 = 0 then
          (fX5_reading w o1 12).bind fun v56 =>
          if v56 = 0 then
            (fX5_reading w o1 7).bind fun v58 =>
            if v58 = (-5) then
              ob2 (fX5_step y w o1 1) fun v60 w61 =>
              if v60 = (-5) then
                bL_read_143 y w61 o1 x1 x2 x5 1
              else
                bL_read_142 y w61 o1 x1 x2 x5
            else
              bL_read_142 y w o1 x1 x2 x5
          else
            bL_read_142 y w o1 x1 x2 x5
        else
          bL_read_142 y w o1 x1 x2 x5
      else
        bL_read_142 y w o1 x1 x2 x5
    else
      bL_read_142 y w o1 x1 x2 x5
  else
    bL_read_142 y w o1 x1 x2 x5
set_option maxRecDepth 4000 in
theorem cbL_read_74 {g : Gx} {E : Ex} (C : CC g E cL_read 9 RL 7 163) (hR : RT g (some .int)) {o1 : Nat} (hO1 : shB E.2.2.2.2.2.1 o1) (w : Wd) (x1 : Int32) (x2 : Int32) (x4 : Int32) (x5 : Int32) : YO g E 9 (QI g E) (bL_read_74 E.2.2.2.2.2.1 w o1 x1 x2 x4 x5) w 74 [(0, .ref (E.2.2.2.2.1 + o1)), (1, .int x1), (2, .int x2), (4, .int x4), (5, .int x5)] [] := by
  unfold bL_read_74
  refine y_iload (n := 76) C dL_read_74 3 rfl rfl ?_
  refine y_iconst (n := 77) C (1 : Int32) dL_read_76 (by decide) rfl ?_
  refine y_icmp_ne (tgt := 142) (n := 80) C dL_read_77 (by decide) rfl (fun h4 => ?_) (fun h4 => ?_)
  · refine y_ls [0, 1, 2, 4] rfl ?_
    exact cbL_read_142 C hR hO1 w x1 x2 x5
  · refine y_aload_n (n := 81) C dL_read_80 0 rfl rfl ?_
    refine y_iconst (n := 82) C (0 : Int32) dL_read_81 (by decide) rfl ?_
    refine y_cp (n := 85) C (fun r hr H locs la hP hS hl => y_runV (ci := 5) (st := []) C ky_X5_reading wd_546 ⟨Nat.le_of_ble_eq_true rfl, Nat.le_of_ble_eq_true rfl⟩ hO1.1 rfl (mX5_reading hO1 w 0 g.2.1 r hr) rfl (Nat.le_of_ble_eq_true rfl) rfl dL_read_82 hP hS hl) rfl (fun v50 hv50 => ?_)
    refine y_iload (n := 87) C dL_read_85 4 rfl rfl ?_
    refine y_icmp_ne (tgt := 142) (n := 90) C dL_read_87 (by decide) rfl (fun h51 => ?_) (fun h51 => ?_)
    · refine y_ls [0, 1, 2, 4] rfl ?_
      exact cbL_read_142 C hR hO1 w x1 x2 x5
    · refine y_aload_n (n := 91) C dL_read_90 0 rfl rfl ?_
      refine y_bipush (n := 93) C (10 : Int32) dL_read_91 (by decide) rfl ?_
      refine y_cp (n := 96) C (fun r hr H locs la hP hS hl => y_runV (ci := 5) (st := []) C ky_X5_reading wd_546 ⟨Nat.le_of_ble_eq_true rfl, Nat.le_of_ble_eq_true rfl⟩ hO1.1 rfl (mX5_reading hO1 w 10 g.2.1 r hr) rfl (Nat.le_of_ble_eq_true rfl) rfl dL_read_93 hP hS hl) rfl (fun v52 hv52 => ?_)
      refine y_if_ne (tgt := 142) (n := 99) C dL_read_96 (by decide) rfl (fun h53 => ?_) (fun h53 => ?_)
      · refine y_ls [0, 1, 2, 4] rfl ?_
        exact cbL_read_142 C hR hO1 w x1 x2 x5
      · refine y_aload_n (n := 100) C dL_read_99 0 rfl rfl ?_
        refine y_bipush (n := 102) C (11 : Int32) dL_read_100 (by decide) rfl ?_
        refine y_cp (n := 105) C (fun r hr H locs la hP hS hl => y_runV (ci := 5) (st := []) C ky_X5_reading wd_546 ⟨Nat.le_of_ble_eq_true rfl, Nat.le_of_ble_eq_true rfl⟩ hO1.1 rfl (mX5_reading hO1 w 11 g.2.1 r hr) rfl (Nat.le_of_ble_eq_true rfl) rfl dL_read_102 hP hS hl) rfl (fun v54 hv54 => ?_)
        refine y_if_ne (tgt := 142) (n := 108) C dL_read_105 (by decide) rfl (fun h55 => ?_) (fun h55 => ?_)
        · refine y_ls [0, 1, 2, 4] rfl ?_
          exact cbL_read_142 C hR hO1 w x1 x2 x5
        · refine y_aload_n (n := 109) C dL_read_108 0 rfl rfl ?_
          refine y_bipush (n := 111) C (12 : Int32) dL_read_109 (by decide) rfl ?_
          refine y_cp (n := 114) C (fun r hr H locs la hP hS hl => y_runV (ci := 5) (st := []) C ky_X5_reading wd_546 ⟨Nat.le_of_ble_eq_true rfl, Nat.le_of_ble_eq_true rfl⟩ hO1.1 rfl (mX5_reading hO1 w 12 g.2.1 r hr) rfl (Nat.le_of_ble_eq_true rfl) rfl dL_read_111 hP hS hl) rfl (fun v56 hv56 => ?_)
          refine y_if_ne (tgt := 142) (n := 117) C dL_read_114 (by decide) rfl (fun h57 => ?_) (fun h57 => ?_)
          · refine y_ls [0, 1, 2, 4] rfl ?_
            exact cbL_read_142 C hR hO1 w x1 x2 x5
          · refine y_aload_n (n := 118) C dL_read_117 0 rfl rfl ?_
            refine y_bipush (n := 120) C (7 : Int32) dL_read_118 (by decide) rfl ?_
            refine y_cp (n := 123) C (fun r hr H locs la hP hS hl => y_runV (ci := 5) (st := []) C ky_X5_reading wd_546 ⟨Nat.le_of_ble_eq_true rfl, Nat.le_of_ble_eq_true rfl⟩ hO1.1 rfl (mX5_reading hO1 w 7 g.2.1 r hr) rfl (Nat.le_of_ble_eq_true rfl) rfl dL_read_120 hP hS hl) rfl (fun v58 hv58 => ?_)
            refine y_bipush (n := 125) C ((-5) : Int32) dL_read_123 (by decide) rfl ?_
            refine y_icmp_ne (tgt := 142) (n := 128) C dL_read_125 (by decide) rfl (fun h59 => ?_) (fun h59 => ?_)
            · refine y_ls [0, 1, 2, 4] rfl ?_
              exact cbL_read_142 C hR hO1 w x1 x2 x5
            · refine y_aload_n (n := 129) C dL_read_128 0 rfl rfl ?_
              refine y_iconst (n := 130) C (1 : Int32) dL_read_129 (by decide) rfl ?_
              refine y_ci2 (n := 133) C (fun r hr H locs la hP hS hl => y_runV (ci := 5) (st := []) C ky_X5_step wd_537 ⟨Nat.le_of_ble_eq_true rfl, Nat.le_of_ble_eq_true rfl⟩ hO1.1 rfl (mX5_step hO1 w 1 g.2.1 r hr) rfl (Nat.le_of_ble_eq_true rfl) rfl dL_read_130 hP hS hl) rfl (fun v60 w61 hv60 => ?_)
              refine y_bipush (n := 135) C ((-5) : Int32) dL_read_133 (by decide) rfl ?_
              refine y_icmp_ne (tgt := 142) (n := 138) C dL_read_135 (by decide) rfl (fun h62 => ?_) (fun h62 => ?_)
              · refine y_ls [0, 1, 2, 4] rfl ?_
                exact cbL_read_142 C hR hO1 w61 x1 x2 x5
              · refine y_iconst (n := 139) C (1 : Int32) dL_read_138 (by decide) rfl ?_
                refine y_goto (tgt := 143) C dL_read_139 (by decide) ?_
                refine y_ls [0, 1, 2, 4] rfl ?_
                exact cbL_read_143 C hR hO1 w61 x1 x2 x5 1
def lL_read_11 (y : Ly) (o1 : Nat) : Nat → Wd → Int32 → Int32 → Int32 → Int32 → Int32 → Option (Int32 × Wd)
  | 0, _, _, _, _, _, _ => none
  | n + 1, w, x1, x2, x3, x4, x5 =>
    if x4 = 0 then
      if 240 ≤ x5 then
        bL_read_74 y w o1 x1 x2 x4 x5
      else
        ob2 (fX5_step y w o1 x3) fun v64 w65 =>
        (fX5_reading w65 o1 6).bind fun v66 =>
        if v64 < 1 then
          some ((-1), w65)
        else
          if x3 < v64 then
            some ((-1), w65)
          else
            if v66 = 0 then
              if x3 ≤ v64 then
                lL_read_11 y o1 n w65 x1 x2 x3 v66 (x5 + v64)
              else
                some ((-1), w65)
            else
              lL_read_11 y o1 n w65 x1 x2 x3 v66 (x5 + v64)
    else
      bL_read_74 y w o1 x1 x2 x4 x5
set_option maxRecDepth 4000 in
theorem clL_read_11 {g : Gx} {E : Ex} (C : CC g E cL_read 9 RL 7 163) (hR : RT g (some .int)) {o1 : Nat} (hO1 : shB E.2.2.2.2.2.1 o1)  : ∀ (n : Nat) (w : Wd) (x1 : Int32) (x2 : Int32) (x3 : Int32) (x4 : Int32) (x5 : Int32), YO g E 9 (QI g E) (lL_read_11 E.2.2.2.2.2.1 o1 n w x1 x2 x3 x4 x5) w 11 [(0, .ref (E.2.2.2.2.1 + o1)), (1, .int x1), (2, .int x2), (3, .int x3), (4, .int x4), (5, .int x5)] [] := by
  intro n
  induction n with
  | zero => intro w x1 x2 x3 x4 x5; exact y_no
  | succ n ih =>
    intro w x1 x2 x3 x4 x5
    rw [lL_read_11]
    refine y_iload (n := 13) C dL_read_11 4 rfl rfl ?_
    refine y_if_ne (tgt := 74) (n := 16) C dL_read_13 (by decide) rfl (fun h3 => ?_) (fun h3 => ?_)
    · refine y_ls [0, 1, 2, 4, 5] rfl ?_
      exact cbL_read_74 C hR hO1 w x1 x2 x4 x5
    · refine y_iload (n := 18) C dL_read_16 5 rfl rfl ?_
      refine y_sipush (n := 21) C (240 : Int32) dL_read_18 (by decide) rfl ?_
      refine y_icmp_ge (tgt := 74) (n := 24) C dL_read_21 (by decide) rfl (fun h63 => ?_) (fun h63 => ?_)
      · refine y_ls [0, 1, 2, 4, 5] rfl ?_
        exact cbL_read_74 C hR hO1 w x1 x2 x4 x5
      · refine y_aload_n (n := 25) C dL_read_24 0 rfl rfl ?_
        refine y_iload_n (n := 26) C dL_read_25 3 rfl rfl ?_
        refine y_ci2 (n := 29) C (fun r hr H locs la hP hS hl => y_runV (ci := 5) (st := []) C ky_X5_step wd_537 ⟨Nat.le_of_ble_eq_true rfl, Nat.le_of_ble_eq_true rfl⟩ hO1.1 rfl (mX5_step hO1 w x3 g.2.1 r hr) rfl (Nat.le_of_ble_eq_true rfl) rfl dL_read_26 hP hS hl) rfl (fun v64 w65 hv64 => ?_)
        refine y_istore (n := 31) (ls' := [(6, .int v64), (0, .ref (E.2.2.2.2.1 + o1)), (1, .int x1), (2, .int x2), (3, .int x3), (4, .int x4), (5, .int x5)]) C dL_read_29 (by decide) rfl rfl ?_
        refine y_aload_n (n := 32) C dL_read_31 1 rfl rfl ?_
        refine y_bipush (n := 34) C (6 : Int32) dL_read_32 (by decide) rfl ?_
        refine y_cp (n := 37) C (fun r hr H locs la hP hS hl => y_runV (ci := 5) (st := []) C ky_X5_reading wd_546 ⟨Nat.le_of_ble_eq_true rfl, Nat.le_of_ble_eq_true rfl⟩ hO1.1 rfl (mX5_reading hO1 w65 6 g.2.1 r hr) rfl (Nat.le_of_ble_eq_true rfl) rfl dL_read_34 hP hS hl) rfl (fun v66 hv66 => ?_)
        refine y_istore (n := 39) (ls' := [(4, .int v66), (6, .int v64), (0, .ref (E.2.2.2.2.1 + o1)), (1, .int x1), (2, .int x2), (3, .int x3), (5, .int x5)]) C dL_read_37 (by decide) rfl rfl ?_
        refine y_iload (n := 41) C dL_read_39 6 rfl rfl ?_
        refine y_iload (n := 43) C dL_read_41 1 rfl rfl ?_
        refine y_iadd (n := 44) C dL_read_43 rfl ?_
        refine y_istore (n := 46) (ls' := [(5, .int (x5 + v64)), (4, .int v66), (6, .int v64), (0, .ref (E.2.2.2.2.1 + o1)), (1, .int x1), (2, .int x2), (3, .int x3)]) C dL_read_44 (by decide) rfl rfl ?_
        refine y_iload (n := 48) C dL_read_46 2 rfl rfl ?_
        refine y_iconst (n := 49) C (1 : Int32) dL_read_48 (by decide) rfl ?_
        refine y_icmp_lt (tgt := 69) (n := 52) C dL_read_49 (by decide) rfl (fun h67 => ?_) (fun h67 => ?_)
        · refine y_iconst (n := 70) C ((-1) : Int32) dL_read_69 (by decide) rfl ?_
          exact y_ri C hR dL_read_70
        · refine y_iload (n := 54) C dL_read_52 2 rfl rfl ?_
          refine y_iload_n (n := 55) C dL_read_54 6 rfl rfl ?_
          refine y_icmp_gt (tgt := 69) (n := 58) C dL_read_55 (by decide) rfl (fun h68 => ?_) (fun h68 => ?_)
          · refine y_iconst (n := 70) C ((-1) : Int32) dL_read_69 (by decide) rfl ?_
            exact y_ri C hR dL_read_70
          · refine y_iload (n := 60) C dL_read_58 1 rfl rfl ?_
            refine y_if_ne (tgt := 71) (n := 63) C dL_read_60 (by decide) rfl (fun h69 => ?_) (fun h69 => ?_)
            · refine y_goto (tgt := 11) C dL_read_71 (by decide) ?_
              refine y_ls [3, 4, 5, 6, 1, 0] rfl ?_
              exact ih w65 x1 x2 x3 v66 (x5 + v64)
            · refine y_iload (n := 65) C dL_read_63 2 rfl rfl ?_
              refine y_iload_n (n := 66) C dL_read_65 6 rfl rfl ?_
              refine y_icmp_ge (tgt := 71) (n := 69) C dL_read_66 (by decide) rfl (fun h70 => ?_) (fun h70 => ?_)
              · refine y_goto (tgt := 11) C dL_read_71 (by decide) ?_
                refine y_ls [3, 4, 5, 6, 1, 0] rfl ?_
                exact ih w65 x1 x2 x3 v66 (x5 + v64)
              · refine y_iconst (n := 70) C ((-1) : Int32) dL_read_69 (by decide) rfl ?_
                exact y_ri C hR dL_read_70
def fL_read (y : Ly) (w : Wd) (o1 : Nat) (a2 : Int32) (a3 : Int32) (a4 : Int32) : Option (Int32 × Wd) :=
  ob2 (fX5_begin y w o1 a2 a3) fun v1 w2 =>
  lL_read_11 y o1 4096 w2 a2 a3 a4 v1 0
set_option maxRecDepth 4000 in
theorem eL_read {g : Gx} {E : Ex} (C : CC g E cL_read 9 RL 7 163) (hR : RT g (some .int)) {o1 : Nat} (hO1 : shB E.2.2.2.2.2.1 o1) (w : Wd) (a2 : Int32) (a3 : Int32) (a4 : Int32) : YO g E 9 (QI g E) (fL_read E.2.2.2.2.2.1 w o1 a2 a3 a4) w 0 [(0, .ref (E.2.2.2.2.1 + o1)), (1, .int a2), (2, .int a3), (3, .int a4)] [] := by
  unfold fL_read
  refine y_aload_n (n := 1) C dL_read_0 0 rfl rfl ?_
  refine y_iload_n (n := 2) C dL_read_1 1 rfl rfl ?_
  refine y_iload_n (n := 3) C dL_read_2 2 rfl rfl ?_
  refine y_ci2 (n := 6) C (fun r hr H locs la hP hS hl => y_runV (ci := 5) (st := []) C ky_X5_begin wd_288 ⟨Nat.le_of_ble_eq_true rfl, Nat.le_of_ble_eq_true rfl⟩ hO1.1 rfl (mX5_begin hO1 w a2 a3 g.2.1 r hr) rfl (Nat.le_of_ble_eq_true rfl) rfl dL_read_3 hP hS hl) rfl (fun v1 w2 hv1 => ?_)
  refine y_istore (n := 8) (ls' := [(4, .int v1), (0, .ref (E.2.2.2.2.1 + o1)), (1, .int a2), (2, .int a3), (3, .int a4)]) C dL_read_6 (by decide) rfl rfl ?_
  refine y_iconst (n := 9) C (0 : Int32) dL_read_8 (by decide) rfl ?_
  refine y_istore (n := 11) (ls' := [(5, .int 0), (4, .int v1), (0, .ref (E.2.2.2.2.1 + o1)), (1, .int a2), (2, .int a3), (3, .int a4)]) C dL_read_9 (by decide) rfl rfl ?_
  refine y_ls [2, 3, 4, 5, 1, 0] rfl ?_
  exact clL_read_11 C hR hO1 4096 w2 a2 a3 a4 v1 0
theorem mL_read {E : Ex} {o1 : Nat} (hO1 : shB E.2.2.2.2.2.1 o1) (w : Wd) (a2 : Int32) (a3 : Int32) (a4 : Int32) (l : Launch) : MI l yL_read cL_read 9 (some .int) { frames := 7, cells := 0, slots := 0, locals := 163 } E [.ref (E.2.2.2.2.1 + o1), .int a2, .int a3, .int a4] w (fL_read E.2.2.2.2.2.1 w o1 a2 a3 a4) :=
  y_met (Qc := yQi E) (by decide +kernel) (Nat.le_of_ble_eq_true rfl) (fun g C hR => eL_read C hR hO1 w a2 a3 a4) l
