/-! X6_toldMany X6_end X6_entry X6_isDigit X6_isSmall X6_spells X6_isWord X6_keep X6_knownOf X6_letter X6_list X6_readNumber X6_perform -/
def fX6_toldMany (w : Wd) (o : Nat)  : Option (Int32) :=
  (fX6_seenMany w o).bind fun v1 =>
  (ldI 706 w (o + 1) 558).bind fun v2 =>
  if v2 ≤ v1 then
    (ldI 706 w (o + 1) 558).bind fun v4 =>
    some v4
  else
    some v1
set_option maxRecDepth 4000 in
theorem eX6_toldMany {g : Gx} {E : Ex} (C : CC g E cX6_toldMany 2 RX6 2 43) (hR : RT g (some .int)) {o : Nat} (hO : shM E.2.2.2.2.2.1 o) (w : Wd)  : YO g E 2 (QP g E w) (fX6_toldMany w o) w 0 [(0, .ref (E.2.2.2.2.1 + o))] [] := by
  unfold fX6_toldMany
  refine y_aload_n (n := 1) C dX6_toldMany_0 0 rfl rfl ?_
  refine y_cp (n := 4) C (fun r hr H locs la hP hS hl => y_runV (ci := 6) (st := []) C ky_X6_seenMany wd_909 ⟨Nat.le_of_ble_eq_true rfl, Nat.le_of_ble_eq_true rfl⟩ hO.1 rfl (mX6_seenMany hO w g.2.1 r hr) rfl (Nat.le_of_ble_eq_true rfl) rfl dX6_toldMany_1 hP hS hl) rfl (fun v1 hv1 => ?_)
  refine y_istore_n (n := 5) (ls' := [(1, .int v1), (0, .ref (E.2.2.2.2.1 + o))]) C dX6_toldMany_4 (by decide) rfl rfl ?_
  refine y_iload_n (n := 6) C dX6_toldMany_5 0 rfl rfl ?_
  refine y_aload_n (n := 7) C dX6_toldMany_6 1 rfl rfl ?_
  refine y_get (ci := 6) (f := 0) (n := 10) C in_X6 hO.1 rfl (by decide) wd_731 rfl rfl dX6_toldMany_7 rfl ?_
  refine y_sipush (n := 13) C (558 : Int32) dX6_toldMany_10 (by decide) rfl ?_
  refine y_iald (n := 14) C hO.2.1 dX6_toldMany_13 rfl (fun v2 hv2 => ?_)
  refine y_icmp_ge (tgt := 21) (n := 17) C dX6_toldMany_14 (by decide) rfl (fun h3 => ?_) (fun h3 => ?_)
  · refine y_aload_n (n := 22) C dX6_toldMany_21 1 rfl rfl ?_
    refine y_get (ci := 6) (f := 0) (n := 25) C in_X6 hO.1 rfl (by decide) wd_731 rfl rfl dX6_toldMany_22 rfl ?_
    refine y_sipush (n := 28) C (558 : Int32) dX6_toldMany_25 (by decide) rfl ?_
    refine y_iald (n := 29) C hO.2.1 dX6_toldMany_28 rfl (fun v4 hv4 => ?_)
    exact y_rp C hR dX6_toldMany_29
  · refine y_iload_n (n := 18) C dX6_toldMany_17 0 rfl rfl ?_
    refine y_goto (tgt := 29) C dX6_toldMany_18 (by decide) ?_
    exact y_rp C hR dX6_toldMany_29
theorem mX6_toldMany {E : Ex} {o : Nat} (hO : shM E.2.2.2.2.2.1 o) (w : Wd)  (l : Launch) : MP l yX6_toldMany cX6_toldMany 2 (some .int) { frames := 2, cells := 0, slots := 0, locals := 43 } E [.ref (E.2.2.2.2.1 + o)] w (fX6_toldMany w o) :=
  y_met (Qc := fun r => yQi E (r, w)) (by decide +kernel) (Nat.le_of_ble_eq_true rfl) (fun g C hR => eX6_toldMany C hR hO w ) l
def fX6_end (w : Wd) (o : Nat)  : Option (Int32 × Wd) :=
  (ldI 706 w (o + 1) 559).bind fun v1 =>
  if v1 = 0 then
    some ((-4), w)
  else
    (fX6_record w o).bind fun w3 =>
    (fX6_toldMany w3 o).bind fun v4 =>
    (stI 706 w3 (o + 1) 559 0).bind fun w5 =>
    some (v4, w5)
set_option maxRecDepth 4000 in
theorem eX6_end {g : Gx} {E : Ex} (C : CC g E cX6_end 2 RX6 3 64) (hR : RT g (some .int)) {o : Nat} (hO : shM E.2.2.2.2.2.1 o) (w : Wd)  : YO g E 2 (QI g E) (fX6_end w o) w 0 [(0, .ref (E.2.2.2.2.1 + o))] [] := by
  unfold fX6_end
  refine y_aload_n (n := 1) C dX6_end_0 0 rfl rfl ?_
  refine y_get (ci := 6) (f := 0) (n := 4) C in_X6 hO.1 rfl (by decide) wd_731 rfl rfl dX6_end_1 rfl ?_
  refine y_sipush (n := 7) C (559 : Int32) dX6_end_4 (by decide) rfl ?_
  refine y_iald (n := 8) C hO.2.1 dX6_end_7 rfl (fun v1 hv1 => ?_)
  refine y_if_ne (tgt := 14) (n := 11) C dX6_end_8 (by decide) rfl (fun h2 => ?_) (fun h2 => ?_)
  · refine y_aload_n (n := 15) C dX6_end_14 0 rfl rfl ?_
    refine y_cv (n := 18) C (fun r hr H locs la hP hS hl => y_runV (ci := 6) (st := []) C ky_X6_record wd_784 ⟨Nat.le_of_ble_eq_true rfl, Nat.le_of_ble_eq_true rfl⟩ hO.1 rfl (mX6_record hO w g.2.1 r hr) rfl (Nat.le_of_ble_eq_true rfl) rfl dX6_end_15 hP hS hl) rfl (fun w3 hw3 => ?_)
    refine y_aload_n (n := 19) C dX6_end_18 0 rfl rfl ?_
    refine y_cp (n := 22) C (fun r hr H locs la hP hS hl => y_runV (ci := 6) (st := []) C ky_X6_toldMany wd_977 ⟨Nat.le_of_ble_eq_true rfl, Nat.le_of_ble_eq_true rfl⟩ hO.1 rfl (mX6_toldMany hO w3 g.2.1 r hr) rfl (Nat.le_of_ble_eq_true rfl) rfl dX6_end_19 hP hS hl) rfl (fun v4 hv4 => ?_)
    refine y_istore_n (n := 23) (ls' := [(1, .int v4), (0, .ref (E.2.2.2.2.1 + o))]) C dX6_end_22 (by decide) rfl rfl ?_
    refine y_aload_n (n := 24) C dX6_end_23 1 rfl rfl ?_
    refine y_get (ci := 6) (f := 0) (n := 27) C in_X6 hO.1 rfl (by decide) wd_731 rfl rfl dX6_end_24 rfl ?_
    refine y_sipush (n := 30) C (559 : Int32) dX6_end_27 (by decide) rfl ?_
    refine y_iconst (n := 31) C (0 : Int32) dX6_end_30 (by decide) rfl ?_
    refine y_iast (n := 32) C hO.2.1 dX6_end_31 rfl (fun w5 hw5 => ?_)
    refine y_iload_n (n := 33) C dX6_end_32 0 rfl rfl ?_
    exact y_ri C hR dX6_end_33
  · refine y_bipush (n := 13) C ((-4) : Int32) dX6_end_11 (by decide) rfl ?_
    exact y_ri C hR dX6_end_13
theorem mX6_end {E : Ex} {o : Nat} (hO : shM E.2.2.2.2.2.1 o) (w : Wd)  (l : Launch) : MI l yX6_end cX6_end 2 (some .int) { frames := 3, cells := 0, slots := 0, locals := 64 } E [.ref (E.2.2.2.2.1 + o)] w (fX6_end w o) :=
  y_met (Qc := yQi E) (by decide +kernel) (Nat.le_of_ble_eq_true rfl) (fun g C hR => eX6_end C hR hO w ) l
def fX6_entry (w : Wd) (o : Nat) (a1 : Int32) (a2 : Int32) (a3 : Int32) : Option (Int32) :=
  (fX6_isList w a1).bind fun v1 =>
  if v1 = 0 then
    some (-1)
  else
    if a2 < 0 then
      some (-2)
    else
      if a3 < 0 then
        some (-2)
      else
        if a3 ≤ 1 then
          (ldI 706 w (o + 1) (480 + a1)).bind fun v6 =>
          if a2 < v6 then
            if a3 = 0 then
              (ldI 706 w (o + 1) ((0 + (40 * a1)) + a2)).bind fun v10 =>
              some v10
            else
              (ldI 706 w (o + 1) ((240 + (40 * a1)) + a2)).bind fun v9 =>
              some v9
          else
            some (-5)
        else
          some (-2)
set_option maxRecDepth 4000 in
theorem eX6_entry {g : Gx} {E : Ex} (C : CC g E cX6_entry 4 RX6 1 20) (hR : RT g (some .int)) {o : Nat} (hO : shM E.2.2.2.2.2.1 o) (w : Wd) (a1 : Int32) (a2 : Int32) (a3 : Int32) : YO g E 4 (QP g E w) (fX6_entry w o a1 a2 a3) w 0 [(0, .ref (E.2.2.2.2.1 + o)), (1, .int a1), (2, .int a2), (3, .int a3)] [] := by
  unfold fX6_entry
  refine y_iload_n (n := 1) C dX6_entry_0 1 rfl rfl ?_
  refine y_cp (n := 4) C (fun r hr H locs la hP hS hl => y_runS (st := []) C ky_X6_isList wd_792 ⟨Nat.le_of_ble_eq_true rfl, Nat.le_of_ble_eq_true rfl⟩ (mX6_isList w a1 g.2.1 r hr) rfl (Nat.le_of_ble_eq_true rfl) rfl dX6_entry_1 hP hS hl) rfl (fun v1 hv1 => ?_)
  refine y_if_ne (tgt := 9) (n := 7) C dX6_entry_4 (by decide) rfl (fun h2 => ?_) (fun h2 => ?_)
  · refine y_iload_n (n := 10) C dX6_entry_9 2 rfl rfl ?_
    refine y_if_lt (tgt := 22) (n := 13) C dX6_entry_10 (by decide) rfl (fun h3 => ?_) (fun h3 => ?_)
    · refine y_bipush (n := 24) C ((-2) : Int32) dX6_entry_22 (by decide) rfl ?_
      exact y_rp C hR dX6_entry_24
    · refine y_iload_n (n := 14) C dX6_entry_13 3 rfl rfl ?_
      refine y_if_lt (tgt := 22) (n := 17) C dX6_entry_14 (by decide) rfl (fun h4 => ?_) (fun h4 => ?_)
      · refine y_bipush (n := 24) C ((-2) : Int32) dX6_entry_22 (by decide) rfl ?_
        exact y_rp C hR dX6_entry_24
      · refine y_iload_n (n := 18) C dX6_entry_17 3 rfl rfl ?_
        refine y_iconst (n := 19) C (1 : Int32) dX6_entry_18 (by decide) rfl ?_
        refine y_icmp_le (tgt := 25) (n := 22) C dX6_entry_19 (by decide) rfl (fun h5 => ?_) (fun h5 => ?_)
        · refine y_iload_n (n := 26) C dX6_entry_25 2 rfl rfl ?_
          refine y_aload_n (n := 27) C dX6_entry_26 0 rfl rfl ?_
          refine y_get (ci := 6) (f := 0) (n := 30) C in_X6 hO.1 rfl (by decide) wd_731 rfl rfl dX6_entry_27 rfl ?_
          refine y_sipush (n := 33) C (480 : Int32) dX6_entry_30 (by decide) rfl ?_
          refine y_iload_n (n := 34) C dX6_entry_33 1 rfl rfl ?_
          refine y_iadd (n := 35) C dX6_entry_34 rfl ?_
          refine y_iald (n := 36) C hO.2.1 dX6_entry_35 rfl (fun v6 hv6 => ?_)
          refine y_icmp_lt (tgt := 42) (n := 39) C dX6_entry_36 (by decide) rfl (fun h7 => ?_) (fun h7 => ?_)
          · refine y_aload_n (n := 43) C dX6_entry_42 0 rfl rfl ?_
            refine y_get (ci := 6) (f := 0) (n := 46) C in_X6 hO.1 rfl (by decide) wd_731 rfl rfl dX6_entry_43 rfl ?_
            refine y_iload_n (n := 47) C dX6_entry_46 3 rfl rfl ?_
            refine y_if_ne (tgt := 54) (n := 50) C dX6_entry_47 (by decide) rfl (fun h8 => ?_) (fun h8 => ?_)
            · refine y_sipush (n := 57) C (240 : Int32) dX6_entry_54 (by decide) rfl ?_
              refine y_bipush (n := 59) C (40 : Int32) dX6_entry_57 (by decide) rfl ?_
              refine y_iload_n (n := 60) C dX6_entry_59 1 rfl rfl ?_
              refine y_imul (n := 61) C dX6_entry_60 rfl ?_
              refine y_iadd (n := 62) C dX6_entry_61 rfl ?_
              refine y_iload_n (n := 63) C dX6_entry_62 2 rfl rfl ?_
              refine y_iadd (n := 64) C dX6_entry_63 rfl ?_
              refine y_iald (n := 65) C hO.2.1 dX6_entry_64 rfl (fun v9 hv9 => ?_)
              exact y_rp C hR dX6_entry_65
            · refine y_iconst (n := 51) C (0 : Int32) dX6_entry_50 (by decide) rfl ?_
              refine y_goto (tgt := 57) C dX6_entry_51 (by decide) ?_
              refine y_bipush (n := 59) C (40 : Int32) dX6_entry_57 (by decide) rfl ?_
              refine y_iload_n (n := 60) C dX6_entry_59 1 rfl rfl ?_
              refine y_imul (n := 61) C dX6_entry_60 rfl ?_
              refine y_iadd (n := 62) C dX6_entry_61 rfl ?_
              refine y_iload_n (n := 63) C dX6_entry_62 2 rfl rfl ?_
              refine y_iadd (n := 64) C dX6_entry_63 rfl ?_
              refine y_iald (n := 65) C hO.2.1 dX6_entry_64 rfl (fun v10 hv10 => ?_)
              exact y_rp C hR dX6_entry_65
          · refine y_bipush (n := 41) C ((-5) : Int32) dX6_entry_39 (by decide) rfl ?_
            exact y_rp C hR dX6_entry_41
        · refine y_bipush (n := 24) C ((-2) : Int32) dX6_entry_22 (by decide) rfl ?_
          exact y_rp C hR dX6_entry_24
  · refine y_iconst (n := 8) C ((-1) : Int32) dX6_entry_7 (by decide) rfl ?_
    exact y_rp C hR dX6_entry_8
theorem mX6_entry {E : Ex} {o : Nat} (hO : shM E.2.2.2.2.2.1 o) (w : Wd) (a1 : Int32) (a2 : Int32) (a3 : Int32) (l : Launch) : MP l yX6_entry cX6_entry 4 (some .int) { frames := 1, cells := 0, slots := 0, locals := 20 } E [.ref (E.2.2.2.2.1 + o), .int a1, .int a2, .int a3] w (fX6_entry w o a1 a2 a3) :=
  y_met (Qc := fun r => yQi E (r, w)) (by decide +kernel) (Nat.le_of_ble_eq_true rfl) (fun g C hR => eX6_entry C hR hO w a1 a2 a3) l
def fX6_isDigit (w : Wd) (a1 : Int32) : Option (Int32) :=
  if a1 < 48 then
    rtZ 0
  else
    if 57 < a1 then
      rtZ 0
    else
      rtZ 1
set_option maxRecDepth 4000 in
theorem eX6_isDigit {g : Gx} {E : Ex} (C : CC g E cX6_isDigit 1 RX6 0 0) (hR : RT g (some .boolean))  (w : Wd) (a1 : Int32) : YO g E 1 (QP g E w) (fX6_isDigit w a1) w 0 [(0, .int a1)] [] := by
  unfold fX6_isDigit
  refine y_iload_n (n := 1) C dX6_isDigit_0 0 rfl rfl ?_
  refine y_bipush (n := 3) C (48 : Int32) dX6_isDigit_1 (by decide) rfl ?_
  refine y_icmp_lt (tgt := 16) (n := 6) C dX6_isDigit_3 (by decide) rfl (fun h1 => ?_) (fun h1 => ?_)
  · refine y_iconst (n := 17) C (0 : Int32) dX6_isDigit_16 (by decide) rfl ?_
    exact y_rz C hR dX6_isDigit_17
  · refine y_iload_n (n := 7) C dX6_isDigit_6 0 rfl rfl ?_
    refine y_bipush (n := 9) C (57 : Int32) dX6_isDigit_7 (by decide) rfl ?_
    refine y_icmp_gt (tgt := 16) (n := 12) C dX6_isDigit_9 (by decide) rfl (fun h2 => ?_) (fun h2 => ?_)
    · refine y_iconst (n := 17) C (0 : Int32) dX6_isDigit_16 (by decide) rfl ?_
      exact y_rz C hR dX6_isDigit_17
    · refine y_iconst (n := 13) C (1 : Int32) dX6_isDigit_12 (by decide) rfl ?_
      refine y_goto (tgt := 17) C dX6_isDigit_13 (by decide) ?_
      exact y_rz C hR dX6_isDigit_17
theorem mX6_isDigit {E : Ex}  (w : Wd) (a1 : Int32) (l : Launch) : MP l yX6_isDigit cX6_isDigit 1 (some .boolean) { frames := 0, cells := 0, slots := 0, locals := 0 } E [.int a1] w (fX6_isDigit w a1) :=
  y_met (Qc := fun r => yQi E (r, w)) (by decide +kernel) (Nat.le_of_ble_eq_true rfl) (fun g C hR => eX6_isDigit C hR  w a1) l
def fX6_isSmall (w : Wd) (a1 : Int32) : Option (Int32) :=
  if a1 < 97 then
    rtZ 0
  else
    if 122 < a1 then
      rtZ 0
    else
      rtZ 1
set_option maxRecDepth 4000 in
theorem eX6_isSmall {g : Gx} {E : Ex} (C : CC g E cX6_isSmall 1 RX6 0 0) (hR : RT g (some .boolean))  (w : Wd) (a1 : Int32) : YO g E 1 (QP g E w) (fX6_isSmall w a1) w 0 [(0, .int a1)] [] := by
  unfold fX6_isSmall
  refine y_iload_n (n := 1) C dX6_isSmall_0 0 rfl rfl ?_
  refine y_bipush (n := 3) C (97 : Int32) dX6_isSmall_1 (by decide) rfl ?_
  refine y_icmp_lt (tgt := 16) (n := 6) C dX6_isSmall_3 (by decide) rfl (fun h1 => ?_) (fun h1 => ?_)
  · refine y_iconst (n := 17) C (0 : Int32) dX6_isSmall_16 (by decide) rfl ?_
    exact y_rz C hR dX6_isSmall_17
  · refine y_iload_n (n := 7) C dX6_isSmall_6 0 rfl rfl ?_
    refine y_bipush (n := 9) C (122 : Int32) dX6_isSmall_7 (by decide) rfl ?_
    refine y_icmp_gt (tgt := 16) (n := 12) C dX6_isSmall_9 (by decide) rfl (fun h2 => ?_) (fun h2 => ?_)
    · refine y_iconst (n := 17) C (0 : Int32) dX6_isSmall_16 (by decide) rfl ?_
      exact y_rz C hR dX6_isSmall_17
    · refine y_iconst (n := 13) C (1 : Int32) dX6_isSmall_12 (by decide) rfl ?_
      refine y_goto (tgt := 17) C dX6_isSmall_13 (by decide) ?_
      exact y_rz C hR dX6_isSmall_17
theorem mX6_isSmall {E : Ex}  (w : Wd) (a1 : Int32) (l : Launch) : MP l yX6_isSmall cX6_isSmall 1 (some .boolean) { frames := 0, cells := 0, slots := 0, locals := 0 } E [.int a1] w (fX6_isSmall w a1) :=
  y_met (Qc := fun r => yQi E (r, w)) (by decide +kernel) (Nat.le_of_ble_eq_true rfl) (fun g C hR => eX6_isSmall C hR  w a1) l
def fX6_spells (w : Wd) (o : Nat) (a1 : Int32) (a2 : Int32) (a3 : Int32) (a4 : Int32) : Option (Int32) :=
  (ldI 40 w (o + 6) a4).bind fun v1 =>
  if v1 = a1 then
    (ldI 40 w (o + 6) (a4 + 1)).bind fun v3 =>
    if v3 = a2 then
      (ldI 40 w (o + 6) (a4 + 2)).bind fun v5 =>
      if v5 = a3 then
        rtZ 1
      else
        rtZ 0
    else
      rtZ 0
  else
    rtZ 0
set_option maxRecDepth 4000 in
theorem eX6_spells {g : Gx} {E : Ex} (C : CC g E cX6_spells 5 RX6 0 0) (hR : RT g (some .boolean)) {o : Nat} (hO : shM E.2.2.2.2.2.1 o) (w : Wd) (a1 : Int32) (a2 : Int32) (a3 : Int32) (a4 : Int32) : YO g E 5 (QP g E w) (fX6_spells w o a1 a2 a3 a4) w 0 [(0, .ref (E.2.2.2.2.1 + o)), (1, .int a1), (2, .int a2), (3, .int a3), (4, .int a4)] [] := by
  unfold fX6_spells
  refine y_aload_n (n := 1) C dX6_spells_0 0 rfl rfl ?_
  refine y_get (ci := 6) (f := 7) (n := 4) C in_X6 hO.1 rfl (by decide) wd_738 rfl rfl dX6_spells_1 rfl ?_
  refine y_iload (n := 6) C dX6_spells_4 4 rfl rfl ?_
  refine y_cald (n := 7) C hO.2.2.2.2.2.2.1 dX6_spells_6 rfl (fun v1 hv1 => ?_)
  refine y_iload_n (n := 8) C dX6_spells_7 1 rfl rfl ?_
  refine y_icmp_ne (tgt := 41) (n := 11) C dX6_spells_8 (by decide) rfl (fun h2 => ?_) (fun h2 => ?_)
  · refine y_iconst (n := 42) C (0 : Int32) dX6_spells_41 (by decide) rfl ?_
    exact y_rz C hR dX6_spells_42
  · refine y_aload_n (n := 12) C dX6_spells_11 0 rfl rfl ?_
    refine y_get (ci := 6) (f := 7) (n := 15) C in_X6 hO.1 rfl (by decide) wd_738 rfl rfl dX6_spells_12 rfl ?_
    refine y_iload (n := 17) C dX6_spells_15 4 rfl rfl ?_
    refine y_iconst (n := 18) C (1 : Int32) dX6_spells_17 (by decide) rfl ?_
    refine y_iadd (n := 19) C dX6_spells_18 rfl ?_
    refine y_cald (n := 20) C hO.2.2.2.2.2.2.1 dX6_spells_19 rfl (fun v3 hv3 => ?_)
    refine y_iload_n (n := 21) C dX6_spells_20 2 rfl rfl ?_
    refine y_icmp_ne (tgt := 41) (n := 24) C dX6_spells_21 (by decide) rfl (fun h4 => ?_) (fun h4 => ?_)
    · refine y_iconst (n := 42) C (0 : Int32) dX6_spells_41 (by decide) rfl ?_
      exact y_rz C hR dX6_spells_42
    · refine y_aload_n (n := 25) C dX6_spells_24 0 rfl rfl ?_
      refine y_get (ci := 6) (f := 7) (n := 28) C in_X6 hO.1 rfl (by decide) wd_738 rfl rfl dX6_spells_25 rfl ?_
      refine y_iload (n := 30) C dX6_spells_28 4 rfl rfl ?_
      refine y_iconst (n := 31) C (2 : Int32) dX6_spells_30 (by decide) rfl ?_
      refine y_iadd (n := 32) C dX6_spells_31 rfl ?_
      refine y_cald (n := 33) C hO.2.2.2.2.2.2.1 dX6_spells_32 rfl (fun v5 hv5 => ?_)
      refine y_iload_n (n := 34) C dX6_spells_33 3 rfl rfl ?_
      refine y_icmp_ne (tgt := 41) (n := 37) C dX6_spells_34 (by decide) rfl (fun h6 => ?_) (fun h6 => ?_)
      · refine y_iconst (n := 42) C (0 : Int32) dX6_spells_41 (by decide) rfl ?_
        exact y_rz C hR dX6_spells_42
      · refine y_iconst (n := 38) C (1 : Int32) dX6_spells_37 (by decide) rfl ?_
        refine y_goto (tgt := 42) C dX6_spells_38 (by decide) ?_
        exact y_rz C hR dX6_spells_42
theorem mX6_spells {E : Ex} {o : Nat} (hO : shM E.2.2.2.2.2.1 o) (w : Wd) (a1 : Int32) (a2 : Int32) (a3 : Int32) (a4 : Int32) (l : Launch) : MP l yX6_spells cX6_spells 5 (some .boolean) { frames := 0, cells := 0, slots := 0, locals := 0 } E [.ref (E.2.2.2.2.1 + o), .int a1, .int a2, .int a3, .int a4] w (fX6_spells w o a1 a2 a3 a4) :=
  y_met (Qc := fun r => yQi E (r, w)) (by decide +kernel) (Nat.le_of_ble_eq_true rfl) (fun g C hR => eX6_spells C hR hO w a1 a2 a3 a4) l
def fX6_isWord (w : Wd) (o : Nat) (a1 : Int32) (a2 : Int32) : Option (Int32) :=
  if a1 = 0 then
    if a2 = 3 then
      (fX6_spells w o 97 100 100 0).bind fun v3 =>
      if v3 = 0 then
        rtZ 0
      else
        rtZ 1
    else
      rtZ 0
  else
  if a1 = 1 then
    if a2 = 4 then
      (fX6_spells w o 100 114 111 0).bind fun v7 =>
      if v7 = 0 then
        rtZ 0
      else
        (ldI 40 w (o + 6) 3).bind fun v9 =>
        if v9 = 112 then
          rtZ 1
        else
          rtZ 0
    else
      rtZ 0
  else
  if a1 = 2 then
    if a2 = 6 then
      (fX6_spells w o 119 101 105 0).bind fun v13 =>
      if v13 = 0 then
        rtZ 0
      else
        (fX6_spells w o 103 104 116 3).bind fun v15 =>
        if v15 = 0 then
          rtZ 0
        else
          rtZ 1
    else
      rtZ 0
  else
  if a1 = 3 then
    if a2 = 5 then
      (fX6_spells w o 98 114 105 0).bind fun v19 =>
      if v19 = 0 then
        rtZ 0
      else
        (ldI 40 w (o + 6) 3).bind fun v21 =>
        if v21 = 98 then
          (ldI 40 w (o + 6) 4).bind fun v23 =>
          if v23 = 101 then
            rtZ 1
          else
            rtZ 0
        else
          rtZ 0
    else
      rtZ 0
  else
  if a1 = 4 then
    if a2 = 6 then
      (fX6_spells w o 100 101 108 0).bind fun v27 =>
      if v27 = 0 then
        rtZ 0
      else
        (fX6_spells w o 101 116 101 3).bind fun v29 =>
        if v29 = 0 then
          rtZ 0
        else
          rtZ 1
    else
      rtZ 0
  else
  if a1 = 5 then
    if a2 = 5 then
      (fX6_spells w o 98 114 105 0).bind fun v33 =>
      if v33 = 0 then
        rtZ 0
      else
        (ldI 40 w (o + 6) 3).bind fun v35 =>
        if v35 = 110 then
          (ldI 40 w (o + 6) 4).bind fun v37 =>
          if v37 = 103 then
            rtZ 1
          else
            rtZ 0
        else
          rtZ 0
    else
      rtZ 0
  else
  if a2 = 4 then
    (fX6_spells w o 119 97 110 0).bind fun v40 =>
    if v40 = 0 then
      rtZ 0
    else
      (ldI 40 w (o + 6) 3).bind fun v42 =>
      if v42 = 116 then
        rtZ 1
      else
        rtZ 0
  else
    rtZ 0
set_option maxRecDepth 4000 in
theorem eX6_isWord {g : Gx} {E : Ex} (C : CC g E cX6_isWord 3 RX6 1 24) (hR : RT g (some .boolean)) {o : Nat} (hO : shM E.2.2.2.2.2.1 o) (w : Wd) (a1 : Int32) (a2 : Int32) : YO g E 3 (QP g E w) (fX6_isWord w o a1 a2) w 0 [(0, .ref (E.2.2.2.2.1 + o)), (1, .int a1), (2, .int a2)] [] := by
  unfold fX6_isWord
  refine y_iload_n (n := 1) C dX6_isWord_0 1 rfl rfl ?_
  refine y_if (fun h1 => ?_) (fun h1 => ?_)
  · refine y_swIn (tgt := 40) C 39 dX6_isWord_1 (by rw [h1]; decide) (by rw [h1]; decide) (by rw [h1]; rfl) (by decide) ?_
    refine y_iload_n (n := 41) C dX6_isWord_40 2 rfl rfl ?_
    refine y_iconst (n := 42) C (3 : Int32) dX6_isWord_41 (by decide) rfl ?_
    refine y_icmp_ne (tgt := 63) (n := 45) C dX6_isWord_42 (by decide) rfl (fun h2 => ?_) (fun h2 => ?_)
    · refine y_iconst (n := 64) C (0 : Int32) dX6_isWord_63 (by decide) rfl ?_
      exact y_rz C hR dX6_isWord_64
    · refine y_aload_n (n := 46) C dX6_isWord_45 0 rfl rfl ?_
      refine y_bipush (n := 48) C (97 : Int32) dX6_isWord_46 (by decide) rfl ?_
      refine y_bipush (n := 50) C (100 : Int32) dX6_isWord_48 (by decide) rfl ?_
      refine y_bipush (n := 52) C (100 : Int32) dX6_isWord_50 (by decide) rfl ?_
      refine y_iconst (n := 53) C (0 : Int32) dX6_isWord_52 (by decide) rfl ?_
      refine y_cp (n := 56) C (fun r hr H locs la hP hS hl => y_runV (ci := 6) (st := []) C ky_X6_spells wd_1056 ⟨Nat.le_of_ble_eq_true rfl, Nat.le_of_ble_eq_true rfl⟩ hO.1 rfl (mX6_spells hO w 97 100 100 0 g.2.1 r hr) rfl (Nat.le_of_ble_eq_true rfl) rfl dX6_isWord_53 hP hS hl) rfl (fun v3 hv3 => ?_)
      refine y_if_eq (tgt := 63) (n := 59) C dX6_isWord_56 (by decide) rfl (fun h4 => ?_) (fun h4 => ?_)
      · refine y_iconst (n := 64) C (0 : Int32) dX6_isWord_63 (by decide) rfl ?_
        exact y_rz C hR dX6_isWord_64
      · refine y_iconst (n := 60) C (1 : Int32) dX6_isWord_59 (by decide) rfl ?_
        refine y_goto (tgt := 64) C dX6_isWord_60 (by decide) ?_
        exact y_rz C hR dX6_isWord_64
  refine y_if (fun h5 => ?_) (fun h5 => ?_)
  · refine y_swIn (tgt := 65) C 64 dX6_isWord_1 (by rw [h5]; decide) (by rw [h5]; decide) (by rw [h5]; rfl) (by decide) ?_
    refine y_iload_n (n := 66) C dX6_isWord_65 2 rfl rfl ?_
    refine y_iconst (n := 67) C (4 : Int32) dX6_isWord_66 (by decide) rfl ?_
    refine y_icmp_ne (tgt := 99) (n := 70) C dX6_isWord_67 (by decide) rfl (fun h6 => ?_) (fun h6 => ?_)
    · refine y_iconst (n := 100) C (0 : Int32) dX6_isWord_99 (by decide) rfl ?_
      exact y_rz C hR dX6_isWord_100
    · refine y_aload_n (n := 71) C dX6_isWord_70 0 rfl rfl ?_
      refine y_bipush (n := 73) C (100 : Int32) dX6_isWord_71 (by decide) rfl ?_
      refine y_bipush (n := 75) C (114 : Int32) dX6_isWord_73 (by decide) rfl ?_
      refine y_bipush (n := 77) C (111 : Int32) dX6_isWord_75 (by decide) rfl ?_
      refine y_iconst (n := 78) C (0 : Int32) dX6_isWord_77 (by decide) rfl ?_
      refine y_cp (n := 81) C (fun r hr H locs la hP hS hl => y_runV (ci := 6) (st := []) C ky_X6_spells wd_1056 ⟨Nat.le_of_ble_eq_true rfl, Nat.le_of_ble_eq_true rfl⟩ hO.1 rfl (mX6_spells hO w 100 114 111 0 g.2.1 r hr) rfl (Nat.le_of_ble_eq_true rfl) rfl dX6_isWord_78 hP hS hl) rfl (fun v7 hv7 => ?_)
      refine y_if_eq (tgt := 99) (n := 84) C dX6_isWord_81 (by decide) rfl (fun h8 => ?_) (fun h8 => ?_)
      · refine y_iconst (n := 100) C (0 : Int32) dX6_isWord_99 (by decide) rfl ?_
        exact y_rz C hR dX6_isWord_100
      · refine y_aload_n (n := 85) C dX6_isWord_84 0 rfl rfl ?_
        refine y_get (ci := 6) (f := 7) (n := 88) C in_X6 hO.1 rfl (by decide) wd_738 rfl rfl dX6_isWord_85 rfl ?_
        refine y_iconst (n := 89) C (3 : Int32) dX6_isWord_88 (by decide) rfl ?_
        refine y_cald (n := 90) C hO.2.2.2.2.2.2.1 dX6_isWord_89 rfl (fun v9 hv9 => ?_)
        refine y_bipush (n := 92) C (112 : Int32) dX6_isWord_90 (by decide) rfl ?_
        refine y_icmp_ne (tgt := 99) (n := 95) C dX6_isWord_92 (by decide) rfl (fun h10 => ?_) (fun h10 => ?_)
        · refine y_iconst (n := 100) C (0 : Int32) dX6_isWord_99 (by decide) rfl ?_
          exact y_rz C hR dX6_isWord_100
        · refine y_iconst (n := 96) C (1 : Int32) dX6_isWord_95 (by decide) rfl ?_
          refine y_goto (tgt := 100) C dX6_isWord_96 (by decide) ?_
          exact y_rz C hR dX6_isWord_100
  refine y_if (fun h11 => ?_) (fun h11 => ?_)
  · refine y_swIn (tgt := 101) C 100 dX6_isWord_1 (by rw [h11]; decide) (by rw [h11]; decide) (by rw [h11]; rfl) (by decide) ?_
    refine y_iload_n (n := 102) C dX6_isWord_101 2 rfl rfl ?_
    refine y_bipush (n := 104) C (6 : Int32) dX6_isWord_102 (by decide) rfl ?_
    refine y_icmp_ne (tgt := 139) (n := 107) C dX6_isWord_104 (by decide) rfl (fun h12 => ?_) (fun h12 => ?_)
    · refine y_iconst (n := 140) C (0 : Int32) dX6_isWord_139 (by decide) rfl ?_
      exact y_rz C hR dX6_isWord_140
    · refine y_aload_n (n := 108) C dX6_isWord_107 0 rfl rfl ?_
      refine y_bipush (n := 110) C (119 : Int32) dX6_isWord_108 (by decide) rfl ?_
      refine y_bipush (n := 112) C (101 : Int32) dX6_isWord_110 (by decide) rfl ?_
      refine y_bipush (n := 114) C (105 : Int32) dX6_isWord_112 (by decide) rfl ?_
      refine y_iconst (n := 115) C (0 : Int32) dX6_isWord_114 (by decide) rfl ?_
      refine y_cp (n := 118) C (fun r hr H locs la hP hS hl => y_runV (ci := 6) (st := []) C ky_X6_spells wd_1056 ⟨Nat.le_of_ble_eq_true rfl, Nat.le_of_ble_eq_true rfl⟩ hO.1 rfl (mX6_spells hO w 119 101 105 0 g.2.1 r hr) rfl (Nat.le_of_ble_eq_true rfl) rfl dX6_isWord_115 hP hS hl) rfl (fun v13 hv13 => ?_)
      refine y_if_eq (tgt := 139) (n := 121) C dX6_isWord_118 (by decide) rfl (fun h14 => ?_) (fun h14 => ?_)
      · refine y_iconst (n := 140) C (0 : Int32) dX6_isWord_139 (by decide) rfl ?_
        exact y_rz C hR dX6_isWord_140
      · refine y_aload_n (n := 122) C dX6_isWord_121 0 rfl rfl ?_
        refine y_bipush (n := 124) C (103 : Int32) dX6_isWord_122 (by decide) rfl ?_
        refine y_bipush (n := 126) C (104 : Int32) dX6_isWord_124 (by decide) rfl ?_
        refine y_bipush (n := 128) C (116 : Int32) dX6_isWord_126 (by decide) rfl ?_
        refine y_iconst (n := 129) C (3 : Int32) dX6_isWord_128 (by decide) rfl ?_
        refine y_cp (n := 132) C (fun r hr H locs la hP hS hl => y_runV (ci := 6) (st := []) C ky_X6_spells wd_1056 ⟨Nat.le_of_ble_eq_true rfl, Nat.le_of_ble_eq_true rfl⟩ hO.1 rfl (mX6_spells hO w 103 104 116 3 g.2.1 r hr) rfl (Nat.le_of_ble_eq_true rfl) rfl dX6_isWord_129 hP hS hl) rfl (fun v15 hv15 => ?_)
        refine y_if_eq (tgt := 139) (n := 135) C dX6_isWord_132 (by decide) rfl (fun h16 => ?_) (fun h16 => ?_)
        · refine y_iconst (n := 140) C (0 : Int32) dX6_isWord_139 (by decide) rfl ?_
          exact y_rz C hR dX6_isWord_140
        · refine y_iconst (n := 136) C (1 : Int32) dX6_isWord_135 (by decide) rfl ?_
          refine y_goto (tgt := 140) C dX6_isWord_136 (by decide) ?_
          exact y_rz C hR dX6_isWord_140
  refine y_if (fun h17 => ?_) (fun h17 => ?_)
  · refine y_swIn (tgt := 141) C 140 dX6_isWord_1 (by rw [h17]; decide) (by rw [h17]; decide) (by rw [h17]; rfl) (by decide) ?_
    refine y_iload_n (n := 142) C dX6_isWord_141 2 rfl rfl ?_
    refine y_iconst (n := 143) C (5 : Int32) dX6_isWord_142 (by decide) rfl ?_
    refine y_icmp_ne (tgt := 186) (n := 146) C dX6_isWord_143 (by decide) rfl (fun h18 => ?_) (fun h18 => ?_)
    · refine y_iconst (n := 187) C (0 : Int32) dX6_isWord_186 (by decide) rfl ?_
      exact y_rz C hR dX6_isWord_187
    · refine y_aload_n (n := 147) C dX6_isWord_146 0 rfl rfl ?_
      refine y_bipush (n := 149) C (98 : Int32) dX6_isWord_147 (by decide) rfl ?_
      refine y_bipush (n := 151) C (114 : Int32) dX6_isWord_149 (by decide) rfl ?_
      refine y_bipush (n := 153) C (105 : Int32) dX6_isWord_151 (by decide) rfl ?_
      refine y_iconst (n := 154) C (0 : Int32) dX6_isWord_153 (by decide) rfl ?_
      refine y_cp (n := 157) C (fun r hr H locs la hP hS hl => y_runV (ci := 6) (st := []) C ky_X6_spells wd_1056 ⟨Nat.le_of_ble_eq_true rfl, Nat.le_of_ble_eq_true rfl⟩ hO.1 rfl (mX6_spells hO w 98 114 105 0 g.2.1 r hr) rfl (Nat.le_of_ble_eq_true rfl) rfl dX6_isWord_154 hP hS hl) rfl (fun v19 hv19 => ?_)
      refine y_if_eq (tgt := 186) (n := 160) C dX6_isWord_157 (by decide) rfl (fun h20 => ?_) (fun h20 => ?_)
      · refine y_iconst (n := 187) C (0 : Int32) dX6_isWord_186 (by decide) rfl ?_
        exact y_rz C hR dX6_isWord_187
      · refine y_aload_n (n := 161) C dX6_isWord_160 0 rfl rfl ?_
        refine y_get (ci := 6) (f := 7) (n := 164) C in_X6 hO.1 rfl (by decide) wd_738 rfl rfl dX6_isWord_161 rfl ?_
        refine y_iconst (n := 165) C (3 : Int32) dX6_isWord_164 (by decide) rfl ?_
        refine y_cald (n := 166) C hO.2.2.2.2.2.2.1 dX6_isWord_165 rfl (fun v21 hv21 => ?_)
        refine y_bipush (n := 168) C (98 : Int32) dX6_isWord_166 (by decide) rfl ?_
        refine y_icmp_ne (tgt := 186) (n := 171) C dX6_isWord_168 (by decide) rfl (fun h22 => ?_) (fun h22 => ?_)
        · refine y_iconst (n := 187) C (0 : Int32) dX6_isWord_186 (by decide) rfl ?_
          exact y_rz C hR dX6_isWord_187
        · refine y_aload_n (n := 172) C dX6_isWord_171 0 rfl rfl ?_
          refine y_get (ci := 6) (f := 7) (n := 175) C in_X6 hO.1 rfl (by decide) wd_738 rfl rfl dX6_isWord_172 rfl ?_
          refine y_iconst (n := 176) C (4 : Int32) dX6_isWord_175 (by decide) rfl ?_
          refine y_cald (n := 177) C hO.2.2.2.2.2.2.1 dX6_isWord_176 rfl (fun v23 hv23 => ?_)
          refine y_bipush (n := 179) C (101 : Int32) dX6_isWord_177 (by decide) rfl ?_
          refine y_icmp_ne (tgt := 186) (n := 182) C dX6_isWord_179 (by decide) rfl (fun h24 => ?_) (fun h24 => ?_)
          · refine y_iconst (n := 187) C (0 : Int32) dX6_isWord_186 (by decide) rfl ?_
            exact y_rz C hR dX6_isWord_187
          · refine y_iconst (n := 183) C (1 : Int32) dX6_isWord_182 (by decide) rfl ?_
            refine y_goto (tgt := 187) C dX6_isWord_183 (by decide) ?_
            exact y_rz C hR dX6_isWord_187
  refine y_if (fun h25 => ?_) (fun h25 => ?_)
  · refine y_swIn (tgt := 188) C 187 dX6_isWord_1 (by rw [h25]; decide) (by rw [h25]; decide) (by rw [h25]; rfl) (by decide) ?_
    refine y_iload_n (n := 189) C dX6_isWord_188 2 rfl rfl ?_
    refine y_bipush (n := 191) C (6 : Int32) dX6_isWord_189 (by decide) rfl ?_
    refine y_icmp_ne (tgt := 226) (n := 194) C dX6_isWord_191 (by decide) rfl (fun h26 => ?_) (fun h26 => ?_)
    · refine y_iconst (n := 227) C (0 : Int32) dX6_isWord_226 (by decide) rfl ?_
      exact y_rz C hR dX6_isWord_227
    · refine y_aload_n (n := 195) C dX6_isWord_194 0 rfl rfl ?_
      refine y_bipush (n := 197) C (100 : Int32) dX6_isWord_195 (by decide) rfl ?_
      refine y_bipush (n := 199) C (101 : Int32) dX6_isWord_197 (by decide) rfl ?_
      refine y_bipush (n := 201) C (108 : Int32) dX6_isWord_199 (by decide) rfl ?_
      refine y_iconst (n := 202) C (0 : Int32) dX6_isWord_201 (by decide) rfl ?_
      refine y_cp (n := 205) C (fun r hr H locs la hP hS hl => y_runV (ci := 6) (st := []) C ky_X6_spells wd_1056 ⟨Nat.le_of_ble_eq_true rfl, Nat.le_of_ble_eq_true rfl⟩ hO.1 rfl (mX6_spells hO w 100 101 108 0 g.2.1 r hr) rfl (Nat.le_of_ble_eq_true rfl) rfl dX6_isWord_202 hP hS hl) rfl (fun v27 hv27 => ?_)
      refine y_if_eq (tgt := 226) (n := 208) C dX6_isWord_205 (by decide) rfl (fun h28 => ?_) (fun h28 => ?_)
      · refine y_iconst (n := 227) C (0 : Int32) dX6_isWord_226 (by decide) rfl ?_
        exact y_rz C hR dX6_isWord_227
      · refine y_aload_n (n := 209) C dX6_isWord_208 0 rfl rfl ?_
        refine y_bipush (n := 211) C (101 : Int32) dX6_isWord_209 (by decide) rfl ?_
        refine y_bipush (n := 213) C (116 : Int32) dX6_isWord_211 (by decide) rfl ?_
        refine y_bipush (n := 215) C (101 : Int32) dX6_isWord_213 (by decide) rfl ?_
        refine y_iconst (n := 216) C (3 : Int32) dX6_isWord_215 (by decide) rfl ?_
        refine y_cp (n := 219) C (fun r hr H locs la hP hS hl => y_runV (ci := 6) (st := []) C ky_X6_spells wd_1056 ⟨Nat.le_of_ble_eq_true rfl, Nat.le_of_ble_eq_true rfl⟩ hO.1 rfl (mX6_spells hO w 101 116 101 3 g.2.1 r hr) rfl (Nat.le_of_ble_eq_true rfl) rfl dX6_isWord_216 hP hS hl) rfl (fun v29 hv29 => ?_)
        refine y_if_eq (tgt := 226) (n := 222) C dX6_isWord_219 (by decide) rfl (fun h30 => ?_) (fun h30 => ?_)
        · refine y_iconst (n := 227) C (0 : Int32) dX6_isWord_226 (by decide) rfl ?_
          exact y_rz C hR dX6_isWord_227
        · refine y_iconst (n := 223) C (1 : Int32) dX6_isWord_222 (by decide) rfl ?_
          refine y_goto (tgt := 227) C dX6_isWord_223 (by decide) ?_
          exact y_rz C hR dX6_isWord_227
  refine y_if (fun h31 => ?_) (fun h31 => ?_)
  · refine y_swIn (tgt := 228) C 227 dX6_isWord_1 (by rw [h31]; decide) (by rw [h31]; decide) (by rw [h31]; rfl) (by decide) ?_
    refine y_iload_n (n := 229) C dX6_isWord_228 2 rfl rfl ?_
    refine y_iconst (n := 230) C (5 : Int32) dX6_isWord_229 (by decide) rfl ?_
    refine y_icmp_ne (tgt := 273) (n := 233) C dX6_isWord_230 (by decide) rfl (fun h32 => ?_) (fun h32 => ?_)
    · refine y_iconst (n := 274) C (0 : Int32) dX6_isWord_273 (by decide) rfl ?_
      exact y_rz C hR dX6_isWord_274
    · refine y_aload_n (n := 234) C dX6_isWord_233 0 rfl rfl ?_
      refine y_bipush (n := 236) C (98 : Int32) dX6_isWord_234 (by decide) rfl ?_
      refine y_bipush (n := 238) C (114 : Int32) dX6_isWord_236 (by decide) rfl ?_
      refine y_bipush (n := 240) C (105 : Int32) dX6_isWord_238 (by decide) rfl ?_
      refine y_iconst (n := 241) C (0 : Int32) dX6_isWord_240 (by decide) rfl ?_
      refine y_cp (n := 244) C (fun r hr H locs la hP hS hl => y_runV (ci := 6) (st := []) C ky_X6_spells wd_1056 ⟨Nat.le_of_ble_eq_true rfl, Nat.le_of_ble_eq_true rfl⟩ hO.1 rfl (mX6_spells hO w 98 114 105 0 g.2.1 r hr) rfl (Nat.le_of_ble_eq_true rfl) rfl dX6_isWord_241 hP hS hl) rfl (fun v33 hv33 => ?_)
      refine y_if_eq (tgt := 273) (n := 247) C dX6_isWord_244 (by decide) rfl (fun h34 => ?_) (fun h34 => ?_)
      · refine y_iconst (n := 274) C (0 : Int32) dX6_isWord_273 (by decide) rfl ?_
        exact y_rz C hR dX6_isWord_274
      · refine y_aload_n (n := 248) C dX6_isWord_247 0 rfl rfl ?_
        refine y_get (ci := 6) (f := 7) (n := 251) C in_X6 hO.1 rfl (by decide) wd_738 rfl rfl dX6_isWord_248 rfl ?_
        refine y_iconst (n := 252) C (3 : Int32) dX6_isWord_251 (by decide) rfl ?_
        refine y_cald (n := 253) C hO.2.2.2.2.2.2.1 dX6_isWord_252 rfl (fun v35 hv35 => ?_)
        refine y_bipush (n := 255) C (110 : Int32) dX6_isWord_253 (by decide) rfl ?_
        refine y_icmp_ne (tgt := 273) (n := 258) C dX6_isWord_255 (by decide) rfl (fun h36 => ?_) (fun h36 => ?_)
        · refine y_iconst (n := 274) C (0 : Int32) dX6_isWord_273 (by decide) rfl ?_
          exact y_rz C hR dX6_isWord_274
        · refine y_aload_n (n := 259) C dX6_isWord_258 0 rfl rfl ?_
          refine y_get (ci := 6) (f := 7) (n := 262) C in_X6 hO.1 rfl (by decide) wd_738 rfl rfl dX6_isWord_259 rfl ?_
          refine y_iconst (n := 263) C (4 : Int32) dX6_isWord_262 (by decide) rfl ?_
          refine y_cald (n := 264) C hO.2.2.2.2.2.2.1 dX6_isWord_263 rfl (fun v37 hv37 => ?_)
          refine y_bipush (n := 266) C (103 : Int32) dX6_isWord_264 (by decide) rfl ?_
          refine y_icmp_ne (tgt := 273) (n := 269) C dX6_isWord_266 (by decide) rfl (fun h38 => ?_) (fun h38 => ?_)
          · refine y_iconst (n := 274) C (0 : Int32) dX6_isWord_273 (by decide) rfl ?_
            exact y_rz C hR dX6_isWord_274
          · refine y_iconst (n := 270) C (1 : Int32) dX6_isWord_269 (by decide) rfl ?_
            refine y_goto (tgt := 274) C dX6_isWord_270 (by decide) ?_
            exact y_rz C hR dX6_isWord_274
  refine y_swOut (tgt := 275) C dX6_isWord_1 (by have gh1 := sw_ne (k := 0) (by decide) h1; have gh5 := sw_ne (k := 1) (by decide) h5; have gh11 := sw_ne (k := 2) (by decide) h11; have gh17 := sw_ne (k := 3) (by decide) h17; have gh25 := sw_ne (k := 4) (by decide) h25; have gh31 := sw_ne (k := 5) (by decide) h31; omega) (by decide) ?_
  refine y_iload_n (n := 276) C dX6_isWord_275 2 rfl rfl ?_
  refine y_iconst (n := 277) C (4 : Int32) dX6_isWord_276 (by decide) rfl ?_
  refine y_icmp_ne (tgt := 309) (n := 280) C dX6_isWord_277 (by decide) rfl (fun h39 => ?_) (fun h39 => ?_)
  · refine y_iconst (n := 310) C (0 : Int32) dX6_isWord_309 (by decide) rfl ?_
    exact y_rz C hR dX6_isWord_310
  · refine y_aload_n (n := 281) C dX6_isWord_280 0 rfl rfl ?_
    refine y_bipush (n := 283) C (119 : Int32) dX6_isWord_281 (by decide) rfl ?_
    refine y_bipush (n := 285) C (97 : Int32) dX6_isWord_283 (by decide) rfl ?_
    refine y_bipush (n := 287) C (110 : Int32) dX6_isWord_285 (by decide) rfl ?_
    refine y_iconst (n := 288) C (0 : Int32) dX6_isWord_287 (by decide) rfl ?_
    refine y_cp (n := 291) C (fun r hr H locs la hP hS hl => y_runV (ci := 6) (st := []) C ky_X6_spells wd_1056 ⟨Nat.le_of_ble_eq_true rfl, Nat.le_of_ble_eq_true rfl⟩ hO.1 rfl (mX6_spells hO w 119 97 110 0 g.2.1 r hr) rfl (Nat.le_of_ble_eq_true rfl) rfl dX6_isWord_288 hP hS hl) rfl (fun v40 hv40 => ?_)
    refine y_if_eq (tgt := 309) (n := 294) C dX6_isWord_291 (by decide) rfl (fun h41 => ?_) (fun h41 => ?_)
    · refine y_iconst (n := 310) C (0 : Int32) dX6_isWord_309 (by decide) rfl ?_
      exact y_rz C hR dX6_isWord_310
    · refine y_aload_n (n := 295) C dX6_isWord_294 0 rfl rfl ?_
      refine y_get (ci := 6) (f := 7) (n := 298) C in_X6 hO.1 rfl (by decide) wd_738 rfl rfl dX6_isWord_295 rfl ?_
      refine y_iconst (n := 299) C (3 : Int32) dX6_isWord_298 (by decide) rfl ?_
      refine y_cald (n := 300) C hO.2.2.2.2.2.2.1 dX6_isWord_299 rfl (fun v42 hv42 => ?_)
      refine y_bipush (n := 302) C (116 : Int32) dX6_isWord_300 (by decide) rfl ?_
      refine y_icmp_ne (tgt := 309) (n := 305) C dX6_isWord_302 (by decide) rfl (fun h43 => ?_) (fun h43 => ?_)
      · refine y_iconst (n := 310) C (0 : Int32) dX6_isWord_309 (by decide) rfl ?_
        exact y_rz C hR dX6_isWord_310
      · refine y_iconst (n := 306) C (1 : Int32) dX6_isWord_305 (by decide) rfl ?_
        refine y_goto (tgt := 310) C dX6_isWord_306 (by decide) ?_
        exact y_rz C hR dX6_isWord_310
theorem mX6_isWord {E : Ex} {o : Nat} (hO : shM E.2.2.2.2.2.1 o) (w : Wd) (a1 : Int32) (a2 : Int32) (l : Launch) : MP l yX6_isWord cX6_isWord 3 (some .boolean) { frames := 1, cells := 0, slots := 0, locals := 24 } E [.ref (E.2.2.2.2.1 + o), .int a1, .int a2] w (fX6_isWord w o a1 a2) :=
  y_met (Qc := fun r => yQi E (r, w)) (by decide +kernel) (Nat.le_of_ble_eq_true rfl) (fun g C hR => eX6_isWord C hR hO w a1 a2) l
def lX6_keep_7 (o : Nat) : Nat → Wd → Int32 → Option (Int32 × Wd)
  | 0, _, _ => none
  | n + 1, w, x1 =>
    if 706 ≤ x1 then
      (fX6_entries w o).bind fun v3 =>
      some (v3, w)
    else
      (ldI 706 w (o + 1) x1).bind fun v4 =>
      (stI 706 w (o + 3) x1 v4).bind fun w5 =>
      lX6_keep_7 o n w5 (x1 + 1)
set_option maxRecDepth 4000 in
theorem clX6_keep_7 {g : Gx} {E : Ex} (C : CC g E cX6_keep 2 RX6 1 22) (hR : RT g (some .int)) {o : Nat} (hO : shM E.2.2.2.2.2.1 o) : ∀ (n : Nat) (w : Wd) (x1 : Int32), YO g E 2 (QI g E) (lX6_keep_7 o n w x1) w 7 [(0, .ref (E.2.2.2.2.1 + o)), (1, .int x1)] [] := by
  intro n
  induction n with
  | zero => intro w x1; exact y_no
  | succ n ih =>
    intro w x1
    rw [lX6_keep_7]
    refine y_iload_n (n := 8) C dX6_keep_7 1 rfl rfl ?_
    refine y_sipush (n := 11) C (706 : Int32) dX6_keep_8 (by decide) rfl ?_
    refine y_icmp_ge (tgt := 32) (n := 14) C dX6_keep_11 (by decide) rfl (fun h2 => ?_) (fun h2 => ?_)
    · refine y_aload_n (n := 33) C dX6_keep_32 0 rfl rfl ?_
      refine y_cp (n := 36) C (fun r hr H locs la hP hS hl => y_runV (ci := 6) (st := []) C ky_X6_entries wd_776 ⟨Nat.le_of_ble_eq_true rfl, Nat.le_of_ble_eq_true rfl⟩ hO.1 rfl (mX6_entries hO w g.2.1 r hr) rfl (Nat.le_of_ble_eq_true rfl) rfl dX6_keep_33 hP hS hl) rfl (fun v3 hv3 => ?_)
      exact y_ri C hR dX6_keep_36
    · refine y_aload_n (n := 15) C dX6_keep_14 0 rfl rfl ?_
      refine y_get (ci := 6) (f := 2) (n := 18) C in_X6 hO.1 rfl (by decide) wd_733 rfl rfl dX6_keep_15 rfl ?_
      refine y_iload_n (n := 19) C dX6_keep_18 1 rfl rfl ?_
      refine y_aload_n (n := 20) C dX6_keep_19 0 rfl rfl ?_
      refine y_get (ci := 6) (f := 0) (n := 23) C in_X6 hO.1 rfl (by decide) wd_731 rfl rfl dX6_keep_20 rfl ?_
      refine y_iload_n (n := 24) C dX6_keep_23 1 rfl rfl ?_
      refine y_iald (n := 25) C hO.2.1 dX6_keep_24 rfl (fun v4 hv4 => ?_)
      refine y_iast (n := 26) C hO.2.2.2.1 dX6_keep_25 rfl (fun w5 hw5 => ?_)
      refine y_iinc (n := 29) (v := x1 + 1) (ls' := [(1, .int (x1 + 1)), (0, .ref (E.2.2.2.2.1 + o))]) C dX6_keep_26 1 rfl rfl (by decide) rfl rfl ?_
      refine y_goto (tgt := 7) C dX6_keep_29 (by decide) ?_
      refine y_ls [1, 0] rfl ?_
      exact ih w5 (x1 + 1)
def fX6_keep (w : Wd) (o : Nat)  : Option (Int32 × Wd) :=
  (stZ w o 6 1).bind fun w1 =>
  lX6_keep_7 o 4096 w1 0
set_option maxRecDepth 4000 in
theorem eX6_keep {g : Gx} {E : Ex} (C : CC g E cX6_keep 2 RX6 1 22) (hR : RT g (some .int)) {o : Nat} (hO : shM E.2.2.2.2.2.1 o) (w : Wd)  : YO g E 2 (QI g E) (fX6_keep w o) w 0 [(0, .ref (E.2.2.2.2.1 + o))] [] := by
  unfold fX6_keep
  refine y_aload_n (n := 1) C dX6_keep_0 0 rfl rfl ?_
  refine y_iconst (n := 2) C (1 : Int32) dX6_keep_1 (by decide) rfl ?_
  refine y_putZ (ci := 6) (f := 6) (n := 5) C in_X6 tyX6 tyX6_ok nmX6 hO.1 rfl (by decide) wd_737 rfl rfl (by decide +kernel) (Nat.le_of_ble_eq_true rfl) st_X6_6 dX6_keep_2 rfl (fun w1 hw1 => ?_)
  refine y_iconst (n := 6) C (0 : Int32) dX6_keep_5 (by decide) rfl ?_
  refine y_istore_n (n := 7) (ls' := [(1, .int 0), (0, .ref (E.2.2.2.2.1 + o))]) C dX6_keep_6 (by decide) rfl rfl ?_
  refine y_ls [1, 0] rfl ?_
  exact clX6_keep_7 C hR hO 4096 w1 0
theorem mX6_keep {E : Ex} {o : Nat} (hO : shM E.2.2.2.2.2.1 o) (w : Wd)  (l : Launch) : MI l yX6_keep cX6_keep 2 (some .int) { frames := 1, cells := 0, slots := 0, locals := 22 } E [.ref (E.2.2.2.2.1 + o)] w (fX6_keep w o) :=
  y_met (Qc := yQi E) (by decide +kernel) (Nat.le_of_ble_eq_true rfl) (fun g C hR => eX6_keep C hR hO w ) l
def lX6_knownOf_4 (o : Nat) : Nat → Wd → Int32 → Int32 → Int32 → Option (Int32)
  | 0, _, _, _, _ => none
  | n + 1, w, x1, x2, x3 =>
    if 6 ≤ x3 then
      some x2
    else
      (fX6_isAsked w o x3).bind fun v2 =>
      if v2 = 0 then
        lX6_knownOf_4 o n w x1 (x2 ||| 0) (x3 + 1)
      else
        (fX6_isKnown w o x3 x1).bind fun v4 =>
        if v4 = 0 then
          lX6_knownOf_4 o n w x1 (x2 ||| 0) (x3 + 1)
        else
          lX6_knownOf_4 o n w x1 (x2 ||| (1 <<< (x3 &&& 31))) (x3 + 1)
set_option maxRecDepth 4000 in
theorem clX6_knownOf_4 {g : Gx} {E : Ex} (C : CC g E cX6_knownOf 4 RX6 2 43) (hR : RT g (some .int)) {o : Nat} (hO : shM E.2.2.2.2.2.1 o) (w : Wd) : ∀ (n : Nat) (x1 : Int32) (x2 : Int32) (x3 : Int32), YO g E 4 (QP g E w) (lX6_knownOf_4 o n w x1 x2 x3) w 4 [(0, .ref (E.2.2.2.2.1 + o)), (1, .int x1), (2, .int x2), (3, .int x3)] [] := by
  intro n
  induction n with
  | zero => intro x1 x2 x3; exact y_no
  | succ n ih =>
    intro x1 x2 x3
    rw [lX6_knownOf_4]
    refine y_iload_n (n := 5) C dX6_knownOf_4 3 rfl rfl ?_
    refine y_bipush (n := 7) C (6 : Int32) dX6_knownOf_5 (by decide) rfl ?_
    refine y_icmp_ge (tgt := 43) (n := 10) C dX6_knownOf_7 (by decide) rfl (fun h1 => ?_) (fun h1 => ?_)
    · refine y_iload_n (n := 44) C dX6_knownOf_43 2 rfl rfl ?_
      exact y_rp C hR dX6_knownOf_44
    · refine y_iload_n (n := 11) C dX6_knownOf_10 2 rfl rfl ?_
      refine y_aload_n (n := 12) C dX6_knownOf_11 0 rfl rfl ?_
      refine y_iload_n (n := 13) C dX6_knownOf_12 3 rfl rfl ?_
      refine y_cp (n := 16) C (fun r hr H locs la hP hS hl => y_runV (ci := 6) (st := [.int x2]) C ky_X6_isAsked wd_889 ⟨Nat.le_of_ble_eq_true rfl, Nat.le_of_ble_eq_true rfl⟩ hO.1 rfl (mX6_isAsked hO w x3 g.2.1 r hr) rfl (Nat.le_of_ble_eq_true rfl) rfl dX6_knownOf_13 hP hS hl) rfl (fun v2 hv2 => ?_)
      refine y_if_eq (tgt := 34) (n := 19) C dX6_knownOf_16 (by decide) rfl (fun h3 => ?_) (fun h3 => ?_)
      · refine y_iconst (n := 35) C (0 : Int32) dX6_knownOf_34 (by decide) rfl ?_
        refine y_ior (n := 36) C dX6_knownOf_35 rfl ?_
        refine y_istore_n (n := 37) (ls' := [(2, .int (x2 ||| 0)), (0, .ref (E.2.2.2.2.1 + o)), (1, .int x1), (3, .int x3)]) C dX6_knownOf_36 (by decide) rfl rfl ?_
        refine y_iinc (n := 40) (v := x3 + 1) (ls' := [(3, .int (x3 + 1)), (2, .int (x2 ||| 0)), (0, .ref (E.2.2.2.2.1 + o)), (1, .int x1)]) C dX6_knownOf_37 3 rfl rfl (by decide) rfl rfl ?_
        refine y_goto (tgt := 4) C dX6_knownOf_40 (by decide) ?_
        refine y_ls [2, 3, 1, 0] rfl ?_
        exact ih x1 (x2 ||| 0) (x3 + 1)
      · refine y_aload_n (n := 20) C dX6_knownOf_19 0 rfl rfl ?_
        refine y_iload_n (n := 21) C dX6_knownOf_20 3 rfl rfl ?_
        refine y_iload_n (n := 22) C dX6_knownOf_21 1 rfl rfl ?_
        refine y_cp (n := 25) C (fun r hr H locs la hP hS hl => y_runV (ci := 6) (st := [.int x2]) C ky_X6_isKnown wd_925 ⟨Nat.le_of_ble_eq_true rfl, Nat.le_of_ble_eq_true rfl⟩ hO.1 rfl (mX6_isKnown hO w x3 x1 g.2.1 r hr) rfl (Nat.le_of_ble_eq_true rfl) rfl dX6_knownOf_22 hP hS hl) rfl (fun v4 hv4 => ?_)
        refine y_if_eq (tgt := 34) (n := 28) C dX6_knownOf_25 (by decide) rfl (fun h5 => ?_) (fun h5 => ?_)
        · refine y_iconst (n := 35) C (0 : Int32) dX6_knownOf_34 (by decide) rfl ?_
          refine y_ior (n := 36) C dX6_knownOf_35 rfl ?_
          refine y_istore_n (n := 37) (ls' := [(2, .int (x2 ||| 0)), (0, .ref (E.2.2.2.2.1 + o)), (1, .int x1), (3, .int x3)]) C dX6_knownOf_36 (by decide) rfl rfl ?_
          refine y_iinc (n := 40) (v := x3 + 1) (ls' := [(3, .int (x3 + 1)), (2, .int (x2 ||| 0)), (0, .ref (E.2.2.2.2.1 + o)), (1, .int x1)]) C dX6_knownOf_37 3 rfl rfl (by decide) rfl rfl ?_
          refine y_goto (tgt := 4) C dX6_knownOf_40 (by decide) ?_
          refine y_ls [2, 3, 1, 0] rfl ?_
          exact ih x1 (x2 ||| 0) (x3 + 1)
        · refine y_iconst (n := 29) C (1 : Int32) dX6_knownOf_28 (by decide) rfl ?_
          refine y_iload_n (n := 30) C dX6_knownOf_29 3 rfl rfl ?_
          refine y_ishl (n := 31) C dX6_knownOf_30 rfl ?_
          refine y_goto (tgt := 35) C dX6_knownOf_31 (by decide) ?_
          refine y_ior (n := 36) C dX6_knownOf_35 rfl ?_
          refine y_istore_n (n := 37) (ls' := [(2, .int (x2 ||| (1 <<< (x3 &&& 31)))), (0, .ref (E.2.2.2.2.1 + o)), (1, .int x1), (3, .int x3)]) C dX6_knownOf_36 (by decide) rfl rfl ?_
          refine y_iinc (n := 40) (v := x3 + 1) (ls' := [(3, .int (x3 + 1)), (2, .int (x2 ||| (1 <<< (x3 &&& 31)))), (0, .ref (E.2.2.2.2.1 + o)), (1, .int x1)]) C dX6_knownOf_37 3 rfl rfl (by decide) rfl rfl ?_
          refine y_goto (tgt := 4) C dX6_knownOf_40 (by decide) ?_
          refine y_ls [2, 3, 1, 0] rfl ?_
          exact ih x1 (x2 ||| (1 <<< (x3 &&& 31))) (x3 + 1)
def fX6_knownOf (w : Wd) (o : Nat) (a1 : Int32) : Option (Int32) :=
  lX6_knownOf_4 o 4096 w a1 0 0
set_option maxRecDepth 4000 in
theorem eX6_knownOf {g : Gx} {E : Ex} (C : CC g E cX6_knownOf 4 RX6 2 43) (hR : RT g (some .int)) {o : Nat} (hO : shM E.2.2.2.2.2.1 o) (w : Wd) (a1 : Int32) : YO g E 4 (QP g E w) (fX6_knownOf w o a1) w 0 [(0, .ref (E.2.2.2.2.1 + o)), (1, .int a1)] [] := by
  unfold fX6_knownOf
  refine y_iconst (n := 1) C (0 : Int32) dX6_knownOf_0 (by decide) rfl ?_
  refine y_istore_n (n := 2) (ls' := [(2, .int 0), (0, .ref (E.2.2.2.2.1 + o)), (1, .int a1)]) C dX6_knownOf_1 (by decide) rfl rfl ?_
  refine y_iconst (n := 3) C (0 : Int32) dX6_knownOf_2 (by decide) rfl ?_
  refine y_istore_n (n := 4) (ls' := [(3, .int 0), (2, .int 0), (0, .ref (E.2.2.2.2.1 + o)), (1, .int a1)]) C dX6_knownOf_3 (by decide) rfl rfl ?_
  refine y_ls [2, 3, 1, 0] rfl ?_
  exact clX6_knownOf_4 C hR hO w 4096 a1 0 0
theorem mX6_knownOf {E : Ex} {o : Nat} (hO : shM E.2.2.2.2.2.1 o) (w : Wd) (a1 : Int32) (l : Launch) : MP l yX6_knownOf cX6_knownOf 4 (some .int) { frames := 2, cells := 0, slots := 0, locals := 43 } E [.ref (E.2.2.2.2.1 + o), .int a1] w (fX6_knownOf w o a1) :=
  y_met (Qc := fun r => yQi E (r, w)) (by decide +kernel) (Nat.le_of_ble_eq_true rfl) (fun g C hR => eX6_knownOf C hR hO w a1) l
def fX6_letter (w : Wd) (o : Nat) (a1 : Int32) : Option (Int32) :=
  if (w.1 o 8) ≤ a1 then
    some (-1)
  else
    (ldI 40 w (o + 6) a1).bind fun v2 =>
    some v2
set_option maxRecDepth 4000 in
theorem eX6_letter {g : Gx} {E : Ex} (C : CC g E cX6_letter 2 RX6 0 0) (hR : RT g (some .int)) {o : Nat} (hO : shM E.2.2.2.2.2.1 o) (w : Wd) (a1 : Int32) : YO g E 2 (QP g E w) (fX6_letter w o a1) w 0 [(0, .ref (E.2.2.2.2.1 + o)), (1, .int a1)] [] := by
  unfold fX6_letter
  refine y_iload_n (n := 1) C dX6_letter_0 1 rfl rfl ?_
  refine y_aload_n (n := 2) C dX6_letter_1 0 rfl rfl ?_
  refine y_get (ci := 6) (f := 8) (n := 5) C in_X6 hO.1 rfl (by decide) wd_739 rfl rfl dX6_letter_2 rfl ?_
  refine y_icmp_ge (tgt := 17) (n := 8) C dX6_letter_5 (by decide) rfl (fun h1 => ?_) (fun h1 => ?_)
  · refine y_iconst (n := 18) C ((-1) : Int32) dX6_letter_17 (by decide) rfl ?_
    exact y_rp C hR dX6_letter_18
  · refine y_aload_n (n := 9) C dX6_letter_8 0 rfl rfl ?_
    refine y_get (ci := 6) (f := 7) (n := 12) C in_X6 hO.1 rfl (by decide) wd_738 rfl rfl dX6_letter_9 rfl ?_
    refine y_iload_n (n := 13) C dX6_letter_12 1 rfl rfl ?_
    refine y_cald (n := 14) C hO.2.2.2.2.2.2.1 dX6_letter_13 rfl (fun v2 hv2 => ?_)
    refine y_goto (tgt := 18) C dX6_letter_14 (by decide) ?_
    exact y_rp C hR dX6_letter_18
theorem mX6_letter {E : Ex} {o : Nat} (hO : shM E.2.2.2.2.2.1 o) (w : Wd) (a1 : Int32) (l : Launch) : MP l yX6_letter cX6_letter 2 (some .int) { frames := 0, cells := 0, slots := 0, locals := 0 } E [.ref (E.2.2.2.2.1 + o), .int a1] w (fX6_letter w o a1) :=
  y_met (Qc := fun r => yQi E (r, w)) (by decide +kernel) (Nat.le_of_ble_eq_true rfl) (fun g C hR => eX6_letter C hR hO w a1) l
def lX6_list_99 (o : Nat) : Nat → Wd → Int32 → Int32 → Int32 → Option (Int32)
  | 0, _, _, _, _ => none
  | n + 1, w, x1, x3, x4 =>
    (ldI 706 w (o + 1) (480 + x1)).bind fun v7 =>
    if v7 ≤ x4 then
      some x3
    else
      (ldI 706 w (o + 1) ((0 + (40 * x1)) + x4)).bind fun v9 =>
      (ldI 706 w (o + 1) (498 + v9)).bind fun v10 =>
      lX6_list_99 o n w x1 (x3 + v10) (x4 + 1)
set_option maxRecDepth 4000 in
theorem clX6_list_99 {g : Gx} {E : Ex} (C : CC g E cX6_list 5 RX6 1 20) (hR : RT g (some .int)) {o : Nat} (hO : shM E.2.2.2.2.2.1 o) (w : Wd) : ∀ (n : Nat) (x1 : Int32) (x3 : Int32) (x4 : Int32), YO g E 5 (QP g E w) (lX6_list_99 o n w x1 x3 x4) w 99 [(0, .ref (E.2.2.2.2.1 + o)), (1, .int x1), (3, .int x3), (4, .int x4)] [] := by
  intro n
  induction n with
  | zero => intro x1 x3 x4; exact y_no
  | succ n ih =>
    intro x1 x3 x4
    rw [lX6_list_99]
    refine y_iload (n := 101) C dX6_list_99 3 rfl rfl ?_
    refine y_aload_n (n := 102) C dX6_list_101 0 rfl rfl ?_
    refine y_get (ci := 6) (f := 0) (n := 105) C in_X6 hO.1 rfl (by decide) wd_731 rfl rfl dX6_list_102 rfl ?_
    refine y_sipush (n := 108) C (480 : Int32) dX6_list_105 (by decide) rfl ?_
    refine y_iload_n (n := 109) C dX6_list_108 1 rfl rfl ?_
    refine y_iadd (n := 110) C dX6_list_109 rfl ?_
    refine y_iald (n := 111) C hO.2.1 dX6_list_110 rfl (fun v7 hv7 => ?_)
    refine y_icmp_ge (tgt := 146) (n := 114) C dX6_list_111 (by decide) rfl (fun h8 => ?_) (fun h8 => ?_)
    · refine y_iload_n (n := 147) C dX6_list_146 2 rfl rfl ?_
      exact y_rp C hR dX6_list_147
    · refine y_iload_n (n := 115) C dX6_list_114 2 rfl rfl ?_
      refine y_aload_n (n := 116) C dX6_list_115 0 rfl rfl ?_
      refine y_get (ci := 6) (f := 0) (n := 119) C in_X6 hO.1 rfl (by decide) wd_731 rfl rfl dX6_list_116 rfl ?_
      refine y_sipush (n := 122) C (498 : Int32) dX6_list_119 (by decide) rfl ?_
      refine y_aload_n (n := 123) C dX6_list_122 0 rfl rfl ?_
      refine y_get (ci := 6) (f := 0) (n := 126) C in_X6 hO.1 rfl (by decide) wd_731 rfl rfl dX6_list_123 rfl ?_
      refine y_iconst (n := 127) C (0 : Int32) dX6_list_126 (by decide) rfl ?_
      refine y_bipush (n := 129) C (40 : Int32) dX6_list_127 (by decide) rfl ?_
      refine y_iload_n (n := 130) C dX6_list_129 1 rfl rfl ?_
      refine y_imul (n := 131) C dX6_list_130 rfl ?_
      refine y_iadd (n := 132) C dX6_list_131 rfl ?_
      refine y_iload (n := 134) C dX6_list_132 3 rfl rfl ?_
      refine y_iadd (n := 135) C dX6_list_134 rfl ?_
      refine y_iald (n := 136) C hO.2.1 dX6_list_135 rfl (fun v9 hv9 => ?_)
      refine y_iadd (n := 137) C dX6_list_136 rfl ?_
      refine y_iald (n := 138) C hO.2.1 dX6_list_137 rfl (fun v10 hv10 => ?_)
      refine y_iadd (n := 139) C dX6_list_138 rfl ?_
      refine y_istore_n (n := 140) (ls' := [(3, .int (x3 + v10)), (0, .ref (E.2.2.2.2.1 + o)), (1, .int x1), (4, .int x4)]) C dX6_list_139 (by decide) rfl rfl ?_
      refine y_iinc (n := 143) (v := x4 + 1) (ls' := [(4, .int (x4 + 1)), (3, .int (x3 + v10)), (0, .ref (E.2.2.2.2.1 + o)), (1, .int x1)]) C dX6_list_140 3 rfl rfl (by decide) rfl rfl ?_
      refine y_goto (tgt := 99) C dX6_list_143 (by decide) ?_
      refine y_ls [2, 3, 1, 0] rfl ?_
      exact ih x1 (x3 + v10) (x4 + 1)
def fX6_list (w : Wd) (o : Nat) (a1 : Int32) (a2 : Int32) : Option (Int32) :=
  (fX6_isList w a1).bind fun v1 =>
  if v1 = 0 then
    some (-1)
  else
    if a2 < 0 then
      some (-2)
    else
      if a2 ≤ 4 then
        if 3 ≤ a2 then
          if a2 = 3 then
            (ldI 706 w (o + 1) (480 + a1)).bind fun v11 =>
            if v11 = 0 then
              some 0
            else
              (ldI 706 w (o + 1) (240 + (40 * a1))).bind fun v13 =>
              some v13
          else
            lX6_list_99 o 4096 w a1 0 0
        else
          if a2 = 0 then
            (ldI 706 w (o + 1) (480 + a1)).bind fun v18 =>
            some v18
          else
            if a2 = 1 then
              (ldI 706 w (o + 1) (486 + a1)).bind fun v17 =>
              some v17
            else
              (ldI 706 w (o + 1) (492 + a1)).bind fun v16 =>
              some v16
      else
        some (-2)
set_option maxRecDepth 4000 in
theorem eX6_list {g : Gx} {E : Ex} (C : CC g E cX6_list 5 RX6 1 20) (hR : RT g (some .int)) {o : Nat} (hO : shM E.2.2.2.2.2.1 o) (w : Wd) (a1 : Int32) (a2 : Int32) : YO g E 5 (QP g E w) (fX6_list w o a1 a2) w 0 [(0, .ref (E.2.2.2.2.1 + o)), (1, .int a1), (2, .int a2)] [] := by
  unfold fX6_list
  refine y_iload_n (n := 1) C dX6_list_0 1 rfl rfl ?_
  refine y_cp (n := 4) C (fun r hr H locs la hP hS hl => y_runS (st := []) C ky_X6_isList wd_792 ⟨Nat.le_of_ble_eq_true rfl, Nat.le_of_ble_eq_true rfl⟩ (mX6_isList w a1 g.2.1 r hr) rfl (Nat.le_of_ble_eq_true rfl) rfl dX6_list_1 hP hS hl) rfl (fun v1 hv1 => ?_)
  refine y_if_ne (tgt := 9) (n := 7) C dX6_list_4 (by decide) rfl (fun h2 => ?_) (fun h2 => ?_)
  · refine y_iload_n (n := 10) C dX6_list_9 2 rfl rfl ?_
    refine y_if_lt (tgt := 18) (n := 13) C dX6_list_10 (by decide) rfl (fun h3 => ?_) (fun h3 => ?_)
    · refine y_bipush (n := 20) C ((-2) : Int32) dX6_list_18 (by decide) rfl ?_
      exact y_rp C hR dX6_list_20
    · refine y_iload_n (n := 14) C dX6_list_13 2 rfl rfl ?_
      refine y_iconst (n := 15) C (4 : Int32) dX6_list_14 (by decide) rfl ?_
      refine y_icmp_le (tgt := 21) (n := 18) C dX6_list_15 (by decide) rfl (fun h4 => ?_) (fun h4 => ?_)
      · refine y_iload_n (n := 22) C dX6_list_21 2 rfl rfl ?_
        refine y_iconst (n := 23) C (3 : Int32) dX6_list_22 (by decide) rfl ?_
        refine y_icmp_ge (tgt := 58) (n := 26) C dX6_list_23 (by decide) rfl (fun h5 => ?_) (fun h5 => ?_)
        · refine y_iload_n (n := 59) C dX6_list_58 2 rfl rfl ?_
          refine y_iconst (n := 60) C (3 : Int32) dX6_list_59 (by decide) rfl ?_
          refine y_icmp_ne (tgt := 94) (n := 63) C dX6_list_60 (by decide) rfl (fun h6 => ?_) (fun h6 => ?_)
          · refine y_iconst (n := 95) C (0 : Int32) dX6_list_94 (by decide) rfl ?_
            refine y_istore_n (n := 96) (ls' := [(3, .int 0), (0, .ref (E.2.2.2.2.1 + o)), (1, .int a1), (2, .int a2)]) C dX6_list_95 (by decide) rfl rfl ?_
            refine y_iconst (n := 97) C (0 : Int32) dX6_list_96 (by decide) rfl ?_
            refine y_istore (n := 99) (ls' := [(4, .int 0), (3, .int 0), (0, .ref (E.2.2.2.2.1 + o)), (1, .int a1), (2, .int a2)]) C dX6_list_97 (by decide) rfl rfl ?_
            refine y_ls [2, 3, 1, 0] rfl ?_
            exact clX6_list_99 C hR hO w 4096 a1 0 0
          · refine y_aload_n (n := 64) C dX6_list_63 0 rfl rfl ?_
            refine y_get (ci := 6) (f := 0) (n := 67) C in_X6 hO.1 rfl (by decide) wd_731 rfl rfl dX6_list_64 rfl ?_
            refine y_sipush (n := 70) C (480 : Int32) dX6_list_67 (by decide) rfl ?_
            refine y_iload_n (n := 71) C dX6_list_70 1 rfl rfl ?_
            refine y_iadd (n := 72) C dX6_list_71 rfl ?_
            refine y_iald (n := 73) C hO.2.1 dX6_list_72 rfl (fun v11 hv11 => ?_)
            refine y_if_ne (tgt := 80) (n := 76) C dX6_list_73 (by decide) rfl (fun h12 => ?_) (fun h12 => ?_)
            · refine y_aload_n (n := 81) C dX6_list_80 0 rfl rfl ?_
              refine y_get (ci := 6) (f := 0) (n := 84) C in_X6 hO.1 rfl (by decide) wd_731 rfl rfl dX6_list_81 rfl ?_
              refine y_sipush (n := 87) C (240 : Int32) dX6_list_84 (by decide) rfl ?_
              refine y_bipush (n := 89) C (40 : Int32) dX6_list_87 (by decide) rfl ?_
              refine y_iload_n (n := 90) C dX6_list_89 1 rfl rfl ?_
              refine y_imul (n := 91) C dX6_list_90 rfl ?_
              refine y_iadd (n := 92) C dX6_list_91 rfl ?_
              refine y_iald (n := 93) C hO.2.1 dX6_list_92 rfl (fun v13 hv13 => ?_)
              exact y_rp C hR dX6_list_93
            · refine y_iconst (n := 77) C (0 : Int32) dX6_list_76 (by decide) rfl ?_
              refine y_goto (tgt := 93) C dX6_list_77 (by decide) ?_
              exact y_rp C hR dX6_list_93
        · refine y_aload_n (n := 27) C dX6_list_26 0 rfl rfl ?_
          refine y_get (ci := 6) (f := 0) (n := 30) C in_X6 hO.1 rfl (by decide) wd_731 rfl rfl dX6_list_27 rfl ?_
          refine y_iload_n (n := 31) C dX6_list_30 2 rfl rfl ?_
          refine y_if_ne (tgt := 40) (n := 34) C dX6_list_31 (by decide) rfl (fun h14 => ?_) (fun h14 => ?_)
          · refine y_iload_n (n := 41) C dX6_list_40 2 rfl rfl ?_
            refine y_iconst (n := 42) C (1 : Int32) dX6_list_41 (by decide) rfl ?_
            refine y_icmp_ne (tgt := 51) (n := 45) C dX6_list_42 (by decide) rfl (fun h15 => ?_) (fun h15 => ?_)
            · refine y_sipush (n := 54) C (492 : Int32) dX6_list_51 (by decide) rfl ?_
              refine y_iload_n (n := 55) C dX6_list_54 1 rfl rfl ?_
              refine y_iadd (n := 56) C dX6_list_55 rfl ?_
              refine y_iald (n := 57) C hO.2.1 dX6_list_56 rfl (fun v16 hv16 => ?_)
              exact y_rp C hR dX6_list_57
            · refine y_sipush (n := 48) C (486 : Int32) dX6_list_45 (by decide) rfl ?_
              refine y_goto (tgt := 54) C dX6_list_48 (by decide) ?_
              refine y_iload_n (n := 55) C dX6_list_54 1 rfl rfl ?_
              refine y_iadd (n := 56) C dX6_list_55 rfl ?_
              refine y_iald (n := 57) C hO.2.1 dX6_list_56 rfl (fun v17 hv17 => ?_)
              exact y_rp C hR dX6_list_57
          · refine y_sipush (n := 37) C (480 : Int32) dX6_list_34 (by decide) rfl ?_
            refine y_goto (tgt := 54) C dX6_list_37 (by decide) ?_
            refine y_iload_n (n := 55) C dX6_list_54 1 rfl rfl ?_
            refine y_iadd (n := 56) C dX6_list_55 rfl ?_
            refine y_iald (n := 57) C hO.2.1 dX6_list_56 rfl (fun v18 hv18 => ?_)
            exact y_rp C hR dX6_list_57
      · refine y_bipush (n := 20) C ((-2) : Int32) dX6_list_18 (by decide) rfl ?_
        exact y_rp C hR dX6_list_20
  · refine y_iconst (n := 8) C ((-1) : Int32) dX6_list_7 (by decide) rfl ?_
    exact y_rp C hR dX6_list_8
theorem mX6_list {E : Ex} {o : Nat} (hO : shM E.2.2.2.2.2.1 o) (w : Wd) (a1 : Int32) (a2 : Int32) (l : Launch) : MP l yX6_list cX6_list 5 (some .int) { frames := 1, cells := 0, slots := 0, locals := 20 } E [.ref (E.2.2.2.2.1 + o), .int a1, .int a2] w (fX6_list w o a1 a2) :=
  y_met (Qc := fun r => yQi E (r, w)) (by decide +kernel) (Nat.le_of_ble_eq_true rfl) (fun g C hR => eX6_list C hR hO w a1 a2) l
def lX6_readNumber_78 (o : Nat) : Nat → Wd → Int32 → Int32 → Int32 → Int32 → Option (Wd)
  | 0, _, _, _, _, _ => none
  | n + 1, w, x1, x2, x3, x4 =>
    if x4 = 0 then
      (stI 3 w (o + 7) x1 x2).bind fun w12 =>
      some w12
    else
      if 3 ≤ x3 then
        (stI 3 w (o + 7) x1 x2).bind fun w14 =>
        some w14
      else
        (fX6_letter w o (w.1 o 9)).bind fun v15 =>
        (pI w o 9 ((w.1 o 9) + 1)).bind fun w16 =>
        if (((10 * x2) + v15) - 48) ≤ 0 then
          lX6_readNumber_78 o n w16 x1 (((10 * x2) + v15) - 48) (x3 + 1) 0
        else
          (fX6_letter w16 o (w16.1 o 9)).bind fun v18 =>
          (fX6_isDigit w16 v18).bind fun v19 =>
          if v19 = 0 then
            lX6_readNumber_78 o n w16 x1 (((10 * x2) + v15) - 48) (x3 + 1) 0
          else
            lX6_readNumber_78 o n w16 x1 (((10 * x2) + v15) - 48) (x3 + 1) 1
set_option maxRecDepth 4000 in
theorem clX6_readNumber_78 {g : Gx} {E : Ex} (C : CC g E cX6_readNumber 5 RX6 1 21) (hR : RT g none) {o : Nat} (hO : shM E.2.2.2.2.2.1 o) : ∀ (n : Nat) (w : Wd) (x1 : Int32) (x2 : Int32) (x3 : Int32) (x4 : Int32), YO g E 5 (QV g E) (lX6_readNumber_78 o n w x1 x2 x3 x4) w 78 [(0, .ref (E.2.2.2.2.1 + o)), (1, .int x1), (2, .int x2), (3, .int x3), (4, .int x4)] [] := by
  intro n
  induction n with
  | zero => intro w x1 x2 x3 x4; exact y_no
  | succ n ih =>
    intro w x1 x2 x3 x4
    rw [lX6_readNumber_78]
    refine y_iload (n := 80) C dX6_readNumber_78 4 rfl rfl ?_
    refine y_if_eq (tgt := 146) (n := 83) C dX6_readNumber_80 (by decide) rfl (fun h11 => ?_) (fun h11 => ?_)
    · refine y_aload_n (n := 147) C dX6_readNumber_146 0 rfl rfl ?_
      refine y_get (ci := 6) (f := 11) (n := 150) C in_X6 hO.1 rfl (by decide) wd_742 rfl rfl dX6_readNumber_147 rfl ?_
      refine y_iload_n (n := 151) C dX6_readNumber_150 1 rfl rfl ?_
      refine y_iload_n (n := 152) C dX6_readNumber_151 2 rfl rfl ?_
      refine y_iast (n := 153) C hO.2.2.2.2.2.2.2 dX6_readNumber_152 rfl (fun w12 hw12 => ?_)
      exact y_rv C hR dX6_readNumber_153
    · refine y_iload_n (n := 84) C dX6_readNumber_83 3 rfl rfl ?_
      refine y_iconst (n := 85) C (3 : Int32) dX6_readNumber_84 (by decide) rfl ?_
      refine y_icmp_ge (tgt := 146) (n := 88) C dX6_readNumber_85 (by decide) rfl (fun h13 => ?_) (fun h13 => ?_)
      · refine y_aload_n (n := 147) C dX6_readNumber_146 0 rfl rfl ?_
        refine y_get (ci := 6) (f := 11) (n := 150) C in_X6 hO.1 rfl (by decide) wd_742 rfl rfl dX6_readNumber_147 rfl ?_
        refine y_iload_n (n := 151) C dX6_readNumber_150 1 rfl rfl ?_
        refine y_iload_n (n := 152) C dX6_readNumber_151 2 rfl rfl ?_
        refine y_iast (n := 153) C hO.2.2.2.2.2.2.2 dX6_readNumber_152 rfl (fun w14 hw14 => ?_)
        exact y_rv C hR dX6_readNumber_153
      · refine y_bipush (n := 90) C (10 : Int32) dX6_readNumber_88 (by decide) rfl ?_
        refine y_iload_n (n := 91) C dX6_readNumber_90 2 rfl rfl ?_
        refine y_imul (n := 92) C dX6_readNumber_91 rfl ?_
        refine y_aload_n (n := 93) C dX6_readNumber_92 0 rfl rfl ?_
        refine y_aload_n (n := 94) C dX6_readNumber_93 0 rfl rfl ?_
        refine y_get (ci := 6) (f := 9) (n := 97) C in_X6 hO.1 rfl (by decide) wd_740 rfl rfl dX6_readNumber_94 rfl ?_
        refine y_cp (n := 100) C (fun r hr H locs la hP hS hl => y_runV (ci := 6) (st := [.int (10 * x2)]) C ky_X6_letter wd_1064 ⟨Nat.le_of_ble_eq_true rfl, Nat.le_of_ble_eq_true rfl⟩ hO.1 rfl (mX6_letter hO w (w.1 o 9) g.2.1 r hr) rfl (Nat.le_of_ble_eq_true rfl) rfl dX6_readNumber_97 hP hS hl) rfl (fun v15 hv15 => ?_)
        refine y_iadd (n := 101) C dX6_readNumber_100 rfl ?_
        refine y_bipush (n := 103) C (48 : Int32) dX6_readNumber_101 (by decide) rfl ?_
        refine y_isub (n := 104) C dX6_readNumber_103 rfl ?_
        refine y_istore_n (n := 105) (ls' := [(2, .int (((10 * x2) + v15) - 48)), (0, .ref (E.2.2.2.2.1 + o)), (1, .int x1), (3, .int x3), (4, .int x4)]) C dX6_readNumber_104 (by decide) rfl rfl ?_
        refine y_aload_n (n := 106) C dX6_readNumber_105 1 rfl rfl ?_
        refine y_dup (n := 107) C dX6_readNumber_106 rfl rfl ?_
        refine y_get (ci := 6) (f := 9) (n := 110) C in_X6 hO.1 rfl (by decide) wd_740 rfl rfl dX6_readNumber_107 rfl ?_
        refine y_iconst (n := 111) C (1 : Int32) dX6_readNumber_110 (by decide) rfl ?_
        refine y_iadd (n := 112) C dX6_readNumber_111 rfl ?_
        refine y_putI (ci := 6) (f := 9) (n := 115) C in_X6 tyX6 tyX6_ok nmX6 hO.1 rfl (by decide) wd_740 rfl rfl (by decide +kernel) (Nat.le_of_ble_eq_true rfl) st_X6_9 dX6_readNumber_112 rfl (fun w16 hw16 => ?_)
        refine y_iinc (n := 118) (v := x3 + 1) (ls' := [(3, .int (x3 + 1)), (2, .int (((10 * x2) + v15) - 48)), (0, .ref (E.2.2.2.2.1 + o)), (1, .int x1), (4, .int x4)]) C dX6_readNumber_115 3 rfl rfl (by decide) rfl rfl ?_
        refine y_iload_n (n := 119) C dX6_readNumber_118 1 rfl rfl ?_
        refine y_if_le (tgt := 140) (n := 122) C dX6_readNumber_119 (by decide) rfl (fun h17 => ?_) (fun h17 => ?_)
        · refine y_iconst (n := 141) C (0 : Int32) dX6_readNumber_140 (by decide) rfl ?_
          refine y_istore (n := 143) (ls' := [(4, .int 0), (3, .int (x3 + 1)), (2, .int (((10 * x2) + v15) - 48)), (0, .ref (E.2.2.2.2.1 + o)), (1, .int x1)]) C dX6_readNumber_141 (by decide) rfl rfl ?_
          refine y_goto (tgt := 78) C dX6_readNumber_143 (by decide) ?_
          refine y_ls [3, 4, 2, 1, 0] rfl ?_
          exact ih w16 x1 (((10 * x2) + v15) - 48) (x3 + 1) 0
        · refine y_aload_n (n := 123) C dX6_readNumber_122 2 rfl rfl ?_
          refine y_aload_n (n := 124) C dX6_readNumber_123 2 rfl rfl ?_
          refine y_get (ci := 6) (f := 9) (n := 127) C in_X6 hO.1 rfl (by decide) wd_740 rfl rfl dX6_readNumber_124 rfl ?_
          refine y_cp (n := 130) C (fun r hr H locs la hP hS hl => y_runV (ci := 6) (st := []) C ky_X6_letter wd_1064 ⟨Nat.le_of_ble_eq_true rfl, Nat.le_of_ble_eq_true rfl⟩ hO.1 rfl (mX6_letter hO w16 (w16.1 o 9) g.2.1 r hr) rfl (Nat.le_of_ble_eq_true rfl) rfl dX6_readNumber_127 hP hS hl) rfl (fun v18 hv18 => ?_)
          refine y_cp (n := 133) C (fun r hr H locs la hP hS hl => y_runS (st := []) C ky_X6_isDigit wd_1068 ⟨Nat.le_of_ble_eq_true rfl, Nat.le_of_ble_eq_true rfl⟩ (mX6_isDigit w16 v18 g.2.1 r hr) rfl (Nat.le_of_ble_eq_true rfl) rfl dX6_readNumber_130 hP hS hl) rfl (fun v19 hv19 => ?_)
          refine y_if_eq (tgt := 140) (n := 136) C dX6_readNumber_133 (by decide) rfl (fun h20 => ?_) (fun h20 => ?_)
          · refine y_iconst (n := 141) C (0 : Int32) dX6_readNumber_140 (by decide) rfl ?_
            refine y_istore (n := 143) (ls' := [(4, .int 0), (3, .int (x3 + 1)), (2, .int (((10 * x2) + v15) - 48)), (0, .ref (E.2.2.2.2.1 + o)), (1, .int x1)]) C dX6_readNumber_141 (by decide) rfl rfl ?_
            refine y_goto (tgt := 78) C dX6_readNumber_143 (by decide) ?_
            refine y_ls [3, 4, 2, 1, 0] rfl ?_
            exact ih w16 x1 (((10 * x2) + v15) - 48) (x3 + 1) 0
          · refine y_iconst (n := 137) C (1 : Int32) dX6_readNumber_136 (by decide) rfl ?_
            refine y_goto (tgt := 141) C dX6_readNumber_137 (by decide) ?_
            refine y_istore (n := 143) (ls' := [(4, .int 1), (3, .int (x3 + 1)), (2, .int (((10 * x2) + v15) - 48)), (0, .ref (E.2.2.2.2.1 + o)), (1, .int x1)]) C dX6_readNumber_141 (by decide) rfl rfl ?_
            refine y_goto (tgt := 78) C dX6_readNumber_143 (by decide) ?_
            refine y_ls [3, 4, 2, 1, 0] rfl ?_
            exact ih w16 x1 (((10 * x2) + v15) - 48) (x3 + 1) 1
def fX6_readNumber (w : Wd) (o : Nat) (a1 : Int32) : Option (Wd) :=
  (fX6_letter w o (w.1 o 9)).bind fun v1 =>
  if v1 = 32 then
    (stZ w o 10 0).bind fun w3 =>
    if (bz (w3.1 o 10)) = 0 then
      (pI w3 o 9 ((w3.1 o 9) + 1)).bind fun w5 =>
      (fX6_letter w5 o (w5.1 o 9)).bind fun v6 =>
      (fX6_isDigit w5 v6).bind fun v7 =>
      if v7 = 0 then
        (stZ w5 o 10 1).bind fun w21 =>
        if (bz (w21.1 o 10)) = 0 then
          lX6_readNumber_78 o 4096 w21 a1 0 0 1
        else
          some w21
      else
        (stZ w5 o 10 0).bind fun w9 =>
        if (bz (w9.1 o 10)) = 0 then
          lX6_readNumber_78 o 4096 w9 a1 0 0 1
        else
          some w9
    else
      some w3
  else
    (stZ w o 10 1).bind fun w23 =>
    if (bz (w23.1 o 10)) = 0 then
      (pI w23 o 9 ((w23.1 o 9) + 1)).bind fun w25 =>
      (fX6_letter w25 o (w25.1 o 9)).bind fun v26 =>
      (fX6_isDigit w25 v26).bind fun v27 =>
      if v27 = 0 then
        (stZ w25 o 10 1).bind fun w31 =>
        if (bz (w31.1 o 10)) = 0 then
          lX6_readNumber_78 o 4096 w31 a1 0 0 1
        else
          some w31
      else
        (stZ w25 o 10 0).bind fun w29 =>
        if (bz (w29.1 o 10)) = 0 then
          lX6_readNumber_78 o 4096 w29 a1 0 0 1
        else
          some w29
    else
      some w23
set_option maxRecDepth 4000 in
theorem eX6_readNumber {g : Gx} {E : Ex} (C : CC g E cX6_readNumber 5 RX6 1 21) (hR : RT g none) {o : Nat} (hO : shM E.2.2.2.2.2.1 o) (w : Wd) (a1 : Int32) : YO g E 5 (QV g E) (fX6_readNumber w o a1) w 0 [(0, .ref (E.2.2.2.2.1 + o)), (1, .int a1)] [] := by
  unfold fX6_readNumber
  refine y_aload_n (n := 1) C dX6_readNumber_0 0 rfl rfl ?_
  refine y_aload_n (n := 2) C dX6_readNumber_1 0 rfl rfl ?_
  refine y_aload_n (n := 3) C dX6_readNumber_2 0 rfl rfl ?_
  refine y_get (ci := 6) (f := 9) (n := 6) C in_X6 hO.1 rfl (by decide) wd_740 rfl rfl dX6_readNumber_3 rfl ?_
  refine y_cp (n := 9) C (fun r hr H locs la hP hS hl => y_runV (ci := 6) (st := [.ref (E.2.2.2.2.1 + o)]) C ky_X6_letter wd_1064 ⟨Nat.le_of_ble_eq_true rfl, Nat.le_of_ble_eq_true rfl⟩ hO.1 rfl (mX6_letter hO w (w.1 o 9) g.2.1 r hr) rfl (Nat.le_of_ble_eq_true rfl) rfl dX6_readNumber_6 hP hS hl) rfl (fun v1 hv1 => ?_)
  refine y_bipush (n := 11) C (32 : Int32) dX6_readNumber_9 (by decide) rfl ?_
  refine y_icmp_eq (tgt := 18) (n := 14) C dX6_readNumber_11 (by decide) rfl (fun h2 => ?_) (fun h2 => ?_)
  · refine y_iconst (n := 19) C (0 : Int32) dX6_readNumber_18 (by decide) rfl ?_
    refine y_putZ (ci := 6) (f := 10) (n := 22) C in_X6 tyX6 tyX6_ok nmX6 hO.1 rfl (by decide) wd_741 rfl rfl (by decide +kernel) (Nat.le_of_ble_eq_true rfl) st_X6_10 dX6_readNumber_19 rfl (fun w3 hw3 => ?_)
    refine y_aload_n (n := 23) C dX6_readNumber_22 0 rfl rfl ?_
    refine y_get (ci := 6) (f := 10) (n := 26) C in_X6 hO.1 rfl (by decide) wd_741 rfl rfl dX6_readNumber_23 rfl ?_
    refine y_if_eq (tgt := 30) (n := 29) C dX6_readNumber_26 (by decide) rfl (fun h4 => ?_) (fun h4 => ?_)
    · refine y_aload_n (n := 31) C dX6_readNumber_30 0 rfl rfl ?_
      refine y_dup (n := 32) C dX6_readNumber_31 rfl rfl ?_
      refine y_get (ci := 6) (f := 9) (n := 35) C in_X6 hO.1 rfl (by decide) wd_740 rfl rfl dX6_readNumber_32 rfl ?_
      refine y_iconst (n := 36) C (1 : Int32) dX6_readNumber_35 (by decide) rfl ?_
      refine y_iadd (n := 37) C dX6_readNumber_36 rfl ?_
      refine y_putI (ci := 6) (f := 9) (n := 40) C in_X6 tyX6 tyX6_ok nmX6 hO.1 rfl (by decide) wd_740 rfl rfl (by decide +kernel) (Nat.le_of_ble_eq_true rfl) st_X6_9 dX6_readNumber_37 rfl (fun w5 hw5 => ?_)
      refine y_aload_n (n := 41) C dX6_readNumber_40 0 rfl rfl ?_
      refine y_aload_n (n := 42) C dX6_readNumber_41 0 rfl rfl ?_
      refine y_aload_n (n := 43) C dX6_readNumber_42 0 rfl rfl ?_
      refine y_get (ci := 6) (f := 9) (n := 46) C in_X6 hO.1 rfl (by decide) wd_740 rfl rfl dX6_readNumber_43 rfl ?_
      refine y_cp (n := 49) C (fun r hr H locs la hP hS hl => y_runV (ci := 6) (st := [.ref (E.2.2.2.2.1 + o)]) C ky_X6_letter wd_1064 ⟨Nat.le_of_ble_eq_true rfl, Nat.le_of_ble_eq_true rfl⟩ hO.1 rfl (mX6_letter hO w5 (w5.1 o 9) g.2.1 r hr) rfl (Nat.le_of_ble_eq_true rfl) rfl dX6_readNumber_46 hP hS hl) rfl (fun v6 hv6 => ?_)
      refine y_cp (n := 52) C (fun r hr H locs la hP hS hl => y_runS (st := [.ref (E.2.2.2.2.1 + o)]) C ky_X6_isDigit wd_1068 ⟨Nat.le_of_ble_eq_true rfl, Nat.le_of_ble_eq_true rfl⟩ (mX6_isDigit w5 v6 g.2.1 r hr) rfl (Nat.le_of_ble_eq_true rfl) rfl dX6_readNumber_49 hP hS hl) rfl (fun v7 hv7 => ?_)
      refine y_if_ne (tgt := 59) (n := 55) C dX6_readNumber_52 (by decide) rfl (fun h8 => ?_) (fun h8 => ?_)
      · refine y_iconst (n := 60) C (0 : Int32) dX6_readNumber_59 (by decide) rfl ?_
        refine y_putZ (ci := 6) (f := 10) (n := 63) C in_X6 tyX6 tyX6_ok nmX6 hO.1 rfl (by decide) wd_741 rfl rfl (by decide +kernel) (Nat.le_of_ble_eq_true rfl) st_X6_10 dX6_readNumber_60 rfl (fun w9 hw9 => ?_)
        refine y_aload_n (n := 64) C dX6_readNumber_63 0 rfl rfl ?_
        refine y_get (ci := 6) (f := 10) (n := 67) C in_X6 hO.1 rfl (by decide) wd_741 rfl rfl dX6_readNumber_64 rfl ?_
        refine y_if_eq (tgt := 71) (n := 70) C dX6_readNumber_67 (by decide) rfl (fun h10 => ?_) (fun h10 => ?_)
        · refine y_iconst (n := 72) C (0 : Int32) dX6_readNumber_71 (by decide) rfl ?_
          refine y_istore_n (n := 73) (ls' := [(2, .int 0), (0, .ref (E.2.2.2.2.1 + o)), (1, .int a1)]) C dX6_readNumber_72 (by decide) rfl rfl ?_
          refine y_iconst (n := 74) C (0 : Int32) dX6_readNumber_73 (by decide) rfl ?_
          refine y_istore_n (n := 75) (ls' := [(3, .int 0), (2, .int 0), (0, .ref (E.2.2.2.2.1 + o)), (1, .int a1)]) C dX6_readNumber_74 (by decide) rfl rfl ?_
          refine y_iconst (n := 76) C (1 : Int32) dX6_readNumber_75 (by decide) rfl ?_
          refine y_istore (n := 78) (ls' := [(4, .int 1), (3, .int 0), (2, .int 0), (0, .ref (E.2.2.2.2.1 + o)), (1, .int a1)]) C dX6_readNumber_76 (by decide) rfl rfl ?_
          refine y_ls [3, 4, 2, 1, 0] rfl ?_
          exact clX6_readNumber_78 C hR hO 4096 w9 a1 0 0 1
        · exact y_rv C hR dX6_readNumber_70
      · refine y_iconst (n := 56) C (1 : Int32) dX6_readNumber_55 (by decide) rfl ?_
        refine y_goto (tgt := 60) C dX6_readNumber_56 (by decide) ?_
        refine y_putZ (ci := 6) (f := 10) (n := 63) C in_X6 tyX6 tyX6_ok nmX6 hO.1 rfl (by decide) wd_741 rfl rfl (by decide +kernel) (Nat.le_of_ble_eq_true rfl) st_X6_10 dX6_readNumber_60 rfl (fun w21 hw21 => ?_)
        refine y_aload_n (n := 64) C dX6_readNumber_63 0 rfl rfl ?_
        refine y_get (ci := 6) (f := 10) (n := 67) C in_X6 hO.1 rfl (by decide) wd_741 rfl rfl dX6_readNumber_64 rfl ?_
        refine y_if_eq (tgt := 71) (n := 70) C dX6_readNumber_67 (by decide) rfl (fun h22 => ?_) (fun h22 => ?_)
        · refine y_iconst (n := 72) C (0 : Int32) dX6_readNumber_71 (by decide) rfl ?_
          refine y_istore_n (n := 73) (ls' := [(2, .int 0), (0, .ref (E.2.2.2.2.1 + o)), (1, .int a1)]) C dX6_readNumber_72 (by decide) rfl rfl ?_
          refine y_iconst (n := 74) C (0 : Int32) dX6_readNumber_73 (by decide) rfl ?_
          refine y_istore_n (n := 75) (ls' := [(3, .int 0), (2, .int 0), (0, .ref (E.2.2.2.2.1 + o)), (1, .int a1)]) C dX6_readNumber_74 (by decide) rfl rfl ?_
          refine y_iconst (n := 76) C (1 : Int32) dX6_readNumber_75 (by decide) rfl ?_
          refine y_istore (n := 78) (ls' := [(4, .int 1), (3, .int 0), (2, .int 0), (0, .ref (E.2.2.2.2.1 + o)), (1, .int a1)]) C dX6_readNumber_76 (by decide) rfl rfl ?_
          refine y_ls [3, 4, 2, 1, 0] rfl ?_
          exact clX6_readNumber_78 C hR hO 4096 w21 a1 0 0 1
        · exact y_rv C hR dX6_readNumber_70
    · exact y_rv C hR dX6_readNumber_29
  · refine y_iconst (n := 15) C (1 : Int32) dX6_readNumber_14 (by decide) rfl ?_
    refine y_goto (tgt := 19) C dX6_readNumber_15 (by decide) ?_
    refine y_putZ (ci := 6) (f := 10) (n := 22) C in_X6 tyX6 tyX6_ok nmX6 hO.1 rfl (by decide) wd_741 rfl rfl (by decide +kernel) (Nat.le_of_ble_eq_true rfl) st_X6_10 dX6_readNumber_19 rfl (fun w23 hw23 => ?_)
    refine y_aload_n (n := 23) C dX6_readNumber_22 0 rfl rfl ?_
    refine y_get (ci := 6) (f := 10) (n := 26) C in_X6 hO.1 rfl (by decide) wd_741 rfl rfl dX6_readNumber_23 rfl ?_
    refine y_if_eq (tgt := 30) (n := 29) C dX6_readNumber_26 (by decide) rfl (fun h24 => ?_) (fun h24 => ?_)
    · refine y_aload_n (n := 31) C dX6_readNumber_30 0 rfl rfl ?_
      refine y_dup (n := 32) C dX6_readNumber_31 rfl rfl ?_
      refine y_get (ci := 6) (f := 9) (n := 35) C in_X6 hO.1 rfl (by decide) wd_740 rfl rfl dX6_readNumber_32 rfl ?_
      refine y_iconst (n := 36) C (1 : Int32) dX6_readNumber_35 (by decide) rfl ?_
      refine y_iadd (n := 37) C dX6_readNumber_36 rfl ?_
      refine y_putI (ci := 6) (f := 9) (n := 40) C in_X6 tyX6 tyX6_ok nmX6 hO.1 rfl (by decide) wd_740 rfl rfl (by decide +kernel) (Nat.le_of_ble_eq_true rfl) st_X6_9 dX6_readNumber_37 rfl (fun w25 hw25 => ?_)
      refine y_aload_n (n := 41) C dX6_readNumber_40 0 rfl rfl ?_
      refine y_aload_n (n := 42) C dX6_readNumber_41 0 rfl rfl ?_
      refine y_aload_n (n := 43) C dX6_readNumber_42 0 rfl rfl ?_
      refine y_get (ci := 6) (f := 9) (n := 46) C in_X6 hO.1 rfl (by decide) wd_740 rfl rfl dX6_readNumber_43 rfl ?_
      refine y_cp (n := 49) C (fun r hr H locs la hP hS hl => y_runV (ci := 6) (st := [.ref (E.2.2.2.2.1 + o)]) C ky_X6_letter wd_1064 ⟨Nat.le_of_ble_eq_true rfl, Nat.le_of_ble_eq_true rfl⟩ hO.1 rfl (mX6_letter hO w25 (w25.1 o 9) g.2.1 r hr) rfl (Nat.le_of_ble_eq_true rfl) rfl dX6_readNumber_46 hP hS hl) rfl (fun v26 hv26 => ?_)
      refine y_cp (n := 52) C (fun r hr H locs la hP hS hl => y_runS (st := [.ref (E.2.2.2.2.1 + o)]) C ky_X6_isDigit wd_1068 ⟨Nat.le_of_ble_eq_true rfl, Nat.le_of_ble_eq_true rfl⟩ (mX6_isDigit w25 v26 g.2.1 r hr) rfl (Nat.le_of_ble_eq_true rfl) rfl dX6_readNumber_49 hP hS hl) rfl (fun v27 hv27 => ?_)
      refine y_if_ne (tgt := 59) (n := 55) C dX6_readNumber_52 (by decide) rfl (fun h28 => ?_) (fun h28 => ?_)
      · refine y_iconst (n := 60) C (0 : Int32) dX6_readNumber_59 (by decide) rfl ?_
        refine y_putZ (ci := 6) (f := 10) (n := 63) C in_X6 tyX6 tyX6_ok nmX6 hO.1 rfl (by decide) wd_741 rfl rfl (by decide +kernel) (Nat.le_of_ble_eq_true rfl) st_X6_10 dX6_readNumber_60 rfl (fun w29 hw29 => ?_)
        refine y_aload_n (n := 64) C dX6_readNumber_63 0 rfl rfl ?_
        refine y_get (ci := 6) (f := 10) (n := 67) C in_X6 hO.1 rfl (by decide) wd_741 rfl rfl dX6_readNumber_64 rfl ?_
        refine y_if_eq (tgt := 71) (n := 70) C dX6_readNumber_67 (by decide) rfl (fun h30 => ?_) (fun h30 => ?_)
        · refine y_iconst (n := 72) C (0 : Int32) dX6_readNumber_71 (by decide) rfl ?_
          refine y_istore_n (n := 73) (ls' := [(2, .int 0), (0, .ref (E.2.2.2.2.1 + o)), (1, .int a1)]) C dX6_readNumber_72 (by decide) rfl rfl ?_
          refine y_iconst (n := 74) C (0 : Int32) dX6_readNumber_73 (by decide) rfl ?_
          refine y_istore_n (n := 75) (ls' := [(3, .int 0), (2, .int 0), (0, .ref (E.2.2.2.2.1 + o)), (1, .int a1)]) C dX6_readNumber_74 (by decide) rfl rfl ?_
          refine y_iconst (n := 76) C (1 : Int32) dX6_readNumber_75 (by decide) rfl ?_
          refine y_istore (n := 78) (ls' := [(4, .int 1), (3, .int 0), (2, .int 0), (0, .ref (E.2.2.2.2.1 + o)), (1, .int a1)]) C dX6_readNumber_76 (by decide) rfl rfl ?_
          refine y_ls [3, 4, 2, 1, 0] rfl ?_
          exact clX6_readNumber_78 C hR hO 4096 w29 a1 0 0 1
        · exact y_rv C hR dX6_readNumber_70
      · refine y_iconst (n := 56) C (1 : Int32) dX6_readNumber_55 (by decide) rfl ?_
        refine y_goto (tgt := 60) C dX6_readNumber_56 (by decide) ?_
        refine y_putZ (ci := 6) (f := 10) (n := 63) C in_X6 tyX6 tyX6_ok nmX6 hO.1 rfl (by decide) wd_741 rfl rfl (by decide +kernel) (Nat.le_of_ble_eq_true rfl) st_X6_10 dX6_readNumber_60 rfl (fun w31 hw31 => ?_)
        refine y_aload_n (n := 64) C dX6_readNumber_63 0 rfl rfl ?_
        refine y_get (ci := 6) (f := 10) (n := 67) C in_X6 hO.1 rfl (by decide) wd_741 rfl rfl dX6_readNumber_64 rfl ?_
        refine y_if_eq (tgt := 71) (n := 70) C dX6_readNumber_67 (by decide) rfl (fun h32 => ?_) (fun h32 => ?_)
        · refine y_iconst (n := 72) C (0 : Int32) dX6_readNumber_71 (by decide) rfl ?_
          refine y_istore_n (n := 73) (ls' := [(2, .int 0), (0, .ref (E.2.2.2.2.1 + o)), (1, .int a1)]) C dX6_readNumber_72 (by decide) rfl rfl ?_
          refine y_iconst (n := 74) C (0 : Int32) dX6_readNumber_73 (by decide) rfl ?_
          refine y_istore_n (n := 75) (ls' := [(3, .int 0), (2, .int 0), (0, .ref (E.2.2.2.2.1 + o)), (1, .int a1)]) C dX6_readNumber_74 (by decide) rfl rfl ?_
          refine y_iconst (n := 76) C (1 : Int32) dX6_readNumber_75 (by decide) rfl ?_
          refine y_istore (n := 78) (ls' := [(4, .int 1), (3, .int 0), (2, .int 0), (0, .ref (E.2.2.2.2.1 + o)), (1, .int a1)]) C dX6_readNumber_76 (by decide) rfl rfl ?_
          refine y_ls [3, 4, 2, 1, 0] rfl ?_
          exact clX6_readNumber_78 C hR hO 4096 w31 a1 0 0 1
        · exact y_rv C hR dX6_readNumber_70
    · exact y_rv C hR dX6_readNumber_29
theorem mX6_readNumber {E : Ex} {o : Nat} (hO : shM E.2.2.2.2.2.1 o) (w : Wd) (a1 : Int32) (l : Launch) : MV l yX6_readNumber cX6_readNumber 5 none { frames := 1, cells := 0, slots := 0, locals := 21 } E [.ref (E.2.2.2.2.1 + o), .int a1] w (fX6_readNumber w o a1) :=
  y_met (Qc := yQv E) (by decide +kernel) (Nat.le_of_ble_eq_true rfl) (fun g C hR => eX6_readNumber C hR hO w a1) l
def lX6_perform_98 (o : Nat) : Nat → Wd → Int32 → Int32 → Int32 → Option (Int32 × Wd)
  | 0, _, _, _, _ => none
  | n + 1, w, x2, x3, x4 =>
    if x3 ≤ x4 then
      if (bz (w.1 o 10)) = 0 then
        if (w.1 o 8) ≤ (w.1 o 9) then
          ob2 (fX6_does w o x2) fun v11 w12 =>
          some (v11, w12)
        else
          some ((-100) - (w.1 o 9), w)
      else
        some ((-100) - (w.1 o 9), w)
    else
      if (bz (w.1 o 10)) = 0 then
        (fX6_readNumber w o x4).bind fun w18 =>
        lX6_perform_98 o n w18 x2 x3 (x4 + 1)
      else
        if (bz (w.1 o 10)) = 0 then
          if (w.1 o 8) ≤ (w.1 o 9) then
            ob2 (fX6_does w o x2) fun v16 w17 =>
            some (v16, w17)
          else
            some ((-100) - (w.1 o 9), w)
        else
          some ((-100) - (w.1 o 9), w)
set_option maxRecDepth 4000 in
theorem clX6_perform_98 {g : Gx} {E : Ex} (C : CC g E cX6_perform 5 RX6 5 111) (hR : RT g (some .int)) {o : Nat} (hO : shM E.2.2.2.2.2.1 o) : ∀ (n : Nat) (w : Wd) (x2 : Int32) (x3 : Int32) (x4 : Int32), YO g E 5 (QI g E) (lX6_perform_98 o n w x2 x3 x4) w 98 [(0, .ref (E.2.2.2.2.1 + o)), (2, .int x2), (3, .int x3), (4, .int x4)] [] := by
  intro n
  induction n with
  | zero => intro w x2 x3 x4; exact y_no
  | succ n ih =>
    intro w x2 x3 x4
    rw [lX6_perform_98]
    refine y_iload (n := 100) C dX6_perform_98 3 rfl rfl ?_
    refine y_iload_n (n := 101) C dX6_perform_100 2 rfl rfl ?_
    refine y_icmp_ge (tgt := 123) (n := 104) C dX6_perform_101 (by decide) rfl (fun h8 => ?_) (fun h8 => ?_)
    · refine y_aload_n (n := 124) C dX6_perform_123 0 rfl rfl ?_
      refine y_get (ci := 6) (f := 10) (n := 127) C in_X6 hO.1 rfl (by decide) wd_741 rfl rfl dX6_perform_124 rfl ?_
      refine y_if_ne (tgt := 141) (n := 130) C dX6_perform_127 (by decide) rfl (fun h9 => ?_) (fun h9 => ?_)
      · refine y_bipush (n := 143) C ((-100) : Int32) dX6_perform_141 (by decide) rfl ?_
        refine y_aload_n (n := 144) C dX6_perform_143 0 rfl rfl ?_
        refine y_get (ci := 6) (f := 9) (n := 147) C in_X6 hO.1 rfl (by decide) wd_740 rfl rfl dX6_perform_144 rfl ?_
        refine y_isub (n := 148) C dX6_perform_147 rfl ?_
        exact y_ri C hR dX6_perform_148
      · refine y_aload_n (n := 131) C dX6_perform_130 0 rfl rfl ?_
        refine y_get (ci := 6) (f := 9) (n := 134) C in_X6 hO.1 rfl (by decide) wd_740 rfl rfl dX6_perform_131 rfl ?_
        refine y_aload_n (n := 135) C dX6_perform_134 0 rfl rfl ?_
        refine y_get (ci := 6) (f := 8) (n := 138) C in_X6 hO.1 rfl (by decide) wd_739 rfl rfl dX6_perform_135 rfl ?_
        refine y_icmp_ge (tgt := 149) (n := 141) C dX6_perform_138 (by decide) rfl (fun h10 => ?_) (fun h10 => ?_)
        · refine y_aload_n (n := 150) C dX6_perform_149 0 rfl rfl ?_
          refine y_iload_n (n := 151) C dX6_perform_150 1 rfl rfl ?_
          refine y_ci2 (n := 154) C (fun r hr H locs la hP hS hl => y_runV (ci := 6) (st := []) C ky_X6_does wd_1071 ⟨Nat.le_of_ble_eq_true rfl, Nat.le_of_ble_eq_true rfl⟩ hO.1 rfl (mX6_does hO w x2 g.2.1 r hr) rfl (Nat.le_of_ble_eq_true rfl) rfl dX6_perform_151 hP hS hl) rfl (fun v11 w12 hv11 => ?_)
          exact y_ri C hR dX6_perform_154
        · refine y_bipush (n := 143) C ((-100) : Int32) dX6_perform_141 (by decide) rfl ?_
          refine y_aload_n (n := 144) C dX6_perform_143 0 rfl rfl ?_
          refine y_get (ci := 6) (f := 9) (n := 147) C in_X6 hO.1 rfl (by decide) wd_740 rfl rfl dX6_perform_144 rfl ?_
          refine y_isub (n := 148) C dX6_perform_147 rfl ?_
          exact y_ri C hR dX6_perform_148
    · refine y_aload_n (n := 105) C dX6_perform_104 0 rfl rfl ?_
      refine y_get (ci := 6) (f := 10) (n := 108) C in_X6 hO.1 rfl (by decide) wd_741 rfl rfl dX6_perform_105 rfl ?_
      refine y_if_ne (tgt := 123) (n := 111) C dX6_perform_108 (by decide) rfl (fun h13 => ?_) (fun h13 => ?_)
      · refine y_aload_n (n := 124) C dX6_perform_123 0 rfl rfl ?_
        refine y_get (ci := 6) (f := 10) (n := 127) C in_X6 hO.1 rfl (by decide) wd_741 rfl rfl dX6_perform_124 rfl ?_
        refine y_if_ne (tgt := 141) (n := 130) C dX6_perform_127 (by decide) rfl (fun h14 => ?_) (fun h14 => ?_)
        · refine y_bipush (n := 143) C ((-100) : Int32) dX6_perform_141 (by decide) rfl ?_
          refine y_aload_n (n := 144) C dX6_perform_143 0 rfl rfl ?_
          refine y_get (ci := 6) (f := 9) (n := 147) C in_X6 hO.1 rfl (by decide) wd_740 rfl rfl dX6_perform_144 rfl ?_
          refine y_isub (n := 148) C dX6_perform_147 rfl ?_
          exact y_ri C hR dX6_perform_148
        · refine y_aload_n (n := 131) C dX6_perform_130 0 rfl rfl ?_
          refine y_get (ci := 6) (f := 9) (n := 134) C in_X6 hO.1 rfl (by decide) wd_740 rfl rfl dX6_perform_131 rfl ?_
          refine y_aload_n (n := 135) C dX6_perform_134 0 rfl rfl ?_
          refine y_get (ci := 6) (f := 8) (n := 138) C in_X6 hO.1 rfl (by decide) wd_739 rfl rfl dX6_perform_135 rfl ?_
          refine y_icmp_ge (tgt := 149) (n := 141) C dX6_perform_138 (by decide) rfl (fun h15 => ?_) (fun h15 => ?_)
          · refine y_aload_n (n := 150) C dX6_perform_149 0 rfl rfl ?_
            refine y_iload_n (n := 151) C dX6_perform_150 1 rfl rfl ?_
            refine y_ci2 (n := 154) C (fun r hr H locs la hP hS hl => y_runV (ci := 6) (st := []) C ky_X6_does wd_1071 ⟨Nat.le_of_ble_eq_true rfl, Nat.le_of_ble_eq_true rfl⟩ hO.1 rfl (mX6_does hO w x2 g.2.1 r hr) rfl (Nat.le_of_ble_eq_true rfl) rfl dX6_perform_151 hP hS hl) rfl (fun v16 w17 hv16 => ?_)
            exact y_ri C hR dX6_perform_154
          · refine y_bipush (n := 143) C ((-100) : Int32) dX6_perform_141 (by decide) rfl ?_
            refine y_aload_n (n := 144) C dX6_perform_143 0 rfl rfl ?_
            refine y_get (ci := 6) (f := 9) (n := 147) C in_X6 hO.1 rfl (by decide) wd_740 rfl rfl dX6_perform_144 rfl ?_
            refine y_isub (n := 148) C dX6_perform_147 rfl ?_
            exact y_ri C hR dX6_perform_148
      · refine y_aload_n (n := 112) C dX6_perform_111 0 rfl rfl ?_
        refine y_iload (n := 114) C dX6_perform_112 3 rfl rfl ?_
        refine y_cv (n := 117) C (fun r hr H locs la hP hS hl => y_runV (ci := 6) (st := []) C ky_X6_readNumber wd_1060 ⟨Nat.le_of_ble_eq_true rfl, Nat.le_of_ble_eq_true rfl⟩ hO.1 rfl (mX6_readNumber hO w x4 g.2.1 r hr) rfl (Nat.le_of_ble_eq_true rfl) rfl dX6_perform_114 hP hS hl) rfl (fun w18 hw18 => ?_)
        refine y_iinc (n := 120) (v := x4 + 1) (ls' := [(4, .int (x4 + 1)), (0, .ref (E.2.2.2.2.1 + o)), (2, .int x2), (3, .int x3)]) C dX6_perform_117 3 rfl rfl (by decide) rfl rfl ?_
        refine y_goto (tgt := 98) C dX6_perform_120 (by decide) ?_
        refine y_ls [1, 2, 3, 0] rfl ?_
        exact ih w18 x2 x3 (x4 + 1)
def lX6_perform_32 (o : Nat) : Nat → Wd → Int32 → Int32 → Int32 → Option (Int32 × Wd)
  | 0, _, _, _, _ => none
  | n + 1, w, x1, x2, x3 =>
    if 7 ≤ x3 then
      if 0 ≤ x2 then
        (pI w o 9 x1).bind fun w4 =>
        (stZ w4 o 10 0).bind fun w5 =>
        if x2 = 0 then
          lX6_perform_98 o 4096 w5 x2 3 0
        else
          if 4 ≤ x2 then
            lX6_perform_98 o 4096 w5 x2 1 0
          else
            lX6_perform_98 o 4096 w5 x2 2 0
      else
        some ((-100), w)
    else
      (fX6_isWord w o x3 x1).bind fun v19 =>
      if v19 = 0 then
        lX6_perform_32 o n w x1 x2 (x3 + 1)
      else
        lX6_perform_32 o n w x1 x3 (x3 + 1)
set_option maxRecDepth 4000 in
theorem clX6_perform_32 {g : Gx} {E : Ex} (C : CC g E cX6_perform 5 RX6 5 111) (hR : RT g (some .int)) {o : Nat} (hO : shM E.2.2.2.2.2.1 o) : ∀ (n : Nat) (w : Wd) (x1 : Int32) (x2 : Int32) (x3 : Int32), YO g E 5 (QI g E) (lX6_perform_32 o n w x1 x2 x3) w 32 [(0, .ref (E.2.2.2.2.1 + o)), (1, .int x1), (2, .int x2), (3, .int x3)] [] := by
  intro n
  induction n with
  | zero => intro w x1 x2 x3; exact y_no
  | succ n ih =>
    intro w x1 x2 x3
    rw [lX6_perform_32]
    refine y_iload_n (n := 33) C dX6_perform_32 3 rfl rfl ?_
    refine y_bipush (n := 35) C (7 : Int32) dX6_perform_33 (by decide) rfl ?_
    refine y_icmp_ge (tgt := 59) (n := 38) C dX6_perform_35 (by decide) rfl (fun h2 => ?_) (fun h2 => ?_)
    · refine y_iload_n (n := 60) C dX6_perform_59 2 rfl rfl ?_
      refine y_if_ge (tgt := 66) (n := 63) C dX6_perform_60 (by decide) rfl (fun h3 => ?_) (fun h3 => ?_)
      · refine y_aload_n (n := 67) C dX6_perform_66 0 rfl rfl ?_
        refine y_iload_n (n := 68) C dX6_perform_67 1 rfl rfl ?_
        refine y_putI (ci := 6) (f := 9) (n := 71) C in_X6 tyX6 tyX6_ok nmX6 hO.1 rfl (by decide) wd_740 rfl rfl (by decide +kernel) (Nat.le_of_ble_eq_true rfl) st_X6_9 dX6_perform_68 rfl (fun w4 hw4 => ?_)
        refine y_aload_n (n := 72) C dX6_perform_71 0 rfl rfl ?_
        refine y_iconst (n := 73) C (0 : Int32) dX6_perform_72 (by decide) rfl ?_
        refine y_putZ (ci := 6) (f := 10) (n := 76) C in_X6 tyX6 tyX6_ok nmX6 hO.1 rfl (by decide) wd_741 rfl rfl (by decide +kernel) (Nat.le_of_ble_eq_true rfl) st_X6_10 dX6_perform_73 rfl (fun w5 hw5 => ?_)
        refine y_iload_n (n := 77) C dX6_perform_76 2 rfl rfl ?_
        refine y_if_ne (tgt := 84) (n := 80) C dX6_perform_77 (by decide) rfl (fun h6 => ?_) (fun h6 => ?_)
        · refine y_iload_n (n := 85) C dX6_perform_84 2 rfl rfl ?_
          refine y_iconst (n := 86) C (4 : Int32) dX6_perform_85 (by decide) rfl ?_
          refine y_icmp_ge (tgt := 93) (n := 89) C dX6_perform_86 (by decide) rfl (fun h7 => ?_) (fun h7 => ?_)
          · refine y_iconst (n := 94) C (1 : Int32) dX6_perform_93 (by decide) rfl ?_
            refine y_istore_n (n := 95) (ls' := [(3, .int 1), (0, .ref (E.2.2.2.2.1 + o)), (1, .int x1), (2, .int x2)]) C dX6_perform_94 (by decide) rfl rfl ?_
            refine y_iconst (n := 96) C (0 : Int32) dX6_perform_95 (by decide) rfl ?_
            refine y_istore (n := 98) (ls' := [(4, .int 0), (3, .int 1), (0, .ref (E.2.2.2.2.1 + o)), (1, .int x1), (2, .int x2)]) C dX6_perform_96 (by decide) rfl rfl ?_
            refine y_ls [2, 4, 1, 0] rfl ?_
            exact clX6_perform_98 C hR hO 4096 w5 x2 1 0
          · refine y_iconst (n := 90) C (2 : Int32) dX6_perform_89 (by decide) rfl ?_
            refine y_goto (tgt := 94) C dX6_perform_90 (by decide) ?_
            refine y_istore_n (n := 95) (ls' := [(3, .int 2), (0, .ref (E.2.2.2.2.1 + o)), (1, .int x1), (2, .int x2)]) C dX6_perform_94 (by decide) rfl rfl ?_
            refine y_iconst (n := 96) C (0 : Int32) dX6_perform_95 (by decide) rfl ?_
            refine y_istore (n := 98) (ls' := [(4, .int 0), (3, .int 2), (0, .ref (E.2.2.2.2.1 + o)), (1, .int x1), (2, .int x2)]) C dX6_perform_96 (by decide) rfl rfl ?_
            refine y_ls [2, 4, 1, 0] rfl ?_
            exact clX6_perform_98 C hR hO 4096 w5 x2 2 0
        · refine y_iconst (n := 81) C (3 : Int32) dX6_perform_80 (by decide) rfl ?_
          refine y_goto (tgt := 94) C dX6_perform_81 (by decide) ?_
          refine y_istore_n (n := 95) (ls' := [(3, .int 3), (0, .ref (E.2.2.2.2.1 + o)), (1, .int x1), (2, .int x2)]) C dX6_perform_94 (by decide) rfl rfl ?_
          refine y_iconst (n := 96) C (0 : Int32) dX6_perform_95 (by decide) rfl ?_
          refine y_istore (n := 98) (ls' := [(4, .int 0), (3, .int 3), (0, .ref (E.2.2.2.2.1 + o)), (1, .int x1), (2, .int x2)]) C dX6_perform_96 (by decide) rfl rfl ?_
          refine y_ls [2, 4, 1, 0] rfl ?_
          exact clX6_perform_98 C hR hO 4096 w5 x2 3 0
      · refine y_bipush (n := 65) C ((-100) : Int32) dX6_perform_63 (by decide) rfl ?_
        exact y_ri C hR dX6_perform_65
    · refine y_aload_n (n := 39) C dX6_perform_38 0 rfl rfl ?_
      refine y_iload_n (n := 40) C dX6_perform_39 3 rfl rfl ?_
      refine y_iload_n (n := 41) C dX6_perform_40 1 rfl rfl ?_
      refine y_cp (n := 44) C (fun r hr H locs la hP hS hl => y_runV (ci := 6) (st := []) C ky_X6_isWord wd_1052 ⟨Nat.le_of_ble_eq_true rfl, Nat.le_of_ble_eq_true rfl⟩ hO.1 rfl (mX6_isWord hO w x3 x1 g.2.1 r hr) rfl (Nat.le_of_ble_eq_true rfl) rfl dX6_perform_41 hP hS hl) rfl (fun v19 hv19 => ?_)
      refine y_if_eq (tgt := 51) (n := 47) C dX6_perform_44 (by decide) rfl (fun h20 => ?_) (fun h20 => ?_)
      · refine y_iload_n (n := 52) C dX6_perform_51 2 rfl rfl ?_
        refine y_istore_n (n := 53) (ls' := [(2, .int x2), (0, .ref (E.2.2.2.2.1 + o)), (1, .int x1), (3, .int x3)]) C dX6_perform_52 (by decide) rfl rfl ?_
        refine y_iinc (n := 56) (v := x3 + 1) (ls' := [(3, .int (x3 + 1)), (2, .int x2), (0, .ref (E.2.2.2.2.1 + o)), (1, .int x1)]) C dX6_perform_53 3 rfl rfl (by decide) rfl rfl ?_
        refine y_goto (tgt := 32) C dX6_perform_56 (by decide) ?_
        refine y_ls [2, 3, 1, 0] rfl ?_
        exact ih w x1 x2 (x3 + 1)
      · refine y_iload_n (n := 48) C dX6_perform_47 3 rfl rfl ?_
        refine y_goto (tgt := 52) C dX6_perform_48 (by decide) ?_
        refine y_istore_n (n := 53) (ls' := [(2, .int x3), (0, .ref (E.2.2.2.2.1 + o)), (1, .int x1), (3, .int x3)]) C dX6_perform_52 (by decide) rfl rfl ?_
        refine y_iinc (n := 56) (v := x3 + 1) (ls' := [(3, .int (x3 + 1)), (2, .int x3), (0, .ref (E.2.2.2.2.1 + o)), (1, .int x1)]) C dX6_perform_53 3 rfl rfl (by decide) rfl rfl ?_
        refine y_goto (tgt := 32) C dX6_perform_56 (by decide) ?_
        refine y_ls [2, 3, 1, 0] rfl ?_
        exact ih w x1 x3 (x3 + 1)
def lX6_perform_2 (o : Nat) : Nat → Wd → Int32 → Option (Int32 × Wd)
  | 0, _, _ => none
  | n + 1, w, x1 =>
    if (w.1 o 8) ≤ x1 then
      lX6_perform_32 o 4096 w x1 (-1) 0
    else
      (ldI 40 w (o + 6) x1).bind fun v21 =>
      (fX6_isSmall w v21).bind fun v22 =>
      if v22 = 0 then
        lX6_perform_32 o 4096 w x1 (-1) 0
      else
        lX6_perform_2 o n w (x1 + 1)
set_option maxRecDepth 4000 in
theorem clX6_perform_2 {g : Gx} {E : Ex} (C : CC g E cX6_perform 5 RX6 5 111) (hR : RT g (some .int)) {o : Nat} (hO : shM E.2.2.2.2.2.1 o) : ∀ (n : Nat) (w : Wd) (x1 : Int32), YO g E 5 (QI g E) (lX6_perform_2 o n w x1) w 2 [(0, .ref (E.2.2.2.2.1 + o)), (1, .int x1)] [] := by
  intro n
  induction n with
  | zero => intro w x1; exact y_no
  | succ n ih =>
    intro w x1
    rw [lX6_perform_2]
    refine y_iload_n (n := 3) C dX6_perform_2 1 rfl rfl ?_
    refine y_aload_n (n := 4) C dX6_perform_3 0 rfl rfl ?_
    refine y_get (ci := 6) (f := 8) (n := 7) C in_X6 hO.1 rfl (by decide) wd_739 rfl rfl dX6_perform_4 rfl ?_
    refine y_icmp_ge (tgt := 28) (n := 10) C dX6_perform_7 (by decide) rfl (fun h1 => ?_) (fun h1 => ?_)
    · refine y_iconst (n := 29) C ((-1) : Int32) dX6_perform_28 (by decide) rfl ?_
      refine y_istore_n (n := 30) (ls' := [(2, .int (-1)), (0, .ref (E.2.2.2.2.1 + o)), (1, .int x1)]) C dX6_perform_29 (by decide) rfl rfl ?_
      refine y_iconst (n := 31) C (0 : Int32) dX6_perform_30 (by decide) rfl ?_
      refine y_istore_n (n := 32) (ls' := [(3, .int 0), (2, .int (-1)), (0, .ref (E.2.2.2.2.1 + o)), (1, .int x1)]) C dX6_perform_31 (by decide) rfl rfl ?_
      refine y_ls [2, 3, 1, 0] rfl ?_
      exact clX6_perform_32 C hR hO 4096 w x1 (-1) 0
    · refine y_aload_n (n := 11) C dX6_perform_10 0 rfl rfl ?_
      refine y_get (ci := 6) (f := 7) (n := 14) C in_X6 hO.1 rfl (by decide) wd_738 rfl rfl dX6_perform_11 rfl ?_
      refine y_iload_n (n := 15) C dX6_perform_14 1 rfl rfl ?_
      refine y_cald (n := 16) C hO.2.2.2.2.2.2.1 dX6_perform_15 rfl (fun v21 hv21 => ?_)
      refine y_cp (n := 19) C (fun r hr H locs la hP hS hl => y_runS (st := []) C ky_X6_isSmall wd_1049 ⟨Nat.le_of_ble_eq_true rfl, Nat.le_of_ble_eq_true rfl⟩ (mX6_isSmall w v21 g.2.1 r hr) rfl (Nat.le_of_ble_eq_true rfl) rfl dX6_perform_16 hP hS hl) rfl (fun v22 hv22 => ?_)
      refine y_if_eq (tgt := 28) (n := 22) C dX6_perform_19 (by decide) rfl (fun h23 => ?_) (fun h23 => ?_)
      · refine y_iconst (n := 29) C ((-1) : Int32) dX6_perform_28 (by decide) rfl ?_
        refine y_istore_n (n := 30) (ls' := [(2, .int (-1)), (0, .ref (E.2.2.2.2.1 + o)), (1, .int x1)]) C dX6_perform_29 (by decide) rfl rfl ?_
        refine y_iconst (n := 31) C (0 : Int32) dX6_perform_30 (by decide) rfl ?_
        refine y_istore_n (n := 32) (ls' := [(3, .int 0), (2, .int (-1)), (0, .ref (E.2.2.2.2.1 + o)), (1, .int x1)]) C dX6_perform_31 (by decide) rfl rfl ?_
        refine y_ls [2, 3, 1, 0] rfl ?_
        exact clX6_perform_32 C hR hO 4096 w x1 (-1) 0
      · refine y_iinc (n := 25) (v := x1 + 1) (ls' := [(1, .int (x1 + 1)), (0, .ref (E.2.2.2.2.1 + o))]) C dX6_perform_22 1 rfl rfl (by decide) rfl rfl ?_
        refine y_goto (tgt := 2) C dX6_perform_25 (by decide) ?_
        refine y_ls [1, 0] rfl ?_
        exact ih w (x1 + 1)
def fX6_perform (w : Wd) (o : Nat)  : Option (Int32 × Wd) :=
  lX6_perform_2 o 4096 w 0
set_option maxRecDepth 4000 in
theorem eX6_perform {g : Gx} {E : Ex} (C : CC g E cX6_perform 5 RX6 5 111) (hR : RT g (some .int)) {o : Nat} (hO : shM E.2.2.2.2.2.1 o) (w : Wd)  : YO g E 5 (QI g E) (fX6_perform w o) w 0 [(0, .ref (E.2.2.2.2.1 + o))] [] := by
  unfold fX6_perform
  refine y_iconst (n := 1) C (0 : Int32) dX6_perform_0 (by decide) rfl ?_
  refine y_istore_n (n := 2) (ls' := [(1, .int 0), (0, .ref (E.2.2.2.2.1 + o))]) C dX6_perform_1 (by decide) rfl rfl ?_
  refine y_ls [1, 0] rfl ?_
  exact clX6_perform_2 C hR hO 4096 w 0
theorem mX6_perform {E : Ex} {o : Nat} (hO : shM E.2.2.2.2.2.1 o) (w : Wd)  (l : Launch) : MI l yX6_perform cX6_perform 5 (some .int) { frames := 5, cells := 0, slots := 0, locals := 111 } E [.ref (E.2.2.2.2.1 + o)] w (fX6_perform w o) :=
  y_met (Qc := yQi E) (by decide +kernel) (Nat.le_of_ble_eq_true rfl) (fun g C hR => eX6_perform C hR hO w ) l
