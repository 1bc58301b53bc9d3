/-! X6_tellLess X6_reading X6_restore X6_seen X6_step X6_told X6_trial X6_type X6_undo X6_wanted -/
def lX6_tellLess_4 (o : Nat) : Nat → Wd → Int32 → Int32 → Option (Int32)
  | 0, _, _, _ => none
  | n + 1, w, x1, x2 =>
    if 6 ≤ x2 then
      some x1
    else
      (fX6_isAsked w o x2).bind fun v2 =>
      if v2 = 0 then
        lX6_tellLess_4 o n w (x1 + 0) (x2 + 1)
      else
        (fX6_toldBound w o x2).bind fun v4 =>
        (fX6_bound w o x2).bind fun v5 =>
        if v5 ≤ v4 then
          lX6_tellLess_4 o n w (x1 + 0) (x2 + 1)
        else
          lX6_tellLess_4 o n w (x1 + 1) (x2 + 1)
set_option maxRecDepth 4000 in
theorem clX6_tellLess_4 {g : Gx} {E : Ex} (C : CC g E cX6_tellLess 3 RX6 3 65) (hR : RT g (some .int)) {o : Nat} (hO : shM E.2.2.2.2.2.1 o) (w : Wd) : ∀ (n : Nat) (x1 : Int32) (x2 : Int32), YO g E 3 (QP g E w) (lX6_tellLess_4 o n w x1 x2) w 4 [(0, .ref (E.2.2.2.2.1 + o)), (1, .int x1), (2, .int x2)] [] := by
  intro n
  induction n with
  | zero => intro x1 x2; exact y_no
  | succ n ih =>
    intro x1 x2
    rw [lX6_tellLess_4]
    refine y_iload_n (n := 5) C dX6_tellLess_4 2 rfl rfl ?_
    refine y_bipush (n := 7) C (6 : Int32) dX6_tellLess_5 (by decide) rfl ?_
    refine y_icmp_ge (tgt := 45) (n := 10) C dX6_tellLess_7 (by decide) rfl (fun h1 => ?_) (fun h1 => ?_)
    · refine y_iload_n (n := 46) C dX6_tellLess_45 1 rfl rfl ?_
      exact y_rp C hR dX6_tellLess_46
    · refine y_iload_n (n := 11) C dX6_tellLess_10 1 rfl rfl ?_
      refine y_aload_n (n := 12) C dX6_tellLess_11 0 rfl rfl ?_
      refine y_iload_n (n := 13) C dX6_tellLess_12 2 rfl rfl ?_
      refine y_cp (n := 16) C (fun r hr H locs la hP hS hl => y_runV (ci := 6) (st := [.int x1]) C ky_X6_isAsked wd_889 ⟨Nat.le_of_ble_eq_true rfl, Nat.le_of_ble_eq_true rfl⟩ hO.1 rfl (mX6_isAsked hO w x2 g.2.1 r hr) rfl (Nat.le_of_ble_eq_true rfl) rfl dX6_tellLess_13 hP hS hl) rfl (fun v2 hv2 => ?_)
      refine y_if_eq (tgt := 36) (n := 19) C dX6_tellLess_16 (by decide) rfl (fun h3 => ?_) (fun h3 => ?_)
      · refine y_iconst (n := 37) C (0 : Int32) dX6_tellLess_36 (by decide) rfl ?_
        refine y_iadd (n := 38) C dX6_tellLess_37 rfl ?_
        refine y_istore_n (n := 39) (ls' := [(1, .int (x1 + 0)), (0, .ref (E.2.2.2.2.1 + o)), (2, .int x2)]) C dX6_tellLess_38 (by decide) rfl rfl ?_
        refine y_iinc (n := 42) (v := x2 + 1) (ls' := [(2, .int (x2 + 1)), (1, .int (x1 + 0)), (0, .ref (E.2.2.2.2.1 + o))]) C dX6_tellLess_39 2 rfl rfl (by decide) rfl rfl ?_
        refine y_goto (tgt := 4) C dX6_tellLess_42 (by decide) ?_
        refine y_ls [2, 1, 0] rfl ?_
        exact ih (x1 + 0) (x2 + 1)
      · refine y_aload_n (n := 20) C dX6_tellLess_19 0 rfl rfl ?_
        refine y_iload_n (n := 21) C dX6_tellLess_20 2 rfl rfl ?_
        refine y_cp (n := 24) C (fun r hr H locs la hP hS hl => y_runV (ci := 6) (st := [.int x1]) C ky_X6_toldBound wd_941 ⟨Nat.le_of_ble_eq_true rfl, Nat.le_of_ble_eq_true rfl⟩ hO.1 rfl (mX6_toldBound hO w x2 g.2.1 r hr) rfl (Nat.le_of_ble_eq_true rfl) rfl dX6_tellLess_21 hP hS hl) rfl (fun v4 hv4 => ?_)
        refine y_aload_n (n := 25) C dX6_tellLess_24 0 rfl rfl ?_
        refine y_iload_n (n := 26) C dX6_tellLess_25 2 rfl rfl ?_
        refine y_cp (n := 29) C (fun r hr H locs la hP hS hl => y_runV (ci := 6) (st := [.int v4, .int x1]) C ky_X6_bound wd_945 ⟨Nat.le_of_ble_eq_true rfl, Nat.le_of_ble_eq_true rfl⟩ hO.1 rfl (mX6_bound hO w x2 g.2.1 r hr) rfl (Nat.le_of_ble_eq_true rfl) rfl dX6_tellLess_26 hP hS hl) rfl (fun v5 hv5 => ?_)
        refine y_icmp_ge (tgt := 36) (n := 32) C dX6_tellLess_29 (by decide) rfl (fun h6 => ?_) (fun h6 => ?_)
        · refine y_iconst (n := 37) C (0 : Int32) dX6_tellLess_36 (by decide) rfl ?_
          refine y_iadd (n := 38) C dX6_tellLess_37 rfl ?_
          refine y_istore_n (n := 39) (ls' := [(1, .int (x1 + 0)), (0, .ref (E.2.2.2.2.1 + o)), (2, .int x2)]) C dX6_tellLess_38 (by decide) rfl rfl ?_
          refine y_iinc (n := 42) (v := x2 + 1) (ls' := [(2, .int (x2 + 1)), (1, .int (x1 + 0)), (0, .ref (E.2.2.2.2.1 + o))]) C dX6_tellLess_39 2 rfl rfl (by decide) rfl rfl ?_
          refine y_goto (tgt := 4) C dX6_tellLess_42 (by decide) ?_
          refine y_ls [2, 1, 0] rfl ?_
          exact ih (x1 + 0) (x2 + 1)
        · refine y_iconst (n := 33) C (1 : Int32) dX6_tellLess_32 (by decide) rfl ?_
          refine y_goto (tgt := 37) C dX6_tellLess_33 (by decide) ?_
          refine y_iadd (n := 38) C dX6_tellLess_37 rfl ?_
          refine y_istore_n (n := 39) (ls' := [(1, .int (x1 + 1)), (0, .ref (E.2.2.2.2.1 + o)), (2, .int x2)]) C dX6_tellLess_38 (by decide) rfl rfl ?_
          refine y_iinc (n := 42) (v := x2 + 1) (ls' := [(2, .int (x2 + 1)), (1, .int (x1 + 1)), (0, .ref (E.2.2.2.2.1 + o))]) C dX6_tellLess_39 2 rfl rfl (by decide) rfl rfl ?_
          refine y_goto (tgt := 4) C dX6_tellLess_42 (by decide) ?_
          refine y_ls [2, 1, 0] rfl ?_
          exact ih (x1 + 1) (x2 + 1)
def fX6_tellLess (w : Wd) (o : Nat)  : Option (Int32) :=
  lX6_tellLess_4 o 4096 w 0 0
set_option maxRecDepth 4000 in
theorem eX6_tellLess {g : Gx} {E : Ex} (C : CC g E cX6_tellLess 3 RX6 3 65) (hR : RT g (some .int)) {o : Nat} (hO : shM E.2.2.2.2.2.1 o) (w : Wd)  : YO g E 3 (QP g E w) (fX6_tellLess w o) w 0 [(0, .ref (E.2.2.2.2.1 + o))] [] := by
  unfold fX6_tellLess
  refine y_iconst (n := 1) C (0 : Int32) dX6_tellLess_0 (by decide) rfl ?_
  refine y_istore_n (n := 2) (ls' := [(1, .int 0), (0, .ref (E.2.2.2.2.1 + o))]) C dX6_tellLess_1 (by decide) rfl rfl ?_
  refine y_iconst (n := 3) C (0 : Int32) dX6_tellLess_2 (by decide) rfl ?_
  refine y_istore_n (n := 4) (ls' := [(2, .int 0), (1, .int 0), (0, .ref (E.2.2.2.2.1 + o))]) C dX6_tellLess_3 (by decide) rfl rfl ?_
  refine y_ls [2, 1, 0] rfl ?_
  exact clX6_tellLess_4 C hR hO w 4096 0 0
theorem mX6_tellLess {E : Ex} {o : Nat} (hO : shM E.2.2.2.2.2.1 o) (w : Wd)  (l : Launch) : MP l yX6_tellLess cX6_tellLess 3 (some .int) { frames := 3, cells := 0, slots := 0, locals := 65 } E [.ref (E.2.2.2.2.1 + o)] w (fX6_tellLess w o) :=
  y_met (Qc := fun r => yQi E (r, w)) (by decide +kernel) (Nat.le_of_ble_eq_true rfl) (fun g C hR => eX6_tellLess C hR hO w ) l
def fX6_reading (w : Wd) (o : Nat) (a1 : Int32) : Option (Int32 × Wd) :=
  if a1 < 0 then
    some ((-2), w)
  else
    if a1 ≤ 12 then
      (ldI 706 w (o + 1) 559).bind fun v3 =>
      if v3 = 0 then
        some ((-4), w)
      else
        if a1 = 0 then
          (ldI 706 w (o + 1) 564).bind fun v6 =>
          some (v6, w)
        else
        if a1 = 1 then
          (ldI 706 w (o + 1) 565).bind fun v8 =>
          some (v8, w)
        else
        if a1 = 2 then
          (fX6_sumOf w o 580).bind fun v10 =>
          some (v10, w)
        else
        if a1 = 3 then
          (fX6_cost w o).bind fun v12 =>
          some (v12, w)
        else
        if a1 = 4 then
          (fX6_seenMany w o).bind fun v14 =>
          some (v14, w)
        else
        if a1 = 5 then
          (fX6_toldMany w o).bind fun v16 =>
          some (v16, w)
        else
        if a1 = 6 then
          (ldI 706 w (o + 1) 562).bind fun v18 =>
          some (v18, w)
        else
        if a1 = 7 then
          (ldI 706 w (o + 1) 562).bind fun v20 =>
          if v20 = 1 then
            some ((-5), w)
          else
            (fX6_nextList w o).bind fun v22 =>
            some (v22, w)
        else
        if a1 = 8 then
          (fX6_boundsTogether w o).bind fun v24 =>
          some (v24, w)
        else
        if a1 = 9 then
          (fX6_reckon w o).bind fun w26 =>
          (fX6_toldMany w26 o).bind fun v27 =>
          if v27 = 0 then
            some (0, w26)
          else
            (fX6_toldMany w26 o).bind fun v29 =>
            (fX6_frontAt w26 o (v29 - 1)).bind fun v30 =>
            (ldI 60 w26 (o + 5) v30).bind fun v31 =>
            some (v31, w26)
        else
        if a1 = 10 then
          (fX6_sumOf w o 574).bind fun v33 =>
          some (v33, w)
        else
        if a1 = 11 then
          ob2 (fX6_toldNotWanted w o) fun v35 w36 =>
          some (v35, w36)
        else
        (fX6_tellLess w o).bind fun v37 =>
        some (v37, w)
    else
      some ((-2), w)
set_option maxRecDepth 4000 in
theorem eX6_reading {g : Gx} {E : Ex} (C : CC g E cX6_reading 2 RX6 6 139) (hR : RT g (some .int)) {o : Nat} (hO : shM E.2.2.2.2.2.1 o) (w : Wd) (a1 : Int32) : YO g E 2 (QI g E) (fX6_reading w o a1) w 0 [(0, .ref (E.2.2.2.2.1 + o)), (1, .int a1)] [] := by
  unfold fX6_reading
  refine y_iload_n (n := 1) C dX6_reading_0 1 rfl rfl ?_
  refine y_if_lt (tgt := 10) (n := 4) C dX6_reading_1 (by decide) rfl (fun h1 => ?_) (fun h1 => ?_)
  · refine y_bipush (n := 12) C ((-2) : Int32) dX6_reading_10 (by decide) rfl ?_
    exact y_ri C hR dX6_reading_12
  · refine y_iload_n (n := 5) C dX6_reading_4 1 rfl rfl ?_
    refine y_bipush (n := 7) C (12 : Int32) dX6_reading_5 (by decide) rfl ?_
    refine y_icmp_le (tgt := 13) (n := 10) C dX6_reading_7 (by decide) rfl (fun h2 => ?_) (fun h2 => ?_)
    · refine y_aload_n (n := 14) C dX6_reading_13 0 rfl rfl ?_
      refine y_get (ci := 6) (f := 0) (n := 17) C in_X6 hO.1 rfl (by decide) wd_731 rfl rfl dX6_reading_14 rfl ?_
      refine y_sipush (n := 20) C (559 : Int32) dX6_reading_17 (by decide) rfl ?_
      refine y_iald (n := 21) C hO.2.1 dX6_reading_20 rfl (fun v3 hv3 => ?_)
      refine y_if_ne (tgt := 27) (n := 24) C dX6_reading_21 (by decide) rfl (fun h4 => ?_) (fun h4 => ?_)
      · refine y_iload_n (n := 28) C dX6_reading_27 1 rfl rfl ?_
        refine y_if (fun h5 => ?_) (fun h5 => ?_)
        · refine y_swIn (tgt := 92) C 64 dX6_reading_28 (by rw [h5]; decide) (by rw [h5]; decide) (by rw [h5]; rfl) (by decide) ?_
          refine y_aload_n (n := 93) C dX6_reading_92 0 rfl rfl ?_
          refine y_get (ci := 6) (f := 0) (n := 96) C in_X6 hO.1 rfl (by decide) wd_731 rfl rfl dX6_reading_93 rfl ?_
          refine y_sipush (n := 99) C (564 : Int32) dX6_reading_96 (by decide) rfl ?_
          refine y_iald (n := 100) C hO.2.1 dX6_reading_99 rfl (fun v6 hv6 => ?_)
          exact y_ri C hR dX6_reading_100
        refine y_if (fun h7 => ?_) (fun h7 => ?_)
        · refine y_swIn (tgt := 101) C 73 dX6_reading_28 (by rw [h7]; decide) (by rw [h7]; decide) (by rw [h7]; rfl) (by decide) ?_
          refine y_aload_n (n := 102) C dX6_reading_101 0 rfl rfl ?_
          refine y_get (ci := 6) (f := 0) (n := 105) C in_X6 hO.1 rfl (by decide) wd_731 rfl rfl dX6_reading_102 rfl ?_
          refine y_sipush (n := 108) C (565 : Int32) dX6_reading_105 (by decide) rfl ?_
          refine y_iald (n := 109) C hO.2.1 dX6_reading_108 rfl (fun v8 hv8 => ?_)
          exact y_ri C hR dX6_reading_109
        refine y_if (fun h9 => ?_) (fun h9 => ?_)
        · refine y_swIn (tgt := 110) C 82 dX6_reading_28 (by rw [h9]; decide) (by rw [h9]; decide) (by rw [h9]; rfl) (by decide) ?_
          refine y_aload_n (n := 111) C dX6_reading_110 0 rfl rfl ?_
          refine y_sipush (n := 114) C (580 : Int32) dX6_reading_111 (by decide) rfl ?_
          refine y_cp (n := 117) C (fun r hr H locs la hP hS hl => y_runV (ci := 6) (st := []) C ky_X6_sumOf wd_1001 ⟨Nat.le_of_ble_eq_true rfl, Nat.le_of_ble_eq_true rfl⟩ hO.1 rfl (mX6_sumOf hO w 580 g.2.1 r hr) rfl (Nat.le_of_ble_eq_true rfl) rfl dX6_reading_114 hP hS hl) rfl (fun v10 hv10 => ?_)
          exact y_ri C hR dX6_reading_117
        refine y_if (fun h11 => ?_) (fun h11 => ?_)
        · refine y_swIn (tgt := 118) C 90 dX6_reading_28 (by rw [h11]; decide) (by rw [h11]; decide) (by rw [h11]; rfl) (by decide) ?_
          refine y_aload_n (n := 119) C dX6_reading_118 0 rfl rfl ?_
          refine y_cp (n := 122) C (fun r hr H locs la hP hS hl => y_runV (ci := 6) (st := []) C ky_X6_cost wd_1005 ⟨Nat.le_of_ble_eq_true rfl, Nat.le_of_ble_eq_true rfl⟩ hO.1 rfl (mX6_cost hO w g.2.1 r hr) rfl (Nat.le_of_ble_eq_true rfl) rfl dX6_reading_119 hP hS hl) rfl (fun v12 hv12 => ?_)
          exact y_ri C hR dX6_reading_122
        refine y_if (fun h13 => ?_) (fun h13 => ?_)
        · refine y_swIn (tgt := 123) C 95 dX6_reading_28 (by rw [h13]; decide) (by rw [h13]; decide) (by rw [h13]; rfl) (by decide) ?_
          refine y_aload_n (n := 124) C dX6_reading_123 0 rfl rfl ?_
          refine y_cp (n := 127) C (fun r hr H locs la hP hS hl => y_runV (ci := 6) (st := []) C ky_X6_seenMany wd_909 ⟨Nat.le_of_ble_eq_true rfl, Nat.le_of_ble_eq_true rfl⟩ hO.1 rfl (mX6_seenMany hO w g.2.1 r hr) rfl (Nat.le_of_ble_eq_true rfl) rfl dX6_reading_124 hP hS hl) rfl (fun v14 hv14 => ?_)
          exact y_ri C hR dX6_reading_127
        refine y_if (fun h15 => ?_) (fun h15 => ?_)
        · refine y_swIn (tgt := 128) C 100 dX6_reading_28 (by rw [h15]; decide) (by rw [h15]; decide) (by rw [h15]; rfl) (by decide) ?_
          refine y_aload_n (n := 129) C dX6_reading_128 0 rfl rfl ?_
          refine y_cp (n := 132) C (fun r hr H locs la hP hS hl => y_runV (ci := 6) (st := []) C ky_X6_toldMany wd_977 ⟨Nat.le_of_ble_eq_true rfl, Nat.le_of_ble_eq_true rfl⟩ hO.1 rfl (mX6_toldMany hO w g.2.1 r hr) rfl (Nat.le_of_ble_eq_true rfl) rfl dX6_reading_129 hP hS hl) rfl (fun v16 hv16 => ?_)
          exact y_ri C hR dX6_reading_132
        refine y_if (fun h17 => ?_) (fun h17 => ?_)
        · refine y_swIn (tgt := 133) C 105 dX6_reading_28 (by rw [h17]; decide) (by rw [h17]; decide) (by rw [h17]; rfl) (by decide) ?_
          refine y_aload_n (n := 134) C dX6_reading_133 0 rfl rfl ?_
          refine y_get (ci := 6) (f := 0) (n := 137) C in_X6 hO.1 rfl (by decide) wd_731 rfl rfl dX6_reading_134 rfl ?_
          refine y_sipush (n := 140) C (562 : Int32) dX6_reading_137 (by decide) rfl ?_
          refine y_iald (n := 141) C hO.2.1 dX6_reading_140 rfl (fun v18 hv18 => ?_)
          exact y_ri C hR dX6_reading_141
        refine y_if (fun h19 => ?_) (fun h19 => ?_)
        · refine y_swIn (tgt := 142) C 114 dX6_reading_28 (by rw [h19]; decide) (by rw [h19]; decide) (by rw [h19]; rfl) (by decide) ?_
          refine y_aload_n (n := 143) C dX6_reading_142 0 rfl rfl ?_
          refine y_get (ci := 6) (f := 0) (n := 146) C in_X6 hO.1 rfl (by decide) wd_731 rfl rfl dX6_reading_143 rfl ?_
          refine y_sipush (n := 149) C (562 : Int32) dX6_reading_146 (by decide) rfl ?_
          refine y_iald (n := 150) C hO.2.1 dX6_reading_149 rfl (fun v20 hv20 => ?_)
          refine y_iconst (n := 151) C (1 : Int32) dX6_reading_150 (by decide) rfl ?_
          refine y_icmp_ne (tgt := 159) (n := 154) C dX6_reading_151 (by decide) rfl (fun h21 => ?_) (fun h21 => ?_)
          · refine y_aload_n (n := 160) C dX6_reading_159 0 rfl rfl ?_
            refine y_cp (n := 163) C (fun r hr H locs la hP hS hl => y_runV (ci := 6) (st := []) C ky_X6_nextList wd_961 ⟨Nat.le_of_ble_eq_true rfl, Nat.le_of_ble_eq_true rfl⟩ hO.1 rfl (mX6_nextList hO w g.2.1 r hr) rfl (Nat.le_of_ble_eq_true rfl) rfl dX6_reading_160 hP hS hl) rfl (fun v22 hv22 => ?_)
            exact y_ri C hR dX6_reading_163
          · refine y_bipush (n := 156) C ((-5) : Int32) dX6_reading_154 (by decide) rfl ?_
            refine y_goto (tgt := 163) C dX6_reading_156 (by decide) ?_
            exact y_ri C hR dX6_reading_163
        refine y_if (fun h23 => ?_) (fun h23 => ?_)
        · refine y_swIn (tgt := 164) C 136 dX6_reading_28 (by rw [h23]; decide) (by rw [h23]; decide) (by rw [h23]; rfl) (by decide) ?_
          refine y_aload_n (n := 165) C dX6_reading_164 0 rfl rfl ?_
          refine y_cp (n := 168) C (fun r hr H locs la hP hS hl => y_runV (ci := 6) (st := []) C ky_X6_boundsTogether wd_937 ⟨Nat.le_of_ble_eq_true rfl, Nat.le_of_ble_eq_true rfl⟩ hO.1 rfl (mX6_boundsTogether hO w g.2.1 r hr) rfl (Nat.le_of_ble_eq_true rfl) rfl dX6_reading_165 hP hS hl) rfl (fun v24 hv24 => ?_)
          exact y_ri C hR dX6_reading_168
        refine y_if (fun h25 => ?_) (fun h25 => ?_)
        · refine y_swIn (tgt := 169) C 141 dX6_reading_28 (by rw [h25]; decide) (by rw [h25]; decide) (by rw [h25]; rfl) (by decide) ?_
          refine y_aload_n (n := 170) C dX6_reading_169 0 rfl rfl ?_
          refine y_cv (n := 173) C (fun r hr H locs la hP hS hl => y_runV (ci := 6) (st := []) C ky_X6_reckon wd_917 ⟨Nat.le_of_ble_eq_true rfl, Nat.le_of_ble_eq_true rfl⟩ hO.1 rfl (mX6_reckon hO w g.2.1 r hr) rfl (Nat.le_of_ble_eq_true rfl) rfl dX6_reading_170 hP hS hl) rfl (fun w26 hw26 => ?_)
          refine y_aload_n (n := 174) C dX6_reading_173 0 rfl rfl ?_
          refine y_cp (n := 177) C (fun r hr H locs la hP hS hl => y_runV (ci := 6) (st := []) C ky_X6_toldMany wd_977 ⟨Nat.le_of_ble_eq_true rfl, Nat.le_of_ble_eq_true rfl⟩ hO.1 rfl (mX6_toldMany hO w26 g.2.1 r hr) rfl (Nat.le_of_ble_eq_true rfl) rfl dX6_reading_174 hP hS hl) rfl (fun v27 hv27 => ?_)
          refine y_if_ne (tgt := 184) (n := 180) C dX6_reading_177 (by decide) rfl (fun h28 => ?_) (fun h28 => ?_)
          · refine y_aload_n (n := 185) C dX6_reading_184 0 rfl rfl ?_
            refine y_get (ci := 6) (f := 4) (n := 188) C in_X6 hO.1 rfl (by decide) wd_735 rfl rfl dX6_reading_185 rfl ?_
            refine y_aload_n (n := 189) C dX6_reading_188 0 rfl rfl ?_
            refine y_aload_n (n := 190) C dX6_reading_189 0 rfl rfl ?_
            refine y_cp (n := 193) C (fun r hr H locs la hP hS hl => y_runV (ci := 6) (st := [.ref (E.2.2.2.2.1 + o), .ref (E.2.2.2.2.1 + (o + 5))]) C ky_X6_toldMany wd_977 ⟨Nat.le_of_ble_eq_true rfl, Nat.le_of_ble_eq_true rfl⟩ hO.1 rfl (mX6_toldMany hO w26 g.2.1 r hr) rfl (Nat.le_of_ble_eq_true rfl) rfl dX6_reading_190 hP hS hl) rfl (fun v29 hv29 => ?_)
            refine y_iconst (n := 194) C (1 : Int32) dX6_reading_193 (by decide) rfl ?_
            refine y_isub (n := 195) C dX6_reading_194 rfl ?_
            refine y_cp (n := 198) C (fun r hr H locs la hP hS hl => y_runV (ci := 6) (st := [.ref (E.2.2.2.2.1 + (o + 5))]) C ky_X6_frontAt wd_929 ⟨Nat.le_of_ble_eq_true rfl, Nat.le_of_ble_eq_true rfl⟩ hO.1 rfl (mX6_frontAt hO w26 (v29 - 1) g.2.1 r hr) rfl (Nat.le_of_ble_eq_true rfl) rfl dX6_reading_195 hP hS hl) rfl (fun v30 hv30 => ?_)
            refine y_iald (n := 199) C hO.2.2.2.2.2.1 dX6_reading_198 rfl (fun v31 hv31 => ?_)
            exact y_ri C hR dX6_reading_199
          · refine y_iconst (n := 181) C (0 : Int32) dX6_reading_180 (by decide) rfl ?_
            refine y_goto (tgt := 199) C dX6_reading_181 (by decide) ?_
            exact y_ri C hR dX6_reading_199
        refine y_if (fun h32 => ?_) (fun h32 => ?_)
        · refine y_swIn (tgt := 200) C 172 dX6_reading_28 (by rw [h32]; decide) (by rw [h32]; decide) (by rw [h32]; rfl) (by decide) ?_
          refine y_aload_n (n := 201) C dX6_reading_200 0 rfl rfl ?_
          refine y_sipush (n := 204) C (574 : Int32) dX6_reading_201 (by decide) rfl ?_
          refine y_cp (n := 207) C (fun r hr H locs la hP hS hl => y_runV (ci := 6) (st := []) C ky_X6_sumOf wd_1001 ⟨Nat.le_of_ble_eq_true rfl, Nat.le_of_ble_eq_true rfl⟩ hO.1 rfl (mX6_sumOf hO w 574 g.2.1 r hr) rfl (Nat.le_of_ble_eq_true rfl) rfl dX6_reading_204 hP hS hl) rfl (fun v33 hv33 => ?_)
          exact y_ri C hR dX6_reading_207
        refine y_if (fun h34 => ?_) (fun h34 => ?_)
        · refine y_swIn (tgt := 208) C 180 dX6_reading_28 (by rw [h34]; decide) (by rw [h34]; decide) (by rw [h34]; rfl) (by decide) ?_
          refine y_aload_n (n := 209) C dX6_reading_208 0 rfl rfl ?_
          refine y_ci2 (n := 212) C (fun r hr H locs la hP hS hl => y_runV (ci := 6) (st := []) C ky_X6_toldNotWanted wd_1009 ⟨Nat.le_of_ble_eq_true rfl, Nat.le_of_ble_eq_true rfl⟩ hO.1 rfl (mX6_toldNotWanted hO w g.2.1 r hr) rfl (Nat.le_of_ble_eq_true rfl) rfl dX6_reading_209 hP hS hl) rfl (fun v35 w36 hv35 => ?_)
          exact y_ri C hR dX6_reading_212
        refine y_swOut (tgt := 213) C dX6_reading_28 (by have gh5 := sw_ne (k := 0) (by decide) h5; have gh7 := sw_ne (k := 1) (by decide) h7; have gh9 := sw_ne (k := 2) (by decide) h9; have gh11 := sw_ne (k := 3) (by decide) h11; have gh13 := sw_ne (k := 4) (by decide) h13; have gh15 := sw_ne (k := 5) (by decide) h15; have gh17 := sw_ne (k := 6) (by decide) h17; have gh19 := sw_ne (k := 7) (by decide) h19; have gh23 := sw_ne (k := 8) (by decide) h23; have gh25 := sw_ne (k := 9) (by decide) h25; have gh32 := sw_ne (k := 10) (by decide) h32; have gh34 := sw_ne (k := 11) (by decide) h34; omega) (by decide) ?_
        refine y_aload_n (n := 214) C dX6_reading_213 0 rfl rfl ?_
        refine y_cp (n := 217) C (fun r hr H locs la hP hS hl => y_runV (ci := 6) (st := []) C ky_X6_tellLess wd_1013 ⟨Nat.le_of_ble_eq_true rfl, Nat.le_of_ble_eq_true rfl⟩ hO.1 rfl (mX6_tellLess hO w g.2.1 r hr) rfl (Nat.le_of_ble_eq_true rfl) rfl dX6_reading_214 hP hS hl) rfl (fun v37 hv37 => ?_)
        exact y_ri C hR dX6_reading_217
      · refine y_bipush (n := 26) C ((-4) : Int32) dX6_reading_24 (by decide) rfl ?_
        exact y_ri C hR dX6_reading_26
    · refine y_bipush (n := 12) C ((-2) : Int32) dX6_reading_10 (by decide) rfl ?_
      exact y_ri C hR dX6_reading_12
theorem mX6_reading {E : Ex} {o : Nat} (hO : shM E.2.2.2.2.2.1 o) (w : Wd) (a1 : Int32) (l : Launch) : MI l yX6_reading cX6_reading 2 (some .int) { frames := 6, cells := 0, slots := 0, locals := 139 } E [.ref (E.2.2.2.2.1 + o), .int a1] w (fX6_reading w o a1) :=
  y_met (Qc := yQi E) (by decide +kernel) (Nat.le_of_ble_eq_true rfl) (fun g C hR => eX6_reading C hR hO w a1) l
def lX6_restore_16 (o : Nat) : Nat → Wd → Int32 → Option (Int32 × Wd)
  | 0, _, _ => none
  | n + 1, w, x1 =>
    if 706 ≤ x1 then
      (fX6_entries w o).bind fun v4 =>
      some (v4, w)
    else
      (ldI 706 w (o + 3) x1).bind fun v5 =>
      (stI 706 w (o + 1) x1 v5).bind fun w6 =>
      lX6_restore_16 o n w6 (x1 + 1)
set_option maxRecDepth 4000 in
theorem clX6_restore_16 {g : Gx} {E : Ex} (C : CC g E cX6_restore 2 RX6 1 22) (hR : RT g (some .int)) {o : Nat} (hO : shM E.2.2.2.2.2.1 o) : ∀ (n : Nat) (w : Wd) (x1 : Int32), YO g E 2 (QI g E) (lX6_restore_16 o n w x1) w 16 [(0, .ref (E.2.2.2.2.1 + o)), (1, .int x1)] [] := by
  intro n
  induction n with
  | zero => intro w x1; exact y_no
  | succ n ih =>
    intro w x1
    rw [lX6_restore_16]
    refine y_iload_n (n := 17) C dX6_restore_16 1 rfl rfl ?_
    refine y_sipush (n := 20) C (706 : Int32) dX6_restore_17 (by decide) rfl ?_
    refine y_icmp_ge (tgt := 41) (n := 23) C dX6_restore_20 (by decide) rfl (fun h3 => ?_) (fun h3 => ?_)
    · refine y_aload_n (n := 42) C dX6_restore_41 0 rfl rfl ?_
      refine y_cp (n := 45) C (fun r hr H locs la hP hS hl => y_runV (ci := 6) (st := []) C ky_X6_entries wd_776 ⟨Nat.le_of_ble_eq_true rfl, Nat.le_of_ble_eq_true rfl⟩ hO.1 rfl (mX6_entries hO w g.2.1 r hr) rfl (Nat.le_of_ble_eq_true rfl) rfl dX6_restore_42 hP hS hl) rfl (fun v4 hv4 => ?_)
      exact y_ri C hR dX6_restore_45
    · refine y_aload_n (n := 24) C dX6_restore_23 0 rfl rfl ?_
      refine y_get (ci := 6) (f := 0) (n := 27) C in_X6 hO.1 rfl (by decide) wd_731 rfl rfl dX6_restore_24 rfl ?_
      refine y_iload_n (n := 28) C dX6_restore_27 1 rfl rfl ?_
      refine y_aload_n (n := 29) C dX6_restore_28 0 rfl rfl ?_
      refine y_get (ci := 6) (f := 2) (n := 32) C in_X6 hO.1 rfl (by decide) wd_733 rfl rfl dX6_restore_29 rfl ?_
      refine y_iload_n (n := 33) C dX6_restore_32 1 rfl rfl ?_
      refine y_iald (n := 34) C hO.2.2.2.1 dX6_restore_33 rfl (fun v5 hv5 => ?_)
      refine y_iast (n := 35) C hO.2.1 dX6_restore_34 rfl (fun w6 hw6 => ?_)
      refine y_iinc (n := 38) (v := x1 + 1) (ls' := [(1, .int (x1 + 1)), (0, .ref (E.2.2.2.2.1 + o))]) C dX6_restore_35 1 rfl rfl (by decide) rfl rfl ?_
      refine y_goto (tgt := 16) C dX6_restore_38 (by decide) ?_
      refine y_ls [1, 0] rfl ?_
      exact ih w6 (x1 + 1)
def fX6_restore (w : Wd) (o : Nat)  : Option (Int32 × Wd) :=
  if (bz (w.1 o 6)) = 0 then
    some ((-5), w)
  else
    (fX6_record w o).bind fun w2 =>
    lX6_restore_16 o 4096 w2 0
set_option maxRecDepth 4000 in
theorem eX6_restore {g : Gx} {E : Ex} (C : CC g E cX6_restore 2 RX6 1 22) (hR : RT g (some .int)) {o : Nat} (hO : shM E.2.2.2.2.2.1 o) (w : Wd)  : YO g E 2 (QI g E) (fX6_restore w o) w 0 [(0, .ref (E.2.2.2.2.1 + o))] [] := by
  unfold fX6_restore
  refine y_aload_n (n := 1) C dX6_restore_0 0 rfl rfl ?_
  refine y_get (ci := 6) (f := 6) (n := 4) C in_X6 hO.1 rfl (by decide) wd_737 rfl rfl dX6_restore_1 rfl ?_
  refine y_if_ne (tgt := 10) (n := 7) C dX6_restore_4 (by decide) rfl (fun h1 => ?_) (fun h1 => ?_)
  · refine y_aload_n (n := 11) C dX6_restore_10 0 rfl rfl ?_
    refine y_cv (n := 14) C (fun r hr H locs la hP hS hl => y_runV (ci := 6) (st := []) C ky_X6_record wd_784 ⟨Nat.le_of_ble_eq_true rfl, Nat.le_of_ble_eq_true rfl⟩ hO.1 rfl (mX6_record hO w g.2.1 r hr) rfl (Nat.le_of_ble_eq_true rfl) rfl dX6_restore_11 hP hS hl) rfl (fun w2 hw2 => ?_)
    refine y_iconst (n := 15) C (0 : Int32) dX6_restore_14 (by decide) rfl ?_
    refine y_istore_n (n := 16) (ls' := [(1, .int 0), (0, .ref (E.2.2.2.2.1 + o))]) C dX6_restore_15 (by decide) rfl rfl ?_
    refine y_ls [1, 0] rfl ?_
    exact clX6_restore_16 C hR hO 4096 w2 0
  · refine y_bipush (n := 9) C ((-5) : Int32) dX6_restore_7 (by decide) rfl ?_
    exact y_ri C hR dX6_restore_9
theorem mX6_restore {E : Ex} {o : Nat} (hO : shM E.2.2.2.2.2.1 o) (w : Wd)  (l : Launch) : MI l yX6_restore cX6_restore 2 (some .int) { frames := 1, cells := 0, slots := 0, locals := 22 } E [.ref (E.2.2.2.2.1 + o)] w (fX6_restore w o) :=
  y_met (Qc := yQi E) (by decide +kernel) (Nat.le_of_ble_eq_true rfl) (fun g C hR => eX6_restore C hR hO w ) l
def fX6_seen (w : Wd) (o : Nat) (a1 : Int32) (a2 : Int32) : Option (Int32 × Wd) :=
  (fX6_isDocument w a1).bind fun v1 =>
  if v1 = 0 then
    some ((-1), w)
  else
    if a2 < 0 then
      some ((-2), w)
    else
      if a2 ≤ 4 then
        (ldI 706 w (o + 1) 559).bind fun v5 =>
        if v5 = 0 then
          some ((-4), w)
        else
          (fX6_isSeen w o a1).bind fun v7 =>
          if v7 = 0 then
            some ((-5), w)
          else
            (fX6_reckon w o).bind fun w9 =>
            if 2 ≤ a2 then
              if a2 = 2 then
                (fX6_knownOf w9 o a1).bind fun v15 =>
                some (v15, w9)
              else
                if a2 = 3 then
                  (fX6_frontPlace w9 o a1).bind fun v14 =>
                  some (v14, w9)
                else
                  (ldI 706 w9 (o + 1) (586 + a1)).bind fun v13 =>
                  some (v13 - 1, w9)
            else
              if a2 = 0 then
                (ldI 60 w9 (o + 5) a1).bind fun v18 =>
                some (v18, w9)
              else
                (fX6_high w9 o a1).bind fun v17 =>
                some (v17, w9)
      else
        some ((-2), w)
set_option maxRecDepth 4000 in
theorem eX6_seen {g : Gx} {E : Ex} (C : CC g E cX6_seen 3 RX6 4 91) (hR : RT g (some .int)) {o : Nat} (hO : shM E.2.2.2.2.2.1 o) (w : Wd) (a1 : Int32) (a2 : Int32) : YO g E 3 (QI g E) (fX6_seen w o a1 a2) w 0 [(0, .ref (E.2.2.2.2.1 + o)), (1, .int a1), (2, .int a2)] [] := by
  unfold fX6_seen
  refine y_iload_n (n := 1) C dX6_seen_0 1 rfl rfl ?_
  refine y_cp (n := 4) C (fun r hr H locs la hP hS hl => y_runS (st := []) C ky_X6_isDocument wd_795 ⟨Nat.le_of_ble_eq_true rfl, Nat.le_of_ble_eq_true rfl⟩ (mX6_isDocument w a1 g.2.1 r hr) rfl (Nat.le_of_ble_eq_true rfl) rfl dX6_seen_1 hP hS hl) rfl (fun v1 hv1 => ?_)
  refine y_if_ne (tgt := 9) (n := 7) C dX6_seen_4 (by decide) rfl (fun h2 => ?_) (fun h2 => ?_)
  · refine y_iload_n (n := 10) C dX6_seen_9 2 rfl rfl ?_
    refine y_if_lt (tgt := 18) (n := 13) C dX6_seen_10 (by decide) rfl (fun h3 => ?_) (fun h3 => ?_)
    · refine y_bipush (n := 20) C ((-2) : Int32) dX6_seen_18 (by decide) rfl ?_
      exact y_ri C hR dX6_seen_20
    · refine y_iload_n (n := 14) C dX6_seen_13 2 rfl rfl ?_
      refine y_iconst (n := 15) C (4 : Int32) dX6_seen_14 (by decide) rfl ?_
      refine y_icmp_le (tgt := 21) (n := 18) C dX6_seen_15 (by decide) rfl (fun h4 => ?_) (fun h4 => ?_)
      · refine y_aload_n (n := 22) C dX6_seen_21 0 rfl rfl ?_
        refine y_get (ci := 6) (f := 0) (n := 25) C in_X6 hO.1 rfl (by decide) wd_731 rfl rfl dX6_seen_22 rfl ?_
        refine y_sipush (n := 28) C (559 : Int32) dX6_seen_25 (by decide) rfl ?_
        refine y_iald (n := 29) C hO.2.1 dX6_seen_28 rfl (fun v5 hv5 => ?_)
        refine y_if_ne (tgt := 35) (n := 32) C dX6_seen_29 (by decide) rfl (fun h6 => ?_) (fun h6 => ?_)
        · refine y_aload_n (n := 36) C dX6_seen_35 0 rfl rfl ?_
          refine y_iload_n (n := 37) C dX6_seen_36 1 rfl rfl ?_
          refine y_cp (n := 40) C (fun r hr H locs la hP hS hl => y_runV (ci := 6) (st := []) C ky_X6_isSeen wd_913 ⟨Nat.le_of_ble_eq_true rfl, Nat.le_of_ble_eq_true rfl⟩ hO.1 rfl (mX6_isSeen hO w a1 g.2.1 r hr) rfl (Nat.le_of_ble_eq_true rfl) rfl dX6_seen_37 hP hS hl) rfl (fun v7 hv7 => ?_)
          refine y_if_ne (tgt := 46) (n := 43) C dX6_seen_40 (by decide) rfl (fun h8 => ?_) (fun h8 => ?_)
          · refine y_aload_n (n := 47) C dX6_seen_46 0 rfl rfl ?_
            refine y_cv (n := 50) C (fun r hr H locs la hP hS hl => y_runV (ci := 6) (st := []) C ky_X6_reckon wd_917 ⟨Nat.le_of_ble_eq_true rfl, Nat.le_of_ble_eq_true rfl⟩ hO.1 rfl (mX6_reckon hO w g.2.1 r hr) rfl (Nat.le_of_ble_eq_true rfl) rfl dX6_seen_47 hP hS hl) rfl (fun w9 hw9 => ?_)
            refine y_iload_n (n := 51) C dX6_seen_50 2 rfl rfl ?_
            refine y_iconst (n := 52) C (2 : Int32) dX6_seen_51 (by decide) rfl ?_
            refine y_icmp_ge (tgt := 74) (n := 55) C dX6_seen_52 (by decide) rfl (fun h10 => ?_) (fun h10 => ?_)
            · refine y_iload_n (n := 75) C dX6_seen_74 2 rfl rfl ?_
              refine y_iconst (n := 76) C (2 : Int32) dX6_seen_75 (by decide) rfl ?_
              refine y_icmp_ne (tgt := 85) (n := 79) C dX6_seen_76 (by decide) rfl (fun h11 => ?_) (fun h11 => ?_)
              · refine y_iload_n (n := 86) C dX6_seen_85 2 rfl rfl ?_
                refine y_iconst (n := 87) C (3 : Int32) dX6_seen_86 (by decide) rfl ?_
                refine y_icmp_ne (tgt := 98) (n := 90) C dX6_seen_87 (by decide) rfl (fun h12 => ?_) (fun h12 => ?_)
                · refine y_aload_n (n := 99) C dX6_seen_98 0 rfl rfl ?_
                  refine y_get (ci := 6) (f := 0) (n := 102) C in_X6 hO.1 rfl (by decide) wd_731 rfl rfl dX6_seen_99 rfl ?_
                  refine y_sipush (n := 105) C (586 : Int32) dX6_seen_102 (by decide) rfl ?_
                  refine y_iload_n (n := 106) C dX6_seen_105 1 rfl rfl ?_
                  refine y_iadd (n := 107) C dX6_seen_106 rfl ?_
                  refine y_iald (n := 108) C hO.2.1 dX6_seen_107 rfl (fun v13 hv13 => ?_)
                  refine y_iconst (n := 109) C (1 : Int32) dX6_seen_108 (by decide) rfl ?_
                  refine y_isub (n := 110) C dX6_seen_109 rfl ?_
                  exact y_ri C hR dX6_seen_110
                · refine y_aload_n (n := 91) C dX6_seen_90 0 rfl rfl ?_
                  refine y_iload_n (n := 92) C dX6_seen_91 1 rfl rfl ?_
                  refine y_cp (n := 95) C (fun r hr H locs la hP hS hl => y_runV (ci := 6) (st := []) C ky_X6_frontPlace wd_933 ⟨Nat.le_of_ble_eq_true rfl, Nat.le_of_ble_eq_true rfl⟩ hO.1 rfl (mX6_frontPlace hO w9 a1 g.2.1 r hr) rfl (Nat.le_of_ble_eq_true rfl) rfl dX6_seen_92 hP hS hl) rfl (fun v14 hv14 => ?_)
                  refine y_goto (tgt := 110) C dX6_seen_95 (by decide) ?_
                  exact y_ri C hR dX6_seen_110
              · refine y_aload_n (n := 80) C dX6_seen_79 0 rfl rfl ?_
                refine y_iload_n (n := 81) C dX6_seen_80 1 rfl rfl ?_
                refine y_cp (n := 84) C (fun r hr H locs la hP hS hl => y_runV (ci := 6) (st := []) C ky_X6_knownOf wd_989 ⟨Nat.le_of_ble_eq_true rfl, Nat.le_of_ble_eq_true rfl⟩ hO.1 rfl (mX6_knownOf hO w9 a1 g.2.1 r hr) rfl (Nat.le_of_ble_eq_true rfl) rfl dX6_seen_81 hP hS hl) rfl (fun v15 hv15 => ?_)
                exact y_ri C hR dX6_seen_84
            · refine y_iload_n (n := 56) C dX6_seen_55 2 rfl rfl ?_
              refine y_if_ne (tgt := 68) (n := 59) C dX6_seen_56 (by decide) rfl (fun h16 => ?_) (fun h16 => ?_)
              · refine y_aload_n (n := 69) C dX6_seen_68 0 rfl rfl ?_
                refine y_iload_n (n := 70) C dX6_seen_69 1 rfl rfl ?_
                refine y_cp (n := 73) C (fun r hr H locs la hP hS hl => y_runV (ci := 6) (st := []) C ky_X6_high wd_949 ⟨Nat.le_of_ble_eq_true rfl, Nat.le_of_ble_eq_true rfl⟩ hO.1 rfl (mX6_high hO w9 a1 g.2.1 r hr) rfl (Nat.le_of_ble_eq_true rfl) rfl dX6_seen_70 hP hS hl) rfl (fun v17 hv17 => ?_)
                exact y_ri C hR dX6_seen_73
              · refine y_aload_n (n := 60) C dX6_seen_59 0 rfl rfl ?_
                refine y_get (ci := 6) (f := 4) (n := 63) C in_X6 hO.1 rfl (by decide) wd_735 rfl rfl dX6_seen_60 rfl ?_
                refine y_iload_n (n := 64) C dX6_seen_63 1 rfl rfl ?_
                refine y_iald (n := 65) C hO.2.2.2.2.2.1 dX6_seen_64 rfl (fun v18 hv18 => ?_)
                refine y_goto (tgt := 73) C dX6_seen_65 (by decide) ?_
                exact y_ri C hR dX6_seen_73
          · refine y_bipush (n := 45) C ((-5) : Int32) dX6_seen_43 (by decide) rfl ?_
            exact y_ri C hR dX6_seen_45
        · refine y_bipush (n := 34) C ((-4) : Int32) dX6_seen_32 (by decide) rfl ?_
          exact y_ri C hR dX6_seen_34
      · refine y_bipush (n := 20) C ((-2) : Int32) dX6_seen_18 (by decide) rfl ?_
        exact y_ri C hR dX6_seen_20
  · refine y_iconst (n := 8) C ((-1) : Int32) dX6_seen_7 (by decide) rfl ?_
    exact y_ri C hR dX6_seen_8
theorem mX6_seen {E : Ex} {o : Nat} (hO : shM E.2.2.2.2.2.1 o) (w : Wd) (a1 : Int32) (a2 : Int32) (l : Launch) : MI l yX6_seen cX6_seen 3 (some .int) { frames := 4, cells := 0, slots := 0, locals := 91 } E [.ref (E.2.2.2.2.1 + o), .int a1, .int a2] w (fX6_seen w o a1 a2) :=
  y_met (Qc := yQi E) (by decide +kernel) (Nat.le_of_ble_eq_true rfl) (fun g C hR => eX6_seen C hR hO w a1 a2) l
def lX6_step_50 (o : Nat) : Nat → Wd → Int32 → Int32 → Option (Int32 × Wd)
  | 0, _, _, _ => none
  | n + 1, w, x1, x2 =>
    if x1 ≤ x2 then
      some (x2, w)
    else
      (ldI 706 w (o + 1) 562).bind fun v9 =>
      if v9 = 0 then
        (fX6_oneStep w o).bind fun w11 =>
        lX6_step_50 o n w11 x1 (x2 + 1)
      else
        some (x2, w)
set_option maxRecDepth 4000 in
theorem clX6_step_50 {g : Gx} {E : Ex} (C : CC g E cX6_step 3 RX6 6 139) (hR : RT g (some .int)) {o : Nat} (hO : shM E.2.2.2.2.2.1 o) : ∀ (n : Nat) (w : Wd) (x1 : Int32) (x2 : Int32), YO g E 3 (QI g E) (lX6_step_50 o n w x1 x2) w 50 [(0, .ref (E.2.2.2.2.1 + o)), (1, .int x1), (2, .int x2)] [] := by
  intro n
  induction n with
  | zero => intro w x1 x2; exact y_no
  | succ n ih =>
    intro w x1 x2
    rw [lX6_step_50]
    refine y_iload_n (n := 51) C dX6_step_50 2 rfl rfl ?_
    refine y_iload_n (n := 52) C dX6_step_51 1 rfl rfl ?_
    refine y_icmp_ge (tgt := 76) (n := 55) C dX6_step_52 (by decide) rfl (fun h8 => ?_) (fun h8 => ?_)
    · refine y_iload_n (n := 77) C dX6_step_76 2 rfl rfl ?_
      exact y_ri C hR dX6_step_77
    · refine y_aload_n (n := 56) C dX6_step_55 0 rfl rfl ?_
      refine y_get (ci := 6) (f := 0) (n := 59) C in_X6 hO.1 rfl (by decide) wd_731 rfl rfl dX6_step_56 rfl ?_
      refine y_sipush (n := 62) C (562 : Int32) dX6_step_59 (by decide) rfl ?_
      refine y_iald (n := 63) C hO.2.1 dX6_step_62 rfl (fun v9 hv9 => ?_)
      refine y_if_ne (tgt := 76) (n := 66) C dX6_step_63 (by decide) rfl (fun h10 => ?_) (fun h10 => ?_)
      · refine y_iload_n (n := 77) C dX6_step_76 2 rfl rfl ?_
        exact y_ri C hR dX6_step_77
      · refine y_aload_n (n := 67) C dX6_step_66 0 rfl rfl ?_
        refine y_cv (n := 70) C (fun r hr H locs la hP hS hl => y_runV (ci := 6) (st := []) C ky_X6_oneStep wd_957 ⟨Nat.le_of_ble_eq_true rfl, Nat.le_of_ble_eq_true rfl⟩ hO.1 rfl (mX6_oneStep hO w g.2.1 r hr) rfl (Nat.le_of_ble_eq_true rfl) rfl dX6_step_67 hP hS hl) rfl (fun w11 hw11 => ?_)
        refine y_iinc (n := 73) (v := x2 + 1) (ls' := [(2, .int (x2 + 1)), (0, .ref (E.2.2.2.2.1 + o)), (1, .int x1)]) C dX6_step_70 2 rfl rfl (by decide) rfl rfl ?_
        refine y_goto (tgt := 50) C dX6_step_73 (by decide) ?_
        refine y_ls [1, 2, 0] rfl ?_
        exact ih w11 x1 (x2 + 1)
def fX6_step (w : Wd) (o : Nat) (a1 : Int32) : Option (Int32 × Wd) :=
  if a1 < 1 then
    some ((-2), w)
  else
    if a1 ≤ 240 then
      (ldI 706 w (o + 1) 559).bind fun v3 =>
      if v3 = 0 then
        some ((-4), w)
      else
        (ldI 706 w (o + 1) 562).bind fun v5 =>
        if v5 = 1 then
          some ((-5), w)
        else
          (fX6_record w o).bind fun w7 =>
          lX6_step_50 o 4096 w7 a1 0
    else
      some ((-2), w)
set_option maxRecDepth 4000 in
theorem eX6_step {g : Gx} {E : Ex} (C : CC g E cX6_step 3 RX6 6 139) (hR : RT g (some .int)) {o : Nat} (hO : shM E.2.2.2.2.2.1 o) (w : Wd) (a1 : Int32) : YO g E 3 (QI g E) (fX6_step w o a1) w 0 [(0, .ref (E.2.2.2.2.1 + o)), (1, .int a1)] [] := by
  unfold fX6_step
  refine y_iload_n (n := 1) C dX6_step_0 1 rfl rfl ?_
  refine y_iconst (n := 2) C (1 : Int32) dX6_step_1 (by decide) rfl ?_
  refine y_icmp_lt (tgt := 12) (n := 5) C dX6_step_2 (by decide) rfl (fun h1 => ?_) (fun h1 => ?_)
  · refine y_bipush (n := 14) C ((-2) : Int32) dX6_step_12 (by decide) rfl ?_
    exact y_ri C hR dX6_step_14
  · refine y_iload_n (n := 6) C dX6_step_5 1 rfl rfl ?_
    refine y_sipush (n := 9) C (240 : Int32) dX6_step_6 (by decide) rfl ?_
    refine y_icmp_le (tgt := 15) (n := 12) C dX6_step_9 (by decide) rfl (fun h2 => ?_) (fun h2 => ?_)
    · refine y_aload_n (n := 16) C dX6_step_15 0 rfl rfl ?_
      refine y_get (ci := 6) (f := 0) (n := 19) C in_X6 hO.1 rfl (by decide) wd_731 rfl rfl dX6_step_16 rfl ?_
      refine y_sipush (n := 22) C (559 : Int32) dX6_step_19 (by decide) rfl ?_
      refine y_iald (n := 23) C hO.2.1 dX6_step_22 rfl (fun v3 hv3 => ?_)
      refine y_if_ne (tgt := 29) (n := 26) C dX6_step_23 (by decide) rfl (fun h4 => ?_) (fun h4 => ?_)
      · refine y_aload_n (n := 30) C dX6_step_29 0 rfl rfl ?_
        refine y_get (ci := 6) (f := 0) (n := 33) C in_X6 hO.1 rfl (by decide) wd_731 rfl rfl dX6_step_30 rfl ?_
        refine y_sipush (n := 36) C (562 : Int32) dX6_step_33 (by decide) rfl ?_
        refine y_iald (n := 37) C hO.2.1 dX6_step_36 rfl (fun v5 hv5 => ?_)
        refine y_iconst (n := 38) C (1 : Int32) dX6_step_37 (by decide) rfl ?_
        refine y_icmp_ne (tgt := 44) (n := 41) C dX6_step_38 (by decide) rfl (fun h6 => ?_) (fun h6 => ?_)
        · refine y_aload_n (n := 45) C dX6_step_44 0 rfl rfl ?_
          refine y_cv (n := 48) C (fun r hr H locs la hP hS hl => y_runV (ci := 6) (st := []) C ky_X6_record wd_784 ⟨Nat.le_of_ble_eq_true rfl, Nat.le_of_ble_eq_true rfl⟩ hO.1 rfl (mX6_record hO w g.2.1 r hr) rfl (Nat.le_of_ble_eq_true rfl) rfl dX6_step_45 hP hS hl) rfl (fun w7 hw7 => ?_)
          refine y_iconst (n := 49) C (0 : Int32) dX6_step_48 (by decide) rfl ?_
          refine y_istore_n (n := 50) (ls' := [(2, .int 0), (0, .ref (E.2.2.2.2.1 + o)), (1, .int a1)]) C dX6_step_49 (by decide) rfl rfl ?_
          refine y_ls [1, 2, 0] rfl ?_
          exact clX6_step_50 C hR hO 4096 w7 a1 0
        · refine y_bipush (n := 43) C ((-5) : Int32) dX6_step_41 (by decide) rfl ?_
          exact y_ri C hR dX6_step_43
      · refine y_bipush (n := 28) C ((-4) : Int32) dX6_step_26 (by decide) rfl ?_
        exact y_ri C hR dX6_step_28
    · refine y_bipush (n := 14) C ((-2) : Int32) dX6_step_12 (by decide) rfl ?_
      exact y_ri C hR dX6_step_14
theorem mX6_step {E : Ex} {o : Nat} (hO : shM E.2.2.2.2.2.1 o) (w : Wd) (a1 : Int32) (l : Launch) : MI l yX6_step cX6_step 3 (some .int) { frames := 6, cells := 0, slots := 0, locals := 139 } E [.ref (E.2.2.2.2.1 + o), .int a1] w (fX6_step w o a1) :=
  y_met (Qc := yQi E) (by decide +kernel) (Nat.le_of_ble_eq_true rfl) (fun g C hR => eX6_step C hR hO w a1) l
def fX6_told (w : Wd) (o : Nat) (a1 : Int32) : Option (Int32 × Wd) :=
  if 0 ≤ a1 then
    (ldI 706 w (o + 1) 559).bind fun v2 =>
    if v2 = 0 then
      some ((-4), w)
    else
      (fX6_reckon w o).bind fun w4 =>
      (fX6_toldMany w4 o).bind fun v5 =>
      if v5 ≤ a1 then
        some ((-5), w4)
      else
        (fX6_frontAt w4 o a1).bind fun v7 =>
        some (v7, w4)
  else
    some ((-2), w)
set_option maxRecDepth 4000 in
theorem eX6_told {g : Gx} {E : Ex} (C : CC g E cX6_told 2 RX6 4 91) (hR : RT g (some .int)) {o : Nat} (hO : shM E.2.2.2.2.2.1 o) (w : Wd) (a1 : Int32) : YO g E 2 (QI g E) (fX6_told w o a1) w 0 [(0, .ref (E.2.2.2.2.1 + o)), (1, .int a1)] [] := by
  unfold fX6_told
  refine y_iload_n (n := 1) C dX6_told_0 1 rfl rfl ?_
  refine y_if_ge (tgt := 7) (n := 4) C dX6_told_1 (by decide) rfl (fun h1 => ?_) (fun h1 => ?_)
  · refine y_aload_n (n := 8) C dX6_told_7 0 rfl rfl ?_
    refine y_get (ci := 6) (f := 0) (n := 11) C in_X6 hO.1 rfl (by decide) wd_731 rfl rfl dX6_told_8 rfl ?_
    refine y_sipush (n := 14) C (559 : Int32) dX6_told_11 (by decide) rfl ?_
    refine y_iald (n := 15) C hO.2.1 dX6_told_14 rfl (fun v2 hv2 => ?_)
    refine y_if_ne (tgt := 21) (n := 18) C dX6_told_15 (by decide) rfl (fun h3 => ?_) (fun h3 => ?_)
    · refine y_aload_n (n := 22) C dX6_told_21 0 rfl rfl ?_
      refine y_cv (n := 25) C (fun r hr H locs la hP hS hl => y_runV (ci := 6) (st := []) C ky_X6_reckon wd_917 ⟨Nat.le_of_ble_eq_true rfl, Nat.le_of_ble_eq_true rfl⟩ hO.1 rfl (mX6_reckon hO w g.2.1 r hr) rfl (Nat.le_of_ble_eq_true rfl) rfl dX6_told_22 hP hS hl) rfl (fun w4 hw4 => ?_)
      refine y_iload_n (n := 26) C dX6_told_25 1 rfl rfl ?_
      refine y_aload_n (n := 27) C dX6_told_26 0 rfl rfl ?_
      refine y_cp (n := 30) C (fun r hr H locs la hP hS hl => y_runV (ci := 6) (st := [.int a1]) C ky_X6_toldMany wd_977 ⟨Nat.le_of_ble_eq_true rfl, Nat.le_of_ble_eq_true rfl⟩ hO.1 rfl (mX6_toldMany hO w4 g.2.1 r hr) rfl (Nat.le_of_ble_eq_true rfl) rfl dX6_told_27 hP hS hl) rfl (fun v5 hv5 => ?_)
      refine y_icmp_ge (tgt := 41) (n := 33) C dX6_told_30 (by decide) rfl (fun h6 => ?_) (fun h6 => ?_)
      · refine y_bipush (n := 43) C ((-5) : Int32) dX6_told_41 (by decide) rfl ?_
        exact y_ri C hR dX6_told_43
      · refine y_aload_n (n := 34) C dX6_told_33 0 rfl rfl ?_
        refine y_iload_n (n := 35) C dX6_told_34 1 rfl rfl ?_
        refine y_cp (n := 38) C (fun r hr H locs la hP hS hl => y_runV (ci := 6) (st := []) C ky_X6_frontAt wd_929 ⟨Nat.le_of_ble_eq_true rfl, Nat.le_of_ble_eq_true rfl⟩ hO.1 rfl (mX6_frontAt hO w4 a1 g.2.1 r hr) rfl (Nat.le_of_ble_eq_true rfl) rfl dX6_told_35 hP hS hl) rfl (fun v7 hv7 => ?_)
        refine y_goto (tgt := 43) C dX6_told_38 (by decide) ?_
        exact y_ri C hR dX6_told_43
    · refine y_bipush (n := 20) C ((-4) : Int32) dX6_told_18 (by decide) rfl ?_
      exact y_ri C hR dX6_told_20
  · refine y_bipush (n := 6) C ((-2) : Int32) dX6_told_4 (by decide) rfl ?_
    exact y_ri C hR dX6_told_6
theorem mX6_told {E : Ex} {o : Nat} (hO : shM E.2.2.2.2.2.1 o) (w : Wd) (a1 : Int32) (l : Launch) : MI l yX6_told cX6_told 2 (some .int) { frames := 4, cells := 0, slots := 0, locals := 91 } E [.ref (E.2.2.2.2.1 + o), .int a1] w (fX6_told w o a1) :=
  y_met (Qc := yQi E) (by decide +kernel) (Nat.le_of_ble_eq_true rfl) (fun g C hR => eX6_told C hR hO w a1) l
def fX6_trial (w : Wd) (o : Nat) (a1 : Int32) (a2 : Int32) (a3 : Int32) : Option (Int32 × Wd) :=
  if a1 < 0 then
    some ((-2), w)
  else
    if 2 < a1 then
      some ((-2), w)
    else
      if a3 < 0 then
        some ((-2), w)
      else
        if a3 ≤ 3 then
          (fX6_asked w o).bind fun v5 =>
          if v5 = 0 then
            some ((-4), w)
          else
            ob2 (fX6_tried w o a1 a2 a3) fun v7 w8 =>
            some (v7, w8)
        else
          some ((-2), w)
set_option maxRecDepth 4000 in
theorem eX6_trial {g : Gx} {E : Ex} (C : CC g E cX6_trial 4 RX6 7 165) (hR : RT g (some .int)) {o : Nat} (hO : shM E.2.2.2.2.2.1 o) (w : Wd) (a1 : Int32) (a2 : Int32) (a3 : Int32) : YO g E 4 (QI g E) (fX6_trial w o a1 a2 a3) w 0 [(0, .ref (E.2.2.2.2.1 + o)), (1, .int a1), (2, .int a2), (3, .int a3)] [] := by
  unfold fX6_trial
  refine y_iload_n (n := 1) C dX6_trial_0 1 rfl rfl ?_
  refine y_if_lt (tgt := 18) (n := 4) C dX6_trial_1 (by decide) rfl (fun h1 => ?_) (fun h1 => ?_)
  · refine y_bipush (n := 20) C ((-2) : Int32) dX6_trial_18 (by decide) rfl ?_
    exact y_ri C hR dX6_trial_20
  · refine y_iload_n (n := 5) C dX6_trial_4 1 rfl rfl ?_
    refine y_iconst (n := 6) C (2 : Int32) dX6_trial_5 (by decide) rfl ?_
    refine y_icmp_gt (tgt := 18) (n := 9) C dX6_trial_6 (by decide) rfl (fun h2 => ?_) (fun h2 => ?_)
    · refine y_bipush (n := 20) C ((-2) : Int32) dX6_trial_18 (by decide) rfl ?_
      exact y_ri C hR dX6_trial_20
    · refine y_iload_n (n := 10) C dX6_trial_9 3 rfl rfl ?_
      refine y_if_lt (tgt := 18) (n := 13) C dX6_trial_10 (by decide) rfl (fun h3 => ?_) (fun h3 => ?_)
      · refine y_bipush (n := 20) C ((-2) : Int32) dX6_trial_18 (by decide) rfl ?_
        exact y_ri C hR dX6_trial_20
      · refine y_iload_n (n := 14) C dX6_trial_13 3 rfl rfl ?_
        refine y_iconst (n := 15) C (3 : Int32) dX6_trial_14 (by decide) rfl ?_
        refine y_icmp_le (tgt := 21) (n := 18) C dX6_trial_15 (by decide) rfl (fun h4 => ?_) (fun h4 => ?_)
        · refine y_aload_n (n := 22) C dX6_trial_21 0 rfl rfl ?_
          refine y_cp (n := 25) C (fun r hr H locs la hP hS hl => y_runV (ci := 6) (st := []) C ky_X6_asked wd_885 ⟨Nat.le_of_ble_eq_true rfl, Nat.le_of_ble_eq_true rfl⟩ hO.1 rfl (mX6_asked hO w g.2.1 r hr) rfl (Nat.le_of_ble_eq_true rfl) rfl dX6_trial_22 hP hS hl) rfl (fun v5 hv5 => ?_)
          refine y_if_ne (tgt := 33) (n := 28) C dX6_trial_25 (by decide) rfl (fun h6 => ?_) (fun h6 => ?_)
          · refine y_aload_n (n := 34) C dX6_trial_33 0 rfl rfl ?_
            refine y_iload_n (n := 35) C dX6_trial_34 1 rfl rfl ?_
            refine y_iload_n (n := 36) C dX6_trial_35 2 rfl rfl ?_
            refine y_iload_n (n := 37) C dX6_trial_36 3 rfl rfl ?_
            refine y_ci2 (n := 40) C (fun r hr H locs la hP hS hl => y_runV (ci := 6) (st := []) C ky_X6_tried wd_1021 ⟨Nat.le_of_ble_eq_true rfl, Nat.le_of_ble_eq_true rfl⟩ hO.1 rfl (mX6_tried hO w a1 a2 a3 g.2.1 r hr) rfl (Nat.le_of_ble_eq_true rfl) rfl dX6_trial_37 hP hS hl) rfl (fun v7 w8 hv7 => ?_)
            exact y_ri C hR dX6_trial_40
          · refine y_bipush (n := 30) C ((-4) : Int32) dX6_trial_28 (by decide) rfl ?_
            refine y_goto (tgt := 40) C dX6_trial_30 (by decide) ?_
            exact y_ri C hR dX6_trial_40
        · refine y_bipush (n := 20) C ((-2) : Int32) dX6_trial_18 (by decide) rfl ?_
          exact y_ri C hR dX6_trial_20
theorem mX6_trial {E : Ex} {o : Nat} (hO : shM E.2.2.2.2.2.1 o) (w : Wd) (a1 : Int32) (a2 : Int32) (a3 : Int32) (l : Launch) : MI l yX6_trial cX6_trial 4 (some .int) { frames := 7, cells := 0, slots := 0, locals := 165 } E [.ref (E.2.2.2.2.1 + o), .int a1, .int a2, .int a3] w (fX6_trial w o a1 a2 a3) :=
  y_met (Qc := yQi E) (by decide +kernel) (Nat.le_of_ble_eq_true rfl) (fun g C hR => eX6_trial C hR hO w a1 a2 a3) l
def fX6_type (w : Wd) (o : Nat) (a1 : Int32) : Option (Int32 × Wd) :=
  if (w.1 o 8) = 40 then
    some ((-3), w)
  else
    (stC 40 w (o + 6) (w.1 o 8) a1).bind fun w2 =>
    (pI w2 o 8 ((w2.1 o 8) + 1)).bind fun w3 =>
    some (w3.1 o 8, w3)
set_option maxRecDepth 4000 in
theorem eX6_type {g : Gx} {E : Ex} (C : CC g E cX6_type 2 RX6 0 0) (hR : RT g (some .int)) {o : Nat} (hO : shM E.2.2.2.2.2.1 o) (w : Wd) (a1 : Int32) : YO g E 2 (QI g E) (fX6_type w o a1) w 0 [(0, .ref (E.2.2.2.2.1 + o)), (1, .int a1)] [] := by
  unfold fX6_type
  refine y_aload_n (n := 1) C dX6_type_0 0 rfl rfl ?_
  refine y_get (ci := 6) (f := 8) (n := 4) C in_X6 hO.1 rfl (by decide) wd_739 rfl rfl dX6_type_1 rfl ?_
  refine y_bipush (n := 6) C (40 : Int32) dX6_type_4 (by decide) rfl ?_
  refine y_icmp_ne (tgt := 12) (n := 9) C dX6_type_6 (by decide) rfl (fun h1 => ?_) (fun h1 => ?_)
  · refine y_aload_n (n := 13) C dX6_type_12 0 rfl rfl ?_
    refine y_get (ci := 6) (f := 7) (n := 16) C in_X6 hO.1 rfl (by decide) wd_738 rfl rfl dX6_type_13 rfl ?_
    refine y_aload_n (n := 17) C dX6_type_16 0 rfl rfl ?_
    refine y_get (ci := 6) (f := 8) (n := 20) C in_X6 hO.1 rfl (by decide) wd_739 rfl rfl dX6_type_17 rfl ?_
    refine y_iload_n (n := 21) C dX6_type_20 1 rfl rfl ?_
    refine y_cast (n := 22) C hO.2.2.2.2.2.2.1 dX6_type_21 rfl (fun w2 hw2 => ?_)
    refine y_aload_n (n := 23) C dX6_type_22 0 rfl rfl ?_
    refine y_dup (n := 24) C dX6_type_23 rfl rfl ?_
    refine y_get (ci := 6) (f := 8) (n := 27) C in_X6 hO.1 rfl (by decide) wd_739 rfl rfl dX6_type_24 rfl ?_
    refine y_iconst (n := 28) C (1 : Int32) dX6_type_27 (by decide) rfl ?_
    refine y_iadd (n := 29) C dX6_type_28 rfl ?_
    refine y_putI (ci := 6) (f := 8) (n := 32) C in_X6 tyX6 tyX6_ok nmX6 hO.1 rfl (by decide) wd_739 rfl rfl (by decide +kernel) (Nat.le_of_ble_eq_true rfl) st_X6_8 dX6_type_29 rfl (fun w3 hw3 => ?_)
    refine y_aload_n (n := 33) C dX6_type_32 0 rfl rfl ?_
    refine y_get (ci := 6) (f := 8) (n := 36) C in_X6 hO.1 rfl (by decide) wd_739 rfl rfl dX6_type_33 rfl ?_
    exact y_ri C hR dX6_type_36
  · refine y_bipush (n := 11) C ((-3) : Int32) dX6_type_9 (by decide) rfl ?_
    exact y_ri C hR dX6_type_11
theorem mX6_type {E : Ex} {o : Nat} (hO : shM E.2.2.2.2.2.1 o) (w : Wd) (a1 : Int32) (l : Launch) : MI l yX6_type cX6_type 2 (some .int) { frames := 0, cells := 0, slots := 0, locals := 0 } E [.ref (E.2.2.2.2.1 + o), .int a1] w (fX6_type w o a1) :=
  y_met (Qc := yQi E) (by decide +kernel) (Nat.le_of_ble_eq_true rfl) (fun g C hR => eX6_type C hR hO w a1) l
def lX6_undo_22 (o : Nat) : Nat → Wd → Int32 → Option (Int32 × Wd)
  | 0, _, _ => none
  | n + 1, w, x1 =>
    if 706 ≤ x1 then
      some (w.1 o 5, w)
    else
      (ldI 2824 w (o + 2) (((w.1 o 5) * 706) + x1)).bind fun v4 =>
      (stI 706 w (o + 1) x1 v4).bind fun w5 =>
      lX6_undo_22 o n w5 (x1 + 1)
set_option maxRecDepth 4000 in
theorem clX6_undo_22 {g : Gx} {E : Ex} (C : CC g E cX6_undo 2 RX6 0 0) (hR : RT g (some .int)) {o : Nat} (hO : shM E.2.2.2.2.2.1 o) : ∀ (n : Nat) (w : Wd) (x1 : Int32), YO g E 2 (QI g E) (lX6_undo_22 o n w x1) w 22 [(0, .ref (E.2.2.2.2.1 + o)), (1, .int x1)] [] := by
  intro n
  induction n with
  | zero => intro w x1; exact y_no
  | succ n ih =>
    intro w x1
    rw [lX6_undo_22]
    refine y_iload_n (n := 23) C dX6_undo_22 1 rfl rfl ?_
    refine y_sipush (n := 26) C (706 : Int32) dX6_undo_23 (by decide) rfl ?_
    refine y_icmp_ge (tgt := 56) (n := 29) C dX6_undo_26 (by decide) rfl (fun h3 => ?_) (fun h3 => ?_)
    · refine y_aload_n (n := 57) C dX6_undo_56 0 rfl rfl ?_
      refine y_get (ci := 6) (f := 5) (n := 60) C in_X6 hO.1 rfl (by decide) wd_736 rfl rfl dX6_undo_57 rfl ?_
      exact y_ri C hR dX6_undo_60
    · refine y_aload_n (n := 30) C dX6_undo_29 0 rfl rfl ?_
      refine y_get (ci := 6) (f := 0) (n := 33) C in_X6 hO.1 rfl (by decide) wd_731 rfl rfl dX6_undo_30 rfl ?_
      refine y_iload_n (n := 34) C dX6_undo_33 1 rfl rfl ?_
      refine y_aload_n (n := 35) C dX6_undo_34 0 rfl rfl ?_
      refine y_get (ci := 6) (f := 1) (n := 38) C in_X6 hO.1 rfl (by decide) wd_732 rfl rfl dX6_undo_35 rfl ?_
      refine y_aload_n (n := 39) C dX6_undo_38 0 rfl rfl ?_
      refine y_get (ci := 6) (f := 5) (n := 42) C in_X6 hO.1 rfl (by decide) wd_736 rfl rfl dX6_undo_39 rfl ?_
      refine y_sipush (n := 45) C (706 : Int32) dX6_undo_42 (by decide) rfl ?_
      refine y_imul (n := 46) C dX6_undo_45 rfl ?_
      refine y_iload_n (n := 47) C dX6_undo_46 1 rfl rfl ?_
      refine y_iadd (n := 48) C dX6_undo_47 rfl ?_
      refine y_iald (n := 49) C hO.2.2.1 dX6_undo_48 rfl (fun v4 hv4 => ?_)
      refine y_iast (n := 50) C hO.2.1 dX6_undo_49 rfl (fun w5 hw5 => ?_)
      refine y_iinc (n := 53) (v := x1 + 1) (ls' := [(1, .int (x1 + 1)), (0, .ref (E.2.2.2.2.1 + o))]) C dX6_undo_50 1 rfl rfl (by decide) rfl rfl ?_
      refine y_goto (tgt := 22) C dX6_undo_53 (by decide) ?_
      refine y_ls [1, 0] rfl ?_
      exact ih w5 (x1 + 1)
def fX6_undo (w : Wd) (o : Nat)  : Option (Int32 × Wd) :=
  if (w.1 o 5) = 0 then
    some ((-5), w)
  else
    (pI w o 5 ((w.1 o 5) - 1)).bind fun w2 =>
    lX6_undo_22 o 4096 w2 0
set_option maxRecDepth 4000 in
theorem eX6_undo {g : Gx} {E : Ex} (C : CC g E cX6_undo 2 RX6 0 0) (hR : RT g (some .int)) {o : Nat} (hO : shM E.2.2.2.2.2.1 o) (w : Wd)  : YO g E 2 (QI g E) (fX6_undo w o) w 0 [(0, .ref (E.2.2.2.2.1 + o))] [] := by
  unfold fX6_undo
  refine y_aload_n (n := 1) C dX6_undo_0 0 rfl rfl ?_
  refine y_get (ci := 6) (f := 5) (n := 4) C in_X6 hO.1 rfl (by decide) wd_736 rfl rfl dX6_undo_1 rfl ?_
  refine y_if_ne (tgt := 10) (n := 7) C dX6_undo_4 (by decide) rfl (fun h1 => ?_) (fun h1 => ?_)
  · refine y_aload_n (n := 11) C dX6_undo_10 0 rfl rfl ?_
    refine y_dup (n := 12) C dX6_undo_11 rfl rfl ?_
    refine y_get (ci := 6) (f := 5) (n := 15) C in_X6 hO.1 rfl (by decide) wd_736 rfl rfl dX6_undo_12 rfl ?_
    refine y_iconst (n := 16) C (1 : Int32) dX6_undo_15 (by decide) rfl ?_
    refine y_isub (n := 17) C dX6_undo_16 rfl ?_
    refine y_putI (ci := 6) (f := 5) (n := 20) C in_X6 tyX6 tyX6_ok nmX6 hO.1 rfl (by decide) wd_736 rfl rfl (by decide +kernel) (Nat.le_of_ble_eq_true rfl) st_X6_5 dX6_undo_17 rfl (fun w2 hw2 => ?_)
    refine y_iconst (n := 21) C (0 : Int32) dX6_undo_20 (by decide) rfl ?_
    refine y_istore_n (n := 22) (ls' := [(1, .int 0), (0, .ref (E.2.2.2.2.1 + o))]) C dX6_undo_21 (by decide) rfl rfl ?_
    refine y_ls [1, 0] rfl ?_
    exact clX6_undo_22 C hR hO 4096 w2 0
  · refine y_bipush (n := 9) C ((-5) : Int32) dX6_undo_7 (by decide) rfl ?_
    exact y_ri C hR dX6_undo_9
theorem mX6_undo {E : Ex} {o : Nat} (hO : shM E.2.2.2.2.2.1 o) (w : Wd)  (l : Launch) : MI l yX6_undo cX6_undo 2 (some .int) { frames := 0, cells := 0, slots := 0, locals := 0 } E [.ref (E.2.2.2.2.1 + o)] w (fX6_undo w o) :=
  y_met (Qc := yQi E) (by decide +kernel) (Nat.le_of_ble_eq_true rfl) (fun g C hR => eX6_undo C hR hO w ) l
def lX6_wanted_12 (o : Nat) : Nat → Wd → Int32 → Int32 → Int32 → Option (Int32)
  | 0, _, _, _, _ => none
  | n + 1, w, x1, x2, x3 =>
    if 60 ≤ x3 then
      some x2
    else
      (fX6_wantedPlace w o x3).bind fun v3 =>
      if v3 = x1 then
        lX6_wanted_12 o n w x1 x3 (x3 + 1)
      else
        lX6_wanted_12 o n w x1 x2 (x3 + 1)
set_option maxRecDepth 4000 in
theorem clX6_wanted_12 {g : Gx} {E : Ex} (C : CC g E cX6_wanted 4 RX6 5 116) (hR : RT g (some .int)) {o : Nat} (hO : shM E.2.2.2.2.2.1 o) (w : Wd) : ∀ (n : Nat) (x1 : Int32) (x2 : Int32) (x3 : Int32), YO g E 4 (QP g E w) (lX6_wanted_12 o n w x1 x2 x3) w 12 [(0, .ref (E.2.2.2.2.1 + o)), (1, .int x1), (2, .int x2), (3, .int x3)] [] := by
  intro n
  induction n with
  | zero => intro x1 x2 x3; exact y_no
  | succ n ih =>
    intro x1 x2 x3
    rw [lX6_wanted_12]
    refine y_iload_n (n := 13) C dX6_wanted_12 3 rfl rfl ?_
    refine y_bipush (n := 15) C (60 : Int32) dX6_wanted_13 (by decide) rfl ?_
    refine y_icmp_ge (tgt := 39) (n := 18) C dX6_wanted_15 (by decide) rfl (fun h2 => ?_) (fun h2 => ?_)
    · refine y_iload_n (n := 40) C dX6_wanted_39 2 rfl rfl ?_
      exact y_rp C hR dX6_wanted_40
    · refine y_aload_n (n := 19) C dX6_wanted_18 0 rfl rfl ?_
      refine y_iload_n (n := 20) C dX6_wanted_19 3 rfl rfl ?_
      refine y_cp (n := 23) C (fun r hr H locs la hP hS hl => y_runV (ci := 6) (st := []) C ky_X6_wantedPlace wd_853 ⟨Nat.le_of_ble_eq_true rfl, Nat.le_of_ble_eq_true rfl⟩ hO.1 rfl (mX6_wantedPlace hO w x3 g.2.1 r hr) rfl (Nat.le_of_ble_eq_true rfl) rfl dX6_wanted_20 hP hS hl) rfl (fun v3 hv3 => ?_)
      refine y_iload_n (n := 24) C dX6_wanted_23 1 rfl rfl ?_
      refine y_icmp_ne (tgt := 31) (n := 27) C dX6_wanted_24 (by decide) rfl (fun h4 => ?_) (fun h4 => ?_)
      · refine y_iload_n (n := 32) C dX6_wanted_31 2 rfl rfl ?_
        refine y_istore_n (n := 33) (ls' := [(2, .int x2), (0, .ref (E.2.2.2.2.1 + o)), (1, .int x1), (3, .int x3)]) C dX6_wanted_32 (by decide) rfl rfl ?_
        refine y_iinc (n := 36) (v := x3 + 1) (ls' := [(3, .int (x3 + 1)), (2, .int x2), (0, .ref (E.2.2.2.2.1 + o)), (1, .int x1)]) C dX6_wanted_33 3 rfl rfl (by decide) rfl rfl ?_
        refine y_goto (tgt := 12) C dX6_wanted_36 (by decide) ?_
        refine y_ls [2, 3, 1, 0] rfl ?_
        exact ih x1 x2 (x3 + 1)
      · refine y_iload_n (n := 28) C dX6_wanted_27 3 rfl rfl ?_
        refine y_goto (tgt := 32) C dX6_wanted_28 (by decide) ?_
        refine y_istore_n (n := 33) (ls' := [(2, .int x3), (0, .ref (E.2.2.2.2.1 + o)), (1, .int x1), (3, .int x3)]) C dX6_wanted_32 (by decide) rfl rfl ?_
        refine y_iinc (n := 36) (v := x3 + 1) (ls' := [(3, .int (x3 + 1)), (2, .int x3), (0, .ref (E.2.2.2.2.1 + o)), (1, .int x1)]) C dX6_wanted_33 3 rfl rfl (by decide) rfl rfl ?_
        refine y_goto (tgt := 12) C dX6_wanted_36 (by decide) ?_
        refine y_ls [2, 3, 1, 0] rfl ?_
        exact ih x1 x3 (x3 + 1)
def fX6_wanted (w : Wd) (o : Nat) (a1 : Int32) : Option (Int32) :=
  if 0 ≤ a1 then
    lX6_wanted_12 o 4096 w a1 (-5) 0
  else
    some (-2)
set_option maxRecDepth 4000 in
theorem eX6_wanted {g : Gx} {E : Ex} (C : CC g E cX6_wanted 4 RX6 5 116) (hR : RT g (some .int)) {o : Nat} (hO : shM E.2.2.2.2.2.1 o) (w : Wd) (a1 : Int32) : YO g E 4 (QP g E w) (fX6_wanted w o a1) w 0 [(0, .ref (E.2.2.2.2.1 + o)), (1, .int a1)] [] := by
  unfold fX6_wanted
  refine y_iload_n (n := 1) C dX6_wanted_0 1 rfl rfl ?_
  refine y_if_ge (tgt := 7) (n := 4) C dX6_wanted_1 (by decide) rfl (fun h1 => ?_) (fun h1 => ?_)
  · refine y_bipush (n := 9) C ((-5) : Int32) dX6_wanted_7 (by decide) rfl ?_
    refine y_istore_n (n := 10) (ls' := [(2, .int (-5)), (0, .ref (E.2.2.2.2.1 + o)), (1, .int a1)]) C dX6_wanted_9 (by decide) rfl rfl ?_
    refine y_iconst (n := 11) C (0 : Int32) dX6_wanted_10 (by decide) rfl ?_
    refine y_istore_n (n := 12) (ls' := [(3, .int 0), (2, .int (-5)), (0, .ref (E.2.2.2.2.1 + o)), (1, .int a1)]) C dX6_wanted_11 (by decide) rfl rfl ?_
    refine y_ls [2, 3, 1, 0] rfl ?_
    exact clX6_wanted_12 C hR hO w 4096 a1 (-5) 0
  · refine y_bipush (n := 6) C ((-2) : Int32) dX6_wanted_4 (by decide) rfl ?_
    exact y_rp C hR dX6_wanted_6
theorem mX6_wanted {E : Ex} {o : Nat} (hO : shM E.2.2.2.2.2.1 o) (w : Wd) (a1 : Int32) (l : Launch) : MP l yX6_wanted cX6_wanted 4 (some .int) { frames := 5, cells := 0, slots := 0, locals := 116 } E [.ref (E.2.2.2.2.1 + o), .int a1] w (fX6_wanted w o a1) :=
  y_met (Qc := fun r => yQi E (r, w)) (by decide +kernel) (Nat.le_of_ble_eq_true rfl) (fun g C hR => eX6_wanted C hR hO w a1) l
