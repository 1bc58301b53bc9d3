/-! L_areWanted L_bits L_cell L_isInOrder -/
def bL_areWanted_128 (K11 : Wd → Int32 → Int32 → Int32 → Option (Int32)) (K24 : Wd → Int32 → Int32 → Int32 → Int32 → Int32 → Option (Int32)) (w : Wd) (o1 k2 q2 : Nat) (x2 : Int32) (x3 : Int32) (x4 : Int32) (x5 : Int32) (x6 : Int32) (s0 : Int32) (s1 : Int32) : Option (Int32) :=
  if s1 = s0 then
    if x6 = 0 then
      K11 w x2 x3 (x4 + 1)
    else
      (fX5_wanted w o1 x5).bind fun v17 =>
      if v17 = x4 then
        K11 w x2 x3 (x4 + 1)
      else
        rtZ 0
  else
    rtZ 0
set_option maxRecDepth 4000 in
theorem cbL_areWanted_128 {g : Gx} {E : Ex} (C : CC g E cL_areWanted 7 RL 7 155) (hR : RT g (some .boolean)) {o1 k2 q2 : Nat} (hO1 : shB E.2.2.2.2.2.1 o1) (hk2 : E.2.2.2.2.2.1[k2]? = some (0, q2)) (w : Wd) (K11 : Wd → Int32 → Int32 → Int32 → Option (Int32)) (hK11 : ∀ (x2 : Int32) (x3 : Int32) (x4 : Int32), YO g E 7 (QP g E w) (K11 w x2 x3 x4) w 11 [(0, .ref (E.2.2.2.2.1 + o1)), (1, .ref (E.2.2.2.2.1 + k2)), (2, .int x2), (3, .int x3), (4, .int x4)] []) (K24 : Wd → Int32 → Int32 → Int32 → Int32 → Int32 → Option (Int32)) (hK24 : ∀ (x2 : Int32) (x3 : Int32) (x4 : Int32) (x5 : Int32) (x6 : Int32), YO g E 7 (QP g E w) (K24 w x2 x3 x4 x5 x6) w 24 [(0, .ref (E.2.2.2.2.1 + o1)), (1, .ref (E.2.2.2.2.1 + k2)), (2, .int x2), (3, .int x3), (4, .int x4), (5, .int x5), (6, .int x6)] []) (x2 : Int32) (x3 : Int32) (x4 : Int32) (x5 : Int32) (x6 : Int32) (s0 : Int32) (s1 : Int32) : YO g E 7 (QP g E w) (bL_areWanted_128 K11 K24 w o1 k2 q2 x2 x3 x4 x5 x6 s0 s1) w 128 [(0, .ref (E.2.2.2.2.1 + o1)), (1, .ref (E.2.2.2.2.1 + k2)), (2, .int x2), (3, .int x3), (4, .int x4), (5, .int x5), (6, .int x6)] [.int s0, .int s1] := by
  unfold bL_areWanted_128
  refine y_icmp_ne (tgt := 147) (n := 131) C dL_areWanted_128 (by decide) rfl (fun h15 => ?_) (fun h15 => ?_)
  · refine y_iconst (n := 148) C (0 : Int32) dL_areWanted_147 (by decide) rfl ?_
    exact y_rz C hR dL_areWanted_148
  · refine y_iload (n := 133) C dL_areWanted_131 6 rfl rfl ?_
    refine y_if_eq (tgt := 149) (n := 136) C dL_areWanted_133 (by decide) rfl (fun h16 => ?_) (fun h16 => ?_)
    · refine y_iinc (n := 152) (v := x4 + 1) (ls' := [(4, .int (x4 + 1)), (0, .ref (E.2.2.2.2.1 + o1)), (1, .ref (E.2.2.2.2.1 + k2)), (2, .int x2), (3, .int x3), (5, .int x5), (6, .int x6)]) C dL_areWanted_149 4 rfl rfl (by decide) rfl rfl ?_
      refine y_goto (tgt := 11) C dL_areWanted_152 (by decide) ?_
      refine y_ls [1, 2, 3, 4, 0] rfl ?_
      exact hK11 x2 x3 (x4 + 1)
    · refine y_aload_n (n := 137) C dL_areWanted_136 0 rfl rfl ?_
      refine y_iload (n := 139) C dL_areWanted_137 5 rfl rfl ?_
      refine y_cp (n := 142) C (fun r hr H locs la hP hS hl => y_runV (ci := 5) (st := []) C ky_X5_wanted wd_525 ⟨Nat.le_of_ble_eq_true rfl, Nat.le_of_ble_eq_true rfl⟩ hO1.1 rfl (mX5_wanted hO1 w x5 g.2.1 r hr) rfl (Nat.le_of_ble_eq_true rfl) rfl dL_areWanted_139 hP hS hl) rfl (fun v17 hv17 => ?_)
      refine y_iload (n := 144) C dL_areWanted_142 4 rfl rfl ?_
      refine y_icmp_eq (tgt := 149) (n := 147) C dL_areWanted_144 (by decide) rfl (fun h18 => ?_) (fun h18 => ?_)
      · refine y_iinc (n := 152) (v := x4 + 1) (ls' := [(4, .int (x4 + 1)), (0, .ref (E.2.2.2.2.1 + o1)), (1, .ref (E.2.2.2.2.1 + k2)), (2, .int x2), (3, .int x3), (5, .int x5), (6, .int x6)]) C dL_areWanted_149 4 rfl rfl (by decide) rfl rfl ?_
        refine y_goto (tgt := 11) C dL_areWanted_152 (by decide) ?_
        refine y_ls [1, 2, 3, 4, 0] rfl ?_
        exact hK11 x2 x3 (x4 + 1)
      · refine y_iconst (n := 148) C (0 : Int32) dL_areWanted_147 (by decide) rfl ?_
        exact y_rz C hR dL_areWanted_148
def bL_areWanted_107 (K11 : Wd → Int32 → Int32 → Int32 → Option (Int32)) (K24 : Wd → Int32 → Int32 → Int32 → Int32 → Int32 → Option (Int32)) (w : Wd) (o1 k2 q2 : Nat) (x2 : Int32) (x4 : Int32) (x5 : Int32) (x6 : Int32) (s0 : Int32) (s1 : Int32) : Option (Int32) :=
  (fX5_document w o1 x4 3).bind fun v13 =>
  if x6 = 0 then
    bL_areWanted_128 K11 K24 w o1 k2 q2 x2 (s1 + s0) x4 x5 x6 (-5) v13
  else
    bL_areWanted_128 K11 K24 w o1 k2 q2 x2 (s1 + s0) x4 x5 x6 x5 v13
set_option maxRecDepth 4000 in
theorem cbL_areWanted_107 {g : Gx} {E : Ex} (C : CC g E cL_areWanted 7 RL 7 155) (hR : RT g (some .boolean)) {o1 k2 q2 : Nat} (hO1 : shB E.2.2.2.2.2.1 o1) (hk2 : E.2.2.2.2.2.1[k2]? = some (0, q2)) (w : Wd) (K11 : Wd → Int32 → Int32 → Int32 → Option (Int32)) (hK11 : ∀ (x2 : Int32) (x3 : Int32) (x4 : Int32), YO g E 7 (QP g E w) (K11 w x2 x3 x4) w 11 [(0, .ref (E.2.2.2.2.1 + o1)), (1, .ref (E.2.2.2.2.1 + k2)), (2, .int x2), (3, .int x3), (4, .int x4)] []) (K24 : Wd → Int32 → Int32 → Int32 → Int32 → Int32 → Option (Int32)) (hK24 : ∀ (x2 : Int32) (x3 : Int32) (x4 : Int32) (x5 : Int32) (x6 : Int32), YO g E 7 (QP g E w) (K24 w x2 x3 x4 x5 x6) w 24 [(0, .ref (E.2.2.2.2.1 + o1)), (1, .ref (E.2.2.2.2.1 + k2)), (2, .int x2), (3, .int x3), (4, .int x4), (5, .int x5), (6, .int x6)] []) (x2 : Int32) (x4 : Int32) (x5 : Int32) (x6 : Int32) (s0 : Int32) (s1 : Int32) : YO g E 7 (QP g E w) (bL_areWanted_107 K11 K24 w o1 k2 q2 x2 x4 x5 x6 s0 s1) w 107 [(0, .ref (E.2.2.2.2.1 + o1)), (1, .ref (E.2.2.2.2.1 + k2)), (2, .int x2), (4, .int x4), (5, .int x5), (6, .int x6)] [.int s0, .int s1] := by
  unfold bL_areWanted_107
  refine y_iadd (n := 108) C dL_areWanted_107 rfl ?_
  refine y_istore_n (n := 109) (ls' := [(3, .int (s1 + s0)), (0, .ref (E.2.2.2.2.1 + o1)), (1, .ref (E.2.2.2.2.1 + k2)), (2, .int x2), (4, .int x4), (5, .int x5), (6, .int x6)]) C dL_areWanted_108 (by decide) rfl rfl ?_
  refine y_aload_n (n := 110) C dL_areWanted_109 1 rfl rfl ?_
  refine y_iload (n := 112) C dL_areWanted_110 4 rfl rfl ?_
  refine y_iconst (n := 113) C (3 : Int32) dL_areWanted_112 (by decide) rfl ?_
  refine y_cp (n := 116) C (fun r hr H locs la hP hS hl => y_runV (ci := 5) (st := []) C ky_X5_document wd_361 ⟨Nat.le_of_ble_eq_true rfl, Nat.le_of_ble_eq_true rfl⟩ hO1.1 rfl (mX5_document hO1 w x4 3 g.2.1 r hr) rfl (Nat.le_of_ble_eq_true rfl) rfl dL_areWanted_113 hP hS hl) rfl (fun v13 hv13 => ?_)
  refine y_iload (n := 118) C dL_areWanted_116 6 rfl rfl ?_
  refine y_if_eq (tgt := 126) (n := 121) C dL_areWanted_118 (by decide) rfl (fun h14 => ?_) (fun h14 => ?_)
  · refine y_bipush (n := 128) C ((-5) : Int32) dL_areWanted_126 (by decide) rfl ?_
    refine y_ls [1, 2, 3, 0, 4, 5, 6] rfl ?_
    exact cbL_areWanted_128 C hR hO1 hk2 w K11 hK11 K24 hK24 x2 (s1 + s0) x4 x5 x6 (-5) v13
  · refine y_iload (n := 123) C dL_areWanted_121 5 rfl rfl ?_
    refine y_goto (tgt := 128) C dL_areWanted_123 (by decide) ?_
    refine y_ls [1, 2, 3, 0, 4, 5, 6] rfl ?_
    exact cbL_areWanted_128 C hR hO1 hk2 w K11 hK11 K24 hK24 x2 (s1 + s0) x4 x5 x6 x5 v13
def bL_areWanted_94 (K11 : Wd → Int32 → Int32 → Int32 → Option (Int32)) (K24 : Wd → Int32 → Int32 → Int32 → Int32 → Int32 → Option (Int32)) (w : Wd) (o1 k2 q2 : Nat) (x2 : Int32) (x3 : Int32) (x4 : Int32) (x5 : Int32) (s0 : Int32) : Option (Int32) :=
  if s0 = 0 then
    bL_areWanted_107 K11 K24 w o1 k2 q2 x2 x4 x5 s0 0 x3
  else
    bL_areWanted_107 K11 K24 w o1 k2 q2 x2 x4 x5 s0 1 x3
set_option maxRecDepth 4000 in
theorem cbL_areWanted_94 {g : Gx} {E : Ex} (C : CC g E cL_areWanted 7 RL 7 155) (hR : RT g (some .boolean)) {o1 k2 q2 : Nat} (hO1 : shB E.2.2.2.2.2.1 o1) (hk2 : E.2.2.2.2.2.1[k2]? = some (0, q2)) (w : Wd) (K11 : Wd → Int32 → Int32 → Int32 → Option (Int32)) (hK11 : ∀ (x2 : Int32) (x3 : Int32) (x4 : Int32), YO g E 7 (QP g E w) (K11 w x2 x3 x4) w 11 [(0, .ref (E.2.2.2.2.1 + o1)), (1, .ref (E.2.2.2.2.1 + k2)), (2, .int x2), (3, .int x3), (4, .int x4)] []) (K24 : Wd → Int32 → Int32 → Int32 → Int32 → Int32 → Option (Int32)) (hK24 : ∀ (x2 : Int32) (x3 : Int32) (x4 : Int32) (x5 : Int32) (x6 : Int32), YO g E 7 (QP g E w) (K24 w x2 x3 x4 x5 x6) w 24 [(0, .ref (E.2.2.2.2.1 + o1)), (1, .ref (E.2.2.2.2.1 + k2)), (2, .int x2), (3, .int x3), (4, .int x4), (5, .int x5), (6, .int x6)] []) (x2 : Int32) (x3 : Int32) (x4 : Int32) (x5 : Int32) (s0 : Int32) : YO g E 7 (QP g E w) (bL_areWanted_94 K11 K24 w o1 k2 q2 x2 x3 x4 x5 s0) w 94 [(0, .ref (E.2.2.2.2.1 + o1)), (1, .ref (E.2.2.2.2.1 + k2)), (2, .int x2), (3, .int x3), (4, .int x4), (5, .int x5)] [.int s0] := by
  unfold bL_areWanted_94
  refine y_istore (n := 96) (ls' := [(6, .int s0), (0, .ref (E.2.2.2.2.1 + o1)), (1, .ref (E.2.2.2.2.1 + k2)), (2, .int x2), (3, .int x3), (4, .int x4), (5, .int x5)]) C dL_areWanted_94 (by decide) rfl rfl ?_
  refine y_iload_n (n := 97) C dL_areWanted_96 4 rfl rfl ?_
  refine y_iload (n := 99) C dL_areWanted_97 0 rfl rfl ?_
  refine y_if_eq (tgt := 106) (n := 102) C dL_areWanted_99 (by decide) rfl (fun h12 => ?_) (fun h12 => ?_)
  · refine y_iconst (n := 107) C (0 : Int32) dL_areWanted_106 (by decide) rfl ?_
    refine y_ls [1, 2, 3, 5, 6, 0] rfl ?_
    exact cbL_areWanted_107 C hR hO1 hk2 w K11 hK11 K24 hK24 x2 x4 x5 s0 0 x3
  · refine y_iconst (n := 103) C (1 : Int32) dL_areWanted_102 (by decide) rfl ?_
    refine y_goto (tgt := 107) C dL_areWanted_103 (by decide) ?_
    refine y_ls [1, 2, 3, 5, 6, 0] rfl ?_
    exact cbL_areWanted_107 C hR hO1 hk2 w K11 hK11 K24 hK24 x2 x4 x5 s0 1 x3
def bL_areWanted_93 (K11 : Wd → Int32 → Int32 → Int32 → Option (Int32)) (K24 : Wd → Int32 → Int32 → Int32 → Int32 → Int32 → Option (Int32)) (w : Wd) (o1 k2 q2 : Nat) (x2 : Int32) (x3 : Int32) (x4 : Int32) (x5 : Int32) : Option (Int32) :=
  bL_areWanted_94 K11 K24 w o1 k2 q2 x2 x3 x4 x5 0
set_option maxRecDepth 4000 in
theorem cbL_areWanted_93 {g : Gx} {E : Ex} (C : CC g E cL_areWanted 7 RL 7 155) (hR : RT g (some .boolean)) {o1 k2 q2 : Nat} (hO1 : shB E.2.2.2.2.2.1 o1) (hk2 : E.2.2.2.2.2.1[k2]? = some (0, q2)) (w : Wd) (K11 : Wd → Int32 → Int32 → Int32 → Option (Int32)) (hK11 : ∀ (x2 : Int32) (x3 : Int32) (x4 : Int32), YO g E 7 (QP g E w) (K11 w x2 x3 x4) w 11 [(0, .ref (E.2.2.2.2.1 + o1)), (1, .ref (E.2.2.2.2.1 + k2)), (2, .int x2), (3, .int x3), (4, .int x4)] []) (K24 : Wd → Int32 → Int32 → Int32 → Int32 → Int32 → Option (Int32)) (hK24 : ∀ (x2 : Int32) (x3 : Int32) (x4 : Int32) (x5 : Int32) (x6 : Int32), YO g E 7 (QP g E w) (K24 w x2 x3 x4 x5 x6) w 24 [(0, .ref (E.2.2.2.2.1 + o1)), (1, .ref (E.2.2.2.2.1 + k2)), (2, .int x2), (3, .int x3), (4, .int x4), (5, .int x5), (6, .int x6)] []) (x2 : Int32) (x3 : Int32) (x4 : Int32) (x5 : Int32) : YO g E 7 (QP g E w) (bL_areWanted_93 K11 K24 w o1 k2 q2 x2 x3 x4 x5) w 93 [(0, .ref (E.2.2.2.2.1 + o1)), (1, .ref (E.2.2.2.2.1 + k2)), (2, .int x2), (3, .int x3), (4, .int x4), (5, .int x5)] [] := by
  unfold bL_areWanted_93
  refine y_iconst (n := 94) C (0 : Int32) dL_areWanted_93 (by decide) rfl ?_
  exact cbL_areWanted_94 C hR hO1 hk2 w K11 hK11 K24 hK24 x2 x3 x4 x5 0
def bL_areWanted_67 (K11 : Wd → Int32 → Int32 → Int32 → Option (Int32)) (K24 : Wd → Int32 → Int32 → Int32 → Int32 → Int32 → Option (Int32)) (w : Wd) (o1 k2 q2 : Nat) (x2 : Int32) (x3 : Int32) (x4 : Int32) (x6 : Int32) (s0 : Int32) (s1 : Int32) : Option (Int32) :=
  K24 w x2 x3 x4 (s1 + s0) (x6 + 1)
set_option maxRecDepth 4000 in
theorem cbL_areWanted_67 {g : Gx} {E : Ex} (C : CC g E cL_areWanted 7 RL 7 155) (hR : RT g (some .boolean)) {o1 k2 q2 : Nat} (hO1 : shB E.2.2.2.2.2.1 o1) (hk2 : E.2.2.2.2.2.1[k2]? = some (0, q2)) (w : Wd) (K11 : Wd → Int32 → Int32 → Int32 → Option (Int32)) (hK11 : ∀ (x2 : Int32) (x3 : Int32) (x4 : Int32), YO g E 7 (QP g E w) (K11 w x2 x3 x4) w 11 [(0, .ref (E.2.2.2.2.1 + o1)), (1, .ref (E.2.2.2.2.1 + k2)), (2, .int x2), (3, .int x3), (4, .int x4)] []) (K24 : Wd → Int32 → Int32 → Int32 → Int32 → Int32 → Option (Int32)) (hK24 : ∀ (x2 : Int32) (x3 : Int32) (x4 : Int32) (x5 : Int32) (x6 : Int32), YO g E 7 (QP g E w) (K24 w x2 x3 x4 x5 x6) w 24 [(0, .ref (E.2.2.2.2.1 + o1)), (1, .ref (E.2.2.2.2.1 + k2)), (2, .int x2), (3, .int x3), (4, .int x4), (5, .int x5), (6, .int x6)] []) (x2 : Int32) (x3 : Int32) (x4 : Int32) (x6 : Int32) (s0 : Int32) (s1 : Int32) : YO g E 7 (QP g E w) (bL_areWanted_67 K11 K24 w o1 k2 q2 x2 x3 x4 x6 s0 s1) w 67 [(0, .ref (E.2.2.2.2.1 + o1)), (1, .ref (E.2.2.2.2.1 + k2)), (2, .int x2), (3, .int x3), (4, .int x4), (6, .int x6)] [.int s0, .int s1] := by
  unfold bL_areWanted_67
  refine y_iadd (n := 68) C dL_areWanted_67 rfl ?_
  refine y_istore (n := 70) (ls' := [(5, .int (s1 + s0)), (0, .ref (E.2.2.2.2.1 + o1)), (1, .ref (E.2.2.2.2.1 + k2)), (2, .int x2), (3, .int x3), (4, .int x4), (6, .int x6)]) C dL_areWanted_68 (by decide) rfl rfl ?_
  refine y_iinc (n := 73) (v := x6 + 1) (ls' := [(6, .int (x6 + 1)), (5, .int (s1 + s0)), (0, .ref (E.2.2.2.2.1 + o1)), (1, .ref (E.2.2.2.2.1 + k2)), (2, .int x2), (3, .int x3), (4, .int x4)]) C dL_areWanted_70 6 rfl rfl (by decide) rfl rfl ?_
  refine y_goto (tgt := 24) C dL_areWanted_73 (by decide) ?_
  refine y_ls [2, 3, 4, 5, 6, 1, 0] rfl ?_
  exact hK24 x2 x3 x4 (s1 + s0) (x6 + 1)
def bL_areWanted_62 (K11 : Wd → Int32 → Int32 → Int32 → Option (Int32)) (K24 : Wd → Int32 → Int32 → Int32 → Int32 → Int32 → Option (Int32)) (w : Wd) (o1 k2 q2 : Nat) (x2 : Int32) (x3 : Int32) (x4 : Int32) (x6 : Int32) (s0 : Int32) : Option (Int32) :=
  bL_areWanted_67 K11 K24 w o1 k2 q2 x2 x3 x4 x6 1 s0
set_option maxRecDepth 4000 in
theorem cbL_areWanted_62 {g : Gx} {E : Ex} (C : CC g E cL_areWanted 7 RL 7 155) (hR : RT g (some .boolean)) {o1 k2 q2 : Nat} (hO1 : shB E.2.2.2.2.2.1 o1) (hk2 : E.2.2.2.2.2.1[k2]? = some (0, q2)) (w : Wd) (K11 : Wd → Int32 → Int32 → Int32 → Option (Int32)) (hK11 : ∀ (x2 : Int32) (x3 : Int32) (x4 : Int32), YO g E 7 (QP g E w) (K11 w x2 x3 x4) w 11 [(0, .ref (E.2.2.2.2.1 + o1)), (1, .ref (E.2.2.2.2.1 + k2)), (2, .int x2), (3, .int x3), (4, .int x4)] []) (K24 : Wd → Int32 → Int32 → Int32 → Int32 → Int32 → Option (Int32)) (hK24 : ∀ (x2 : Int32) (x3 : Int32) (x4 : Int32) (x5 : Int32) (x6 : Int32), YO g E 7 (QP g E w) (K24 w x2 x3 x4 x5 x6) w 24 [(0, .ref (E.2.2.2.2.1 + o1)), (1, .ref (E.2.2.2.2.1 + k2)), (2, .int x2), (3, .int x3), (4, .int x4), (5, .int x5), (6, .int x6)] []) (x2 : Int32) (x3 : Int32) (x4 : Int32) (x6 : Int32) (s0 : Int32) : YO g E 7 (QP g E w) (bL_areWanted_62 K11 K24 w o1 k2 q2 x2 x3 x4 x6 s0) w 62 [(0, .ref (E.2.2.2.2.1 + o1)), (1, .ref (E.2.2.2.2.1 + k2)), (2, .int x2), (3, .int x3), (4, .int x4), (6, .int x6)] [.int s0] := by
  unfold bL_areWanted_62
  refine y_iconst (n := 63) C (1 : Int32) dL_areWanted_62 (by decide) rfl ?_
  refine y_goto (tgt := 67) C dL_areWanted_63 (by decide) ?_
  exact cbL_areWanted_67 C hR hO1 hk2 w K11 hK11 K24 hK24 x2 x3 x4 x6 1 s0
def bL_areWanted_66 (K11 : Wd → Int32 → Int32 → Int32 → Option (Int32)) (K24 : Wd → Int32 → Int32 → Int32 → Int32 → Int32 → Option (Int32)) (w : Wd) (o1 k2 q2 : Nat) (x2 : Int32) (x3 : Int32) (x4 : Int32) (x6 : Int32) (s0 : Int32) : Option (Int32) :=
  bL_areWanted_67 K11 K24 w o1 k2 q2 x2 x3 x4 x6 0 s0
set_option maxRecDepth 4000 in
theorem cbL_areWanted_66 {g : Gx} {E : Ex} (C : CC g E cL_areWanted 7 RL 7 155) (hR : RT g (some .boolean)) {o1 k2 q2 : Nat} (hO1 : shB E.2.2.2.2.2.1 o1) (hk2 : E.2.2.2.2.2.1[k2]? = some (0, q2)) (w : Wd) (K11 : Wd → Int32 → Int32 → Int32 → Option (Int32)) (hK11 : ∀ (x2 : Int32) (x3 : Int32) (x4 : Int32), YO g E 7 (QP g E w) (K11 w x2 x3 x4) w 11 [(0, .ref (E.2.2.2.2.1 + o1)), (1, .ref (E.2.2.2.2.1 + k2)), (2, .int x2), (3, .int x3), (4, .int x4)] []) (K24 : Wd → Int32 → Int32 → Int32 → Int32 → Int32 → Option (Int32)) (hK24 : ∀ (x2 : Int32) (x3 : Int32) (x4 : Int32) (x5 : Int32) (x6 : Int32), YO g E 7 (QP g E w) (K24 w x2 x3 x4 x5 x6) w 24 [(0, .ref (E.2.2.2.2.1 + o1)), (1, .ref (E.2.2.2.2.1 + k2)), (2, .int x2), (3, .int x3), (4, .int x4), (5, .int x5), (6, .int x6)] []) (x2 : Int32) (x3 : Int32) (x4 : Int32) (x6 : Int32) (s0 : Int32) : YO g E 7 (QP g E w) (bL_areWanted_66 K11 K24 w o1 k2 q2 x2 x3 x4 x6 s0) w 66 [(0, .ref (E.2.2.2.2.1 + o1)), (1, .ref (E.2.2.2.2.1 + k2)), (2, .int x2), (3, .int x3), (4, .int x4), (6, .int x6)] [.int s0] := by
  unfold bL_areWanted_66
  refine y_iconst (n := 67) C (0 : Int32) dL_areWanted_66 (by decide) rfl ?_
  exact cbL_areWanted_67 C hR hO1 hk2 w K11 hK11 K24 hK24 x2 x3 x4 x6 0 s0
def lL_areWanted_24 (o1 k2 q2 : Nat) (K11 : Wd → Int32 → Int32 → Int32 → Option (Int32)) : Nat → Wd → Int32 → Int32 → Int32 → Int32 → Int32 → Option (Int32)
  | 0, _, _, _, _, _, _ => none
  | n + 1, w, x2, x3, x4, x5, x6 =>
    if 12 ≤ x6 then
      (ldI q2 w k2 x4).bind fun v10 =>
      if v10 ≤ 0 then
        bL_areWanted_93 K11 (fun w z0 z1 z2 z3 z4 => lL_areWanted_24 o1 k2 q2 K11 n w z0 z1 z2 z3 z4) w o1 k2 q2 x2 x3 x4 x5
      else
        if x2 ≤ x5 then
          bL_areWanted_93 K11 (fun w z0 z1 z2 z3 z4 => lL_areWanted_24 o1 k2 q2 K11 n w z0 z1 z2 z3 z4) w o1 k2 q2 x2 x3 x4 x5
        else
          bL_areWanted_94 K11 (fun w z0 z1 z2 z3 z4 => lL_areWanted_24 o1 k2 q2 K11 n w z0 z1 z2 z3 z4) w o1 k2 q2 x2 x3 x4 x5 1
    else
      (ldI q2 w k2 x6).bind fun v20 =>
      (ldI q2 w k2 x4).bind fun v21 =>
      if v21 < v20 then
        bL_areWanted_62 K11 (fun w z0 z1 z2 z3 z4 => lL_areWanted_24 o1 k2 q2 K11 n w z0 z1 z2 z3 z4) w o1 k2 q2 x2 x3 x4 x6 x5
      else
        (ldI q2 w k2 x6).bind fun v23 =>
        (ldI q2 w k2 x4).bind fun v24 =>
        if v23 = v24 then
          if x4 ≤ x6 then
            bL_areWanted_66 K11 (fun w z0 z1 z2 z3 z4 => lL_areWanted_24 o1 k2 q2 K11 n w z0 z1 z2 z3 z4) w o1 k2 q2 x2 x3 x4 x6 x5
          else
            bL_areWanted_62 K11 (fun w z0 z1 z2 z3 z4 => lL_areWanted_24 o1 k2 q2 K11 n w z0 z1 z2 z3 z4) w o1 k2 q2 x2 x3 x4 x6 x5
        else
          bL_areWanted_66 K11 (fun w z0 z1 z2 z3 z4 => lL_areWanted_24 o1 k2 q2 K11 n w z0 z1 z2 z3 z4) w o1 k2 q2 x2 x3 x4 x6 x5
set_option maxRecDepth 4000 in
theorem clL_areWanted_24 {g : Gx} {E : Ex} (C : CC g E cL_areWanted 7 RL 7 155) (hR : RT g (some .boolean)) {o1 k2 q2 : Nat} (hO1 : shB E.2.2.2.2.2.1 o1) (hk2 : E.2.2.2.2.2.1[k2]? = some (0, q2)) (w : Wd) (K11 : Wd → Int32 → Int32 → Int32 → Option (Int32)) (hK11 : ∀ (x2 : Int32) (x3 : Int32) (x4 : Int32), YO g E 7 (QP g E w) (K11 w x2 x3 x4) w 11 [(0, .ref (E.2.2.2.2.1 + o1)), (1, .ref (E.2.2.2.2.1 + k2)), (2, .int x2), (3, .int x3), (4, .int x4)] [])  : ∀ (n : Nat) (x2 : Int32) (x3 : Int32) (x4 : Int32) (x5 : Int32) (x6 : Int32), YO g E 7 (QP g E w) (lL_areWanted_24 o1 k2 q2 K11 n w x2 x3 x4 x5 x6) w 24 [(0, .ref (E.2.2.2.2.1 + o1)), (1, .ref (E.2.2.2.2.1 + k2)), (2, .int x2), (3, .int x3), (4, .int x4), (5, .int x5), (6, .int x6)] [] := by
  intro n
  induction n with
  | zero => intro x2 x3 x4 x5 x6; exact y_no
  | succ n ih =>
    intro x2 x3 x4 x5 x6
    rw [lL_areWanted_24]
    refine y_iload (n := 26) C dL_areWanted_24 6 rfl rfl ?_
    refine y_bipush (n := 28) C (12 : Int32) dL_areWanted_26 (by decide) rfl ?_
    refine y_icmp_ge (tgt := 76) (n := 31) C dL_areWanted_28 (by decide) rfl (fun h9 => ?_) (fun h9 => ?_)
    · refine y_aload_n (n := 77) C dL_areWanted_76 1 rfl rfl ?_
      refine y_iload (n := 79) C dL_areWanted_77 4 rfl rfl ?_
      refine y_iald (n := 80) C hk2 dL_areWanted_79 rfl (fun v10 hv10 => ?_)
      refine y_if_le (tgt := 93) (n := 83) C dL_areWanted_80 (by decide) rfl (fun h11 => ?_) (fun h11 => ?_)
      · refine y_ls [0, 1, 2, 3, 4, 5] rfl ?_
        exact cbL_areWanted_93 C hR hO1 hk2 w K11 hK11 (fun w z0 z1 z2 z3 z4 => lL_areWanted_24 o1 k2 q2 K11 n w z0 z1 z2 z3 z4)  (fun z0 z1 z2 z3 z4 => ih z0 z1 z2 z3 z4) x2 x3 x4 x5
      · refine y_iload (n := 85) C dL_areWanted_83 5 rfl rfl ?_
        refine y_iload_n (n := 86) C dL_areWanted_85 2 rfl rfl ?_
        refine y_icmp_ge (tgt := 93) (n := 89) C dL_areWanted_86 (by decide) rfl (fun h19 => ?_) (fun h19 => ?_)
        · refine y_ls [0, 1, 2, 3, 4, 5] rfl ?_
          exact cbL_areWanted_93 C hR hO1 hk2 w K11 hK11 (fun w z0 z1 z2 z3 z4 => lL_areWanted_24 o1 k2 q2 K11 n w z0 z1 z2 z3 z4)  (fun z0 z1 z2 z3 z4 => ih z0 z1 z2 z3 z4) x2 x3 x4 x5
        · refine y_iconst (n := 90) C (1 : Int32) dL_areWanted_89 (by decide) rfl ?_
          refine y_goto (tgt := 94) C dL_areWanted_90 (by decide) ?_
          refine y_ls [0, 1, 2, 3, 4, 5] rfl ?_
          exact cbL_areWanted_94 C hR hO1 hk2 w K11 hK11 (fun w z0 z1 z2 z3 z4 => lL_areWanted_24 o1 k2 q2 K11 n w z0 z1 z2 z3 z4)  (fun z0 z1 z2 z3 z4 => ih z0 z1 z2 z3 z4) x2 x3 x4 x5 1
    · refine y_iload (n := 33) C dL_areWanted_31 5 rfl rfl ?_
      refine y_aload_n (n := 34) C dL_areWanted_33 1 rfl rfl ?_
      refine y_iload (n := 36) C dL_areWanted_34 6 rfl rfl ?_
      refine y_iald (n := 37) C hk2 dL_areWanted_36 rfl (fun v20 hv20 => ?_)
      refine y_aload_n (n := 38) C dL_areWanted_37 1 rfl rfl ?_
      refine y_iload (n := 40) C dL_areWanted_38 4 rfl rfl ?_
      refine y_iald (n := 41) C hk2 dL_areWanted_40 rfl (fun v21 hv21 => ?_)
      refine y_icmp_gt (tgt := 62) (n := 44) C dL_areWanted_41 (by decide) rfl (fun h22 => ?_) (fun h22 => ?_)
      · refine y_ls [0, 1, 2, 3, 4, 6] rfl ?_
        exact cbL_areWanted_62 C hR hO1 hk2 w K11 hK11 (fun w z0 z1 z2 z3 z4 => lL_areWanted_24 o1 k2 q2 K11 n w z0 z1 z2 z3 z4)  (fun z0 z1 z2 z3 z4 => ih z0 z1 z2 z3 z4) x2 x3 x4 x6 x5
      · refine y_aload_n (n := 45) C dL_areWanted_44 1 rfl rfl ?_
        refine y_iload (n := 47) C dL_areWanted_45 6 rfl rfl ?_
        refine y_iald (n := 48) C hk2 dL_areWanted_47 rfl (fun v23 hv23 => ?_)
        refine y_aload_n (n := 49) C dL_areWanted_48 1 rfl rfl ?_
        refine y_iload (n := 51) C dL_areWanted_49 4 rfl rfl ?_
        refine y_iald (n := 52) C hk2 dL_areWanted_51 rfl (fun v24 hv24 => ?_)
        refine y_icmp_ne (tgt := 66) (n := 55) C dL_areWanted_52 (by decide) rfl (fun h25 => ?_) (fun h25 => ?_)
        · refine y_ls [0, 1, 2, 3, 4, 6] rfl ?_
          exact cbL_areWanted_66 C hR hO1 hk2 w K11 hK11 (fun w z0 z1 z2 z3 z4 => lL_areWanted_24 o1 k2 q2 K11 n w z0 z1 z2 z3 z4)  (fun z0 z1 z2 z3 z4 => ih z0 z1 z2 z3 z4) x2 x3 x4 x6 x5
        · refine y_iload (n := 57) C dL_areWanted_55 6 rfl rfl ?_
          refine y_iload (n := 59) C dL_areWanted_57 4 rfl rfl ?_
          refine y_icmp_ge (tgt := 66) (n := 62) C dL_areWanted_59 (by decide) rfl (fun h26 => ?_) (fun h26 => ?_)
          · refine y_ls [0, 1, 2, 3, 4, 6] rfl ?_
            exact cbL_areWanted_66 C hR hO1 hk2 w K11 hK11 (fun w z0 z1 z2 z3 z4 => lL_areWanted_24 o1 k2 q2 K11 n w z0 z1 z2 z3 z4)  (fun z0 z1 z2 z3 z4 => ih z0 z1 z2 z3 z4) x2 x3 x4 x6 x5
          · refine y_ls [0, 1, 2, 3, 4, 6] rfl ?_
            exact cbL_areWanted_62 C hR hO1 hk2 w K11 hK11 (fun w z0 z1 z2 z3 z4 => lL_areWanted_24 o1 k2 q2 K11 n w z0 z1 z2 z3 z4)  (fun z0 z1 z2 z3 z4 => ih z0 z1 z2 z3 z4) x2 x3 x4 x6 x5
def lL_areWanted_11 (o1 k2 q2 : Nat) : Nat → Wd → Int32 → Int32 → Int32 → Option (Int32)
  | 0, _, _, _, _ => none
  | n + 1, w, x2, x3, x4 =>
    if 12 ≤ x4 then
      (fX5_count w o1 4).bind fun v3 =>
      if v3 = x3 then
        (fX5_wanted w o1 x3).bind fun v5 =>
        if v5 = (-5) then
          (fX5_document w o1 59 3).bind fun v7 =>
          if v7 = (-5) then
            rtZ 1
          else
            rtZ 0
        else
          rtZ 0
      else
        rtZ 0
    else
      lL_areWanted_24 o1 k2 q2 (fun w z0 z1 z2 => lL_areWanted_11 o1 k2 q2 n w z0 z1 z2) 4096 w x2 x3 x4 0 0
set_option maxRecDepth 4000 in
theorem clL_areWanted_11 {g : Gx} {E : Ex} (C : CC g E cL_areWanted 7 RL 7 155) (hR : RT g (some .boolean)) {o1 k2 q2 : Nat} (hO1 : shB E.2.2.2.2.2.1 o1) (hk2 : E.2.2.2.2.2.1[k2]? = some (0, q2)) (w : Wd)  : ∀ (n : Nat) (x2 : Int32) (x3 : Int32) (x4 : Int32), YO g E 7 (QP g E w) (lL_areWanted_11 o1 k2 q2 n w x2 x3 x4) w 11 [(0, .ref (E.2.2.2.2.1 + o1)), (1, .ref (E.2.2.2.2.1 + k2)), (2, .int x2), (3, .int x3), (4, .int x4)] [] := by
  intro n
  induction n with
  | zero => intro x2 x3 x4; exact y_no
  | succ n ih =>
    intro x2 x3 x4
    rw [lL_areWanted_11]
    refine y_iload (n := 13) C dL_areWanted_11 4 rfl rfl ?_
    refine y_bipush (n := 15) C (12 : Int32) dL_areWanted_13 (by decide) rfl ?_
    refine y_icmp_ge (tgt := 155) (n := 18) C dL_areWanted_15 (by decide) rfl (fun h2 => ?_) (fun h2 => ?_)
    · refine y_aload_n (n := 156) C dL_areWanted_155 0 rfl rfl ?_
      refine y_iconst (n := 157) C (4 : Int32) dL_areWanted_156 (by decide) rfl ?_
      refine y_cp (n := 160) C (fun r hr H locs la hP hS hl => y_runV (ci := 5) (st := []) C ky_X5_count wd_439 ⟨Nat.le_of_ble_eq_true rfl, Nat.le_of_ble_eq_true rfl⟩ hO1.1 rfl (mX5_count hO1 w 4 g.2.1 r hr) rfl (Nat.le_of_ble_eq_true rfl) rfl dL_areWanted_157 hP hS hl) rfl (fun v3 hv3 => ?_)
      refine y_iload_n (n := 161) C dL_areWanted_160 3 rfl rfl ?_
      refine y_icmp_ne (tgt := 190) (n := 164) C dL_areWanted_161 (by decide) rfl (fun h4 => ?_) (fun h4 => ?_)
      · refine y_iconst (n := 191) C (0 : Int32) dL_areWanted_190 (by decide) rfl ?_
        exact y_rz C hR dL_areWanted_191
      · refine y_aload_n (n := 165) C dL_areWanted_164 0 rfl rfl ?_
        refine y_iload_n (n := 166) C dL_areWanted_165 3 rfl rfl ?_
        refine y_cp (n := 169) C (fun r hr H locs la hP hS hl => y_runV (ci := 5) (st := []) C ky_X5_wanted wd_525 ⟨Nat.le_of_ble_eq_true rfl, Nat.le_of_ble_eq_true rfl⟩ hO1.1 rfl (mX5_wanted hO1 w x3 g.2.1 r hr) rfl (Nat.le_of_ble_eq_true rfl) rfl dL_areWanted_166 hP hS hl) rfl (fun v5 hv5 => ?_)
        refine y_bipush (n := 171) C ((-5) : Int32) dL_areWanted_169 (by decide) rfl ?_
        refine y_icmp_ne (tgt := 190) (n := 174) C dL_areWanted_171 (by decide) rfl (fun h6 => ?_) (fun h6 => ?_)
        · refine y_iconst (n := 191) C (0 : Int32) dL_areWanted_190 (by decide) rfl ?_
          exact y_rz C hR dL_areWanted_191
        · refine y_aload_n (n := 175) C dL_areWanted_174 0 rfl rfl ?_
          refine y_bipush (n := 177) C (59 : Int32) dL_areWanted_175 (by decide) rfl ?_
          refine y_iconst (n := 178) C (3 : Int32) dL_areWanted_177 (by decide) rfl ?_
          refine y_cp (n := 181) C (fun r hr H locs la hP hS hl => y_runV (ci := 5) (st := []) C ky_X5_document wd_361 ⟨Nat.le_of_ble_eq_true rfl, Nat.le_of_ble_eq_true rfl⟩ hO1.1 rfl (mX5_document hO1 w 59 3 g.2.1 r hr) rfl (Nat.le_of_ble_eq_true rfl) rfl dL_areWanted_178 hP hS hl) rfl (fun v7 hv7 => ?_)
          refine y_bipush (n := 183) C ((-5) : Int32) dL_areWanted_181 (by decide) rfl ?_
          refine y_icmp_ne (tgt := 190) (n := 186) C dL_areWanted_183 (by decide) rfl (fun h8 => ?_) (fun h8 => ?_)
          · refine y_iconst (n := 191) C (0 : Int32) dL_areWanted_190 (by decide) rfl ?_
            exact y_rz C hR dL_areWanted_191
          · refine y_iconst (n := 187) C (1 : Int32) dL_areWanted_186 (by decide) rfl ?_
            refine y_goto (tgt := 191) C dL_areWanted_187 (by decide) ?_
            exact y_rz C hR dL_areWanted_191
    · refine y_iconst (n := 19) C (0 : Int32) dL_areWanted_18 (by decide) rfl ?_
      refine y_istore (n := 21) (ls' := [(5, .int 0), (0, .ref (E.2.2.2.2.1 + o1)), (1, .ref (E.2.2.2.2.1 + k2)), (2, .int x2), (3, .int x3), (4, .int x4)]) C dL_areWanted_19 (by decide) rfl rfl ?_
      refine y_iconst (n := 22) C (0 : Int32) dL_areWanted_21 (by decide) rfl ?_
      refine y_istore (n := 24) (ls' := [(6, .int 0), (5, .int 0), (0, .ref (E.2.2.2.2.1 + o1)), (1, .ref (E.2.2.2.2.1 + k2)), (2, .int x2), (3, .int x3), (4, .int x4)]) C dL_areWanted_22 (by decide) rfl rfl ?_
      refine y_ls [2, 3, 4, 5, 6, 1, 0] rfl ?_
      exact clL_areWanted_24 C hR hO1 hk2 w (fun w z0 z1 z2 => lL_areWanted_11 o1 k2 q2 n w z0 z1 z2)  (fun z0 z1 z2 => ih z0 z1 z2) 4096 x2 x3 x4 0 0
def fL_areWanted (w : Wd) (o1 k2 q2 : Nat)  : Option (Int32) :=
  (fX5_count w o1 2).bind fun v1 =>
  lL_areWanted_11 o1 k2 q2 4096 w v1 0 0
set_option maxRecDepth 4000 in
theorem eL_areWanted {g : Gx} {E : Ex} (C : CC g E cL_areWanted 7 RL 7 155) (hR : RT g (some .boolean)) {o1 k2 q2 : Nat} (hO1 : shB E.2.2.2.2.2.1 o1) (hk2 : E.2.2.2.2.2.1[k2]? = some (0, q2)) (w : Wd)  : YO g E 7 (QP g E w) (fL_areWanted w o1 k2 q2) w 0 [(0, .ref (E.2.2.2.2.1 + o1)), (1, .ref (E.2.2.2.2.1 + k2))] [] := by
  unfold fL_areWanted
  refine y_aload_n (n := 1) C dL_areWanted_0 0 rfl rfl ?_
  refine y_iconst (n := 2) C (2 : Int32) dL_areWanted_1 (by decide) rfl ?_
  refine y_cp (n := 5) C (fun r hr H locs la hP hS hl => y_runV (ci := 5) (st := []) C ky_X5_count wd_439 ⟨Nat.le_of_ble_eq_true rfl, Nat.le_of_ble_eq_true rfl⟩ hO1.1 rfl (mX5_count hO1 w 2 g.2.1 r hr) rfl (Nat.le_of_ble_eq_true rfl) rfl dL_areWanted_2 hP hS hl) rfl (fun v1 hv1 => ?_)
  refine y_istore_n (n := 6) (ls' := [(2, .int v1), (0, .ref (E.2.2.2.2.1 + o1)), (1, .ref (E.2.2.2.2.1 + k2))]) C dL_areWanted_5 (by decide) rfl rfl ?_
  refine y_iconst (n := 7) C (0 : Int32) dL_areWanted_6 (by decide) rfl ?_
  refine y_istore_n (n := 8) (ls' := [(3, .int 0), (2, .int v1), (0, .ref (E.2.2.2.2.1 + o1)), (1, .ref (E.2.2.2.2.1 + k2))]) C dL_areWanted_7 (by decide) rfl rfl ?_
  refine y_iconst (n := 9) C (0 : Int32) dL_areWanted_8 (by decide) rfl ?_
  refine y_istore (n := 11) (ls' := [(4, .int 0), (3, .int 0), (2, .int v1), (0, .ref (E.2.2.2.2.1 + o1)), (1, .ref (E.2.2.2.2.1 + k2))]) C dL_areWanted_9 (by decide) rfl rfl ?_
  refine y_ls [3, 4, 2, 1, 0] rfl ?_
  exact clL_areWanted_11 C hR hO1 hk2 w 4096 v1 0 0
theorem mL_areWanted {E : Ex} {o1 k2 q2 : Nat} (hO1 : shB E.2.2.2.2.2.1 o1) (hk2 : E.2.2.2.2.2.1[k2]? = some (0, q2)) (w : Wd)  (l : Launch) : MP l yL_areWanted cL_areWanted 7 (some .boolean) { frames := 7, cells := 0, slots := 0, locals := 155 } E [.ref (E.2.2.2.2.1 + o1), .ref (E.2.2.2.2.1 + k2)] w (fL_areWanted w o1 k2 q2) :=
  y_met (Qc := fun r => yQi E (r, w)) (by decide +kernel) (Nat.le_of_ble_eq_true rfl) (fun g C hR => eL_areWanted C hR hO1 hk2 w ) l
def lL_bits_4 : Nat → Wd → Int32 → Int32 → Int32 → Option (Int32)
  | 0, _, _, _, _ => none
  | n + 1, w, x0, x1, x2 =>
    if 6 ≤ x2 then
      some x1
    else
      lL_bits_4 n w x0 (x1 + ((x0 >>> (x2 &&& 31)) &&& 1)) (x2 + 1)
set_option maxRecDepth 4000 in
theorem clL_bits_4 {g : Gx} {E : Ex} (C : CC g E cL_bits 3 RL 0 0) (hR : RT g (some .int))  (w : Wd)  : ∀ (n : Nat) (x0 : Int32) (x1 : Int32) (x2 : Int32), YO g E 3 (QP g E w) (lL_bits_4 n w x0 x1 x2) w 4 [(0, .int x0), (1, .int x1), (2, .int x2)] [] := by
  intro n
  induction n with
  | zero => intro x0 x1 x2; exact y_no
  | succ n ih =>
    intro x0 x1 x2
    rw [lL_bits_4]
    refine y_iload_n (n := 5) C dL_bits_4 2 rfl rfl ?_
    refine y_bipush (n := 7) C (6 : Int32) dL_bits_5 (by decide) rfl ?_
    refine y_icmp_ge (tgt := 24) (n := 10) C dL_bits_7 (by decide) rfl (fun h1 => ?_) (fun h1 => ?_)
    · refine y_iload_n (n := 25) C dL_bits_24 1 rfl rfl ?_
      exact y_rp C hR dL_bits_25
    · refine y_iload_n (n := 11) C dL_bits_10 1 rfl rfl ?_
      refine y_iload_n (n := 12) C dL_bits_11 0 rfl rfl ?_
      refine y_iload_n (n := 13) C dL_bits_12 2 rfl rfl ?_
      refine y_ishr (n := 14) C dL_bits_13 rfl ?_
      refine y_iconst (n := 15) C (1 : Int32) dL_bits_14 (by decide) rfl ?_
      refine y_iand (n := 16) C dL_bits_15 rfl ?_
      refine y_iadd (n := 17) C dL_bits_16 rfl ?_
      refine y_istore_n (n := 18) (ls' := [(1, .int (x1 + ((x0 >>> (x2 &&& 31)) &&& 1))), (0, .int x0), (2, .int x2)]) C dL_bits_17 (by decide) rfl rfl ?_
      refine y_iinc (n := 21) (v := x2 + 1) (ls' := [(2, .int (x2 + 1)), (1, .int (x1 + ((x0 >>> (x2 &&& 31)) &&& 1))), (0, .int x0)]) C dL_bits_18 2 rfl rfl (by decide) rfl rfl ?_
      refine y_goto (tgt := 4) C dL_bits_21 (by decide) ?_
      refine y_ls [2, 1, 0] rfl ?_
      exact ih x0 (x1 + ((x0 >>> (x2 &&& 31)) &&& 1)) (x2 + 1)
def fL_bits (w : Wd) (a1 : Int32) : Option (Int32) :=
  lL_bits_4 4096 w a1 0 0
set_option maxRecDepth 4000 in
theorem eL_bits {g : Gx} {E : Ex} (C : CC g E cL_bits 3 RL 0 0) (hR : RT g (some .int))  (w : Wd) (a1 : Int32) : YO g E 3 (QP g E w) (fL_bits w a1) w 0 [(0, .int a1)] [] := by
  unfold fL_bits
  refine y_iconst (n := 1) C (0 : Int32) dL_bits_0 (by decide) rfl ?_
  refine y_istore_n (n := 2) (ls' := [(1, .int 0), (0, .int a1)]) C dL_bits_1 (by decide) rfl rfl ?_
  refine y_iconst (n := 3) C (0 : Int32) dL_bits_2 (by decide) rfl ?_
  refine y_istore_n (n := 4) (ls' := [(2, .int 0), (1, .int 0), (0, .int a1)]) C dL_bits_3 (by decide) rfl rfl ?_
  refine y_ls [2, 1, 0] rfl ?_
  exact clL_bits_4 C hR  w 4096 a1 0 0
theorem mL_bits {E : Ex}  (w : Wd) (a1 : Int32) (l : Launch) : MP l yL_bits cL_bits 3 (some .int) { frames := 0, cells := 0, slots := 0, locals := 0 } E [.int a1] w (fL_bits w a1) :=
  y_met (Qc := fun r => yQi E (r, w)) (by decide +kernel) (Nat.le_of_ble_eq_true rfl) (fun g C hR => eL_bits C hR  w a1) l
def fL_cell (w : Wd) (L : Nat) (xs : Nat → Int32) (a2 : Int32) : Option (Int32) :=
  if (nI L) ≤ a2 then
    some ((32452867 * a2) + 86028121)
  else
    (ldX L xs a2).bind fun v2 =>
    some v2
set_option maxRecDepth 4000 in
theorem eL_cell {g : Gx} {E : Ex} (C : CC g E cL_cell 2 RL 0 0) (hR : RT g (some .int)) {L : Nat} {xs : Nat → Int32} (HX : SX E L xs) (w : Wd) (a2 : Int32) : YO g E 2 (QP g E w) (fL_cell w L xs a2) w 0 [(0, .ref (E.2.2.2.2.2.2.1 0)), (1, .int a2)] [] := by
  unfold fL_cell
  refine y_iload_n (n := 1) C dL_cell_0 1 rfl rfl ?_
  refine y_aload_n (n := 2) C dL_cell_1 0 rfl rfl ?_
  refine y_slen (n := 3) C HX dL_cell_2 rfl ?_
  refine y_icmp_ge (tgt := 12) (n := 6) C dL_cell_3 (by decide) rfl (fun h1 => ?_) (fun h1 => ?_)
  · refine y_ldc (n := 14) C (32452867) wd_461 dL_cell_12 rfl ?_
    refine y_iload_n (n := 15) C dL_cell_14 1 rfl rfl ?_
    refine y_imul (n := 16) C dL_cell_15 rfl ?_
    refine y_ldc (n := 18) C (86028121) wd_462 dL_cell_16 rfl ?_
    refine y_iadd (n := 19) C dL_cell_18 rfl ?_
    exact y_rp C hR dL_cell_19
  · refine y_aload_n (n := 7) C dL_cell_6 0 rfl rfl ?_
    refine y_iload_n (n := 8) C dL_cell_7 1 rfl rfl ?_
    refine y_sld (n := 9) C HX dL_cell_8 rfl (fun v2 hv2 => ?_)
    refine y_goto (tgt := 19) C dL_cell_9 (by decide) ?_
    exact y_rp C hR dL_cell_19
theorem mL_cell {E : Ex} {L : Nat} {xs : Nat → Int32} (HX : SX E L xs) (w : Wd) (a2 : Int32) (l : Launch) : MP l yL_cell cL_cell 2 (some .int) { frames := 0, cells := 0, slots := 0, locals := 0 } E [.ref (E.2.2.2.2.2.2.1 0), .int a2] w (fL_cell w L xs a2) :=
  y_met (Qc := fun r => yQi E (r, w)) (by decide +kernel) (Nat.le_of_ble_eq_true rfl) (fun g C hR => eL_cell C hR HX w a2) l
def bL_isInOrder_114 (K52 : Wd → Int32 → Int32 → Int32 → Int32 → Option (Int32)) (w : Wd) (o1 : Nat) (x1 : Int32) (x2 : Int32) (x4 : Int32) : Option (Int32) :=
  K52 w x1 x2 1 (x4 + 1)
set_option maxRecDepth 4000 in
theorem cbL_isInOrder_114 {g : Gx} {E : Ex} (C : CC g E cL_isInOrder 6 RL 4 89) (hR : RT g (some .boolean)) {o1 : Nat} (hO1 : shB E.2.2.2.2.2.1 o1) (w : Wd) (K52 : Wd → Int32 → Int32 → Int32 → Int32 → Option (Int32)) (hK52 : ∀ (x1 : Int32) (x2 : Int32) (x3 : Int32) (x4 : Int32), YO g E 6 (QP g E w) (K52 w x1 x2 x3 x4) w 52 [(0, .ref (E.2.2.2.2.1 + o1)), (1, .int x1), (2, .int x2), (3, .int x3), (4, .int x4)] []) (x1 : Int32) (x2 : Int32) (x4 : Int32) : YO g E 6 (QP g E w) (bL_isInOrder_114 K52 w o1 x1 x2 x4) w 114 [(0, .ref (E.2.2.2.2.1 + o1)), (1, .int x1), (2, .int x2), (4, .int x4)] [] := by
  unfold bL_isInOrder_114
  refine y_iconst (n := 115) C (1 : Int32) dL_isInOrder_114 (by decide) rfl ?_
  refine y_goto (tgt := 119) C dL_isInOrder_115 (by decide) ?_
  refine y_istore_n (n := 120) (ls' := [(3, .int 1), (0, .ref (E.2.2.2.2.1 + o1)), (1, .int x1), (2, .int x2), (4, .int x4)]) C dL_isInOrder_119 (by decide) rfl rfl ?_
  refine y_iinc (n := 123) (v := x4 + 1) (ls' := [(4, .int (x4 + 1)), (3, .int 1), (0, .ref (E.2.2.2.2.1 + o1)), (1, .int x1), (2, .int x2)]) C dL_isInOrder_120 4 rfl rfl (by decide) rfl rfl ?_
  refine y_goto (tgt := 52) C dL_isInOrder_123 (by decide) ?_
  refine y_ls [2, 3, 4, 1, 0] rfl ?_
  exact hK52 x1 x2 1 (x4 + 1)
def bL_isInOrder_118 (K52 : Wd → Int32 → Int32 → Int32 → Int32 → Option (Int32)) (w : Wd) (o1 : Nat) (x1 : Int32) (x2 : Int32) (x4 : Int32) : Option (Int32) :=
  K52 w x1 x2 0 (x4 + 1)
set_option maxRecDepth 4000 in
theorem cbL_isInOrder_118 {g : Gx} {E : Ex} (C : CC g E cL_isInOrder 6 RL 4 89) (hR : RT g (some .boolean)) {o1 : Nat} (hO1 : shB E.2.2.2.2.2.1 o1) (w : Wd) (K52 : Wd → Int32 → Int32 → Int32 → Int32 → Option (Int32)) (hK52 : ∀ (x1 : Int32) (x2 : Int32) (x3 : Int32) (x4 : Int32), YO g E 6 (QP g E w) (K52 w x1 x2 x3 x4) w 52 [(0, .ref (E.2.2.2.2.1 + o1)), (1, .int x1), (2, .int x2), (3, .int x3), (4, .int x4)] []) (x1 : Int32) (x2 : Int32) (x4 : Int32) : YO g E 6 (QP g E w) (bL_isInOrder_118 K52 w o1 x1 x2 x4) w 118 [(0, .ref (E.2.2.2.2.1 + o1)), (1, .int x1), (2, .int x2), (4, .int x4)] [] := by
  unfold bL_isInOrder_118
  refine y_iconst (n := 119) C (0 : Int32) dL_isInOrder_118 (by decide) rfl ?_
  refine y_istore_n (n := 120) (ls' := [(3, .int 0), (0, .ref (E.2.2.2.2.1 + o1)), (1, .int x1), (2, .int x2), (4, .int x4)]) C dL_isInOrder_119 (by decide) rfl rfl ?_
  refine y_iinc (n := 123) (v := x4 + 1) (ls' := [(4, .int (x4 + 1)), (3, .int 0), (0, .ref (E.2.2.2.2.1 + o1)), (1, .int x1), (2, .int x2)]) C dL_isInOrder_120 4 rfl rfl (by decide) rfl rfl ?_
  refine y_goto (tgt := 52) C dL_isInOrder_123 (by decide) ?_
  refine y_ls [2, 3, 4, 1, 0] rfl ?_
  exact hK52 x1 x2 0 (x4 + 1)
def lL_isInOrder_52 (o1 : Nat) : Nat → Wd → Int32 → Int32 → Int32 → Int32 → Option (Int32)
  | 0, _, _, _, _, _ => none
  | n + 1, w, x1, x2, x3, x4 =>
    if x2 ≤ x4 then
      rtZ x3
    else
      if x3 = 0 then
        rtZ x3
      else
        (fX5_entry w o1 x1 (x4 - 1) 1).bind fun v6 =>
        (fX5_entry w o1 x1 x4 1).bind fun v7 =>
        if 0 < (v6 - v7) then
          bL_isInOrder_114 (fun w z0 z1 z2 z3 => lL_isInOrder_52 o1 n w z0 z1 z2 z3) w o1 x1 x2 x4
        else
          if (v6 - v7) = 0 then
            (fX5_entry w o1 x1 (x4 - 1) 0).bind fun v10 =>
            (fX5_entry w o1 x1 x4 0).bind fun v11 =>
            if v11 ≤ v10 then
              bL_isInOrder_118 (fun w z0 z1 z2 z3 => lL_isInOrder_52 o1 n w z0 z1 z2 z3) w o1 x1 x2 x4
            else
              bL_isInOrder_114 (fun w z0 z1 z2 z3 => lL_isInOrder_52 o1 n w z0 z1 z2 z3) w o1 x1 x2 x4
          else
            bL_isInOrder_118 (fun w z0 z1 z2 z3 => lL_isInOrder_52 o1 n w z0 z1 z2 z3) w o1 x1 x2 x4
set_option maxRecDepth 4000 in
theorem clL_isInOrder_52 {g : Gx} {E : Ex} (C : CC g E cL_isInOrder 6 RL 4 89) (hR : RT g (some .boolean)) {o1 : Nat} (hO1 : shB E.2.2.2.2.2.1 o1) (w : Wd)  : ∀ (n : Nat) (x1 : Int32) (x2 : Int32) (x3 : Int32) (x4 : Int32), YO g E 6 (QP g E w) (lL_isInOrder_52 o1 n w x1 x2 x3 x4) w 52 [(0, .ref (E.2.2.2.2.1 + o1)), (1, .int x1), (2, .int x2), (3, .int x3), (4, .int x4)] [] := by
  intro n
  induction n with
  | zero => intro x1 x2 x3 x4; exact y_no
  | succ n ih =>
    intro x1 x2 x3 x4
    rw [lL_isInOrder_52]
    refine y_iload (n := 54) C dL_isInOrder_52 4 rfl rfl ?_
    refine y_iload_n (n := 55) C dL_isInOrder_54 2 rfl rfl ?_
    refine y_icmp_ge (tgt := 126) (n := 58) C dL_isInOrder_55 (by decide) rfl (fun h4 => ?_) (fun h4 => ?_)
    · refine y_iload_n (n := 127) C dL_isInOrder_126 3 rfl rfl ?_
      exact y_rz C hR dL_isInOrder_127
    · refine y_iload_n (n := 59) C dL_isInOrder_58 3 rfl rfl ?_
      refine y_if_eq (tgt := 126) (n := 62) C dL_isInOrder_59 (by decide) rfl (fun h5 => ?_) (fun h5 => ?_)
      · refine y_iload_n (n := 127) C dL_isInOrder_126 3 rfl rfl ?_
        exact y_rz C hR dL_isInOrder_127
      · refine y_aload_n (n := 63) C dL_isInOrder_62 0 rfl rfl ?_
        refine y_iload_n (n := 64) C dL_isInOrder_63 1 rfl rfl ?_
        refine y_iload (n := 66) C dL_isInOrder_64 4 rfl rfl ?_
        refine y_iconst (n := 67) C (1 : Int32) dL_isInOrder_66 (by decide) rfl ?_
        refine y_isub (n := 68) C dL_isInOrder_67 rfl ?_
        refine y_iconst (n := 69) C (1 : Int32) dL_isInOrder_68 (by decide) rfl ?_
        refine y_cp (n := 72) C (fun r hr H locs la hP hS hl => y_runV (ci := 5) (st := []) C ky_X5_entry wd_487 ⟨Nat.le_of_ble_eq_true rfl, Nat.le_of_ble_eq_true rfl⟩ hO1.1 rfl (mX5_entry hO1 w x1 (x4 - 1) 1 g.2.1 r hr) rfl (Nat.le_of_ble_eq_true rfl) rfl dL_isInOrder_69 hP hS hl) rfl (fun v6 hv6 => ?_)
        refine y_aload_n (n := 73) C dL_isInOrder_72 0 rfl rfl ?_
        refine y_iload_n (n := 74) C dL_isInOrder_73 1 rfl rfl ?_
        refine y_iload (n := 76) C dL_isInOrder_74 4 rfl rfl ?_
        refine y_iconst (n := 77) C (1 : Int32) dL_isInOrder_76 (by decide) rfl ?_
        refine y_cp (n := 80) C (fun r hr H locs la hP hS hl => y_runV (ci := 5) (st := [.int v6]) C ky_X5_entry wd_487 ⟨Nat.le_of_ble_eq_true rfl, Nat.le_of_ble_eq_true rfl⟩ hO1.1 rfl (mX5_entry hO1 w x1 x4 1 g.2.1 r hr) rfl (Nat.le_of_ble_eq_true rfl) rfl dL_isInOrder_77 hP hS hl) rfl (fun v7 hv7 => ?_)
        refine y_isub (n := 81) C dL_isInOrder_80 rfl ?_
        refine y_istore (n := 83) (ls' := [(5, .int (v6 - v7)), (0, .ref (E.2.2.2.2.1 + o1)), (1, .int x1), (2, .int x2), (3, .int x3), (4, .int x4)]) C dL_isInOrder_81 (by decide) rfl rfl ?_
        refine y_iload (n := 85) C dL_isInOrder_83 0 rfl rfl ?_
        refine y_if_gt (tgt := 114) (n := 88) C dL_isInOrder_85 (by decide) rfl (fun h8 => ?_) (fun h8 => ?_)
        · refine y_ls [1, 2, 3, 5] rfl ?_
          exact cbL_isInOrder_114 C hR hO1 w (fun w z0 z1 z2 z3 => lL_isInOrder_52 o1 n w z0 z1 z2 z3)  (fun z0 z1 z2 z3 => ih z0 z1 z2 z3) x1 x2 x4
        · refine y_iload (n := 90) C dL_isInOrder_88 0 rfl rfl ?_
          refine y_if_ne (tgt := 118) (n := 93) C dL_isInOrder_90 (by decide) rfl (fun h9 => ?_) (fun h9 => ?_)
          · refine y_ls [1, 2, 3, 5] rfl ?_
            exact cbL_isInOrder_118 C hR hO1 w (fun w z0 z1 z2 z3 => lL_isInOrder_52 o1 n w z0 z1 z2 z3)  (fun z0 z1 z2 z3 => ih z0 z1 z2 z3) x1 x2 x4
          · refine y_aload_n (n := 94) C dL_isInOrder_93 1 rfl rfl ?_
            refine y_iload_n (n := 95) C dL_isInOrder_94 2 rfl rfl ?_
            refine y_iload (n := 97) C dL_isInOrder_95 5 rfl rfl ?_
            refine y_iconst (n := 98) C (1 : Int32) dL_isInOrder_97 (by decide) rfl ?_
            refine y_isub (n := 99) C dL_isInOrder_98 rfl ?_
            refine y_iconst (n := 100) C (0 : Int32) dL_isInOrder_99 (by decide) rfl ?_
            refine y_cp (n := 103) C (fun r hr H locs la hP hS hl => y_runV (ci := 5) (st := []) C ky_X5_entry wd_487 ⟨Nat.le_of_ble_eq_true rfl, Nat.le_of_ble_eq_true rfl⟩ hO1.1 rfl (mX5_entry hO1 w x1 (x4 - 1) 0 g.2.1 r hr) rfl (Nat.le_of_ble_eq_true rfl) rfl dL_isInOrder_100 hP hS hl) rfl (fun v10 hv10 => ?_)
            refine y_aload_n (n := 104) C dL_isInOrder_103 1 rfl rfl ?_
            refine y_iload_n (n := 105) C dL_isInOrder_104 2 rfl rfl ?_
            refine y_iload (n := 107) C dL_isInOrder_105 5 rfl rfl ?_
            refine y_iconst (n := 108) C (0 : Int32) dL_isInOrder_107 (by decide) rfl ?_
            refine y_cp (n := 111) C (fun r hr H locs la hP hS hl => y_runV (ci := 5) (st := [.int v10]) C ky_X5_entry wd_487 ⟨Nat.le_of_ble_eq_true rfl, Nat.le_of_ble_eq_true rfl⟩ hO1.1 rfl (mX5_entry hO1 w x1 x4 0 g.2.1 r hr) rfl (Nat.le_of_ble_eq_true rfl) rfl dL_isInOrder_108 hP hS hl) rfl (fun v11 hv11 => ?_)
            refine y_icmp_ge (tgt := 118) (n := 114) C dL_isInOrder_111 (by decide) rfl (fun h12 => ?_) (fun h12 => ?_)
            · refine y_ls [1, 2, 3, 5] rfl ?_
              exact cbL_isInOrder_118 C hR hO1 w (fun w z0 z1 z2 z3 => lL_isInOrder_52 o1 n w z0 z1 z2 z3)  (fun z0 z1 z2 z3 => ih z0 z1 z2 z3) x1 x2 x4
            · refine y_ls [1, 2, 3, 5] rfl ?_
              exact cbL_isInOrder_114 C hR hO1 w (fun w z0 z1 z2 z3 => lL_isInOrder_52 o1 n w z0 z1 z2 z3)  (fun z0 z1 z2 z3 => ih z0 z1 z2 z3) x1 x2 x4
def bL_isInOrder_47 (w : Wd) (o1 : Nat) (x1 : Int32) (x2 : Int32) : Option (Int32) :=
  lL_isInOrder_52 o1 4096 w x1 x2 0 1
set_option maxRecDepth 4000 in
theorem cbL_isInOrder_47 {g : Gx} {E : Ex} (C : CC g E cL_isInOrder 6 RL 4 89) (hR : RT g (some .boolean)) {o1 : Nat} (hO1 : shB E.2.2.2.2.2.1 o1) (w : Wd) (x1 : Int32) (x2 : Int32) : YO g E 6 (QP g E w) (bL_isInOrder_47 w o1 x1 x2) w 47 [(0, .ref (E.2.2.2.2.1 + o1)), (1, .int x1), (2, .int x2)] [] := by
  unfold bL_isInOrder_47
  refine y_iconst (n := 48) C (0 : Int32) dL_isInOrder_47 (by decide) rfl ?_
  refine y_istore_n (n := 49) (ls' := [(3, .int 0), (0, .ref (E.2.2.2.2.1 + o1)), (1, .int x1), (2, .int x2)]) C dL_isInOrder_48 (by decide) rfl rfl ?_
  refine y_iconst (n := 50) C (1 : Int32) dL_isInOrder_49 (by decide) rfl ?_
  refine y_istore (n := 52) (ls' := [(4, .int 1), (3, .int 0), (0, .ref (E.2.2.2.2.1 + o1)), (1, .int x1), (2, .int x2)]) C dL_isInOrder_50 (by decide) rfl rfl ?_
  refine y_ls [2, 3, 4, 1, 0] rfl ?_
  exact clL_isInOrder_52 C hR hO1 w 4096 x1 x2 0 1
def bL_isInOrder_40 (w : Wd) (o1 : Nat) (x1 : Int32) (x2 : Int32) (s0 : Int32) (s1 : Int32) : Option (Int32) :=
  if s1 = s0 then
    lL_isInOrder_52 o1 4096 w x1 x2 1 1
  else
    bL_isInOrder_47 w o1 x1 x2
set_option maxRecDepth 4000 in
theorem cbL_isInOrder_40 {g : Gx} {E : Ex} (C : CC g E cL_isInOrder 6 RL 4 89) (hR : RT g (some .boolean)) {o1 : Nat} (hO1 : shB E.2.2.2.2.2.1 o1) (w : Wd) (x1 : Int32) (x2 : Int32) (s0 : Int32) (s1 : Int32) : YO g E 6 (QP g E w) (bL_isInOrder_40 w o1 x1 x2 s0 s1) w 40 [(0, .ref (E.2.2.2.2.1 + o1)), (1, .int x1), (2, .int x2)] [.int s0, .int s1] := by
  unfold bL_isInOrder_40
  refine y_icmp_ne (tgt := 47) (n := 43) C dL_isInOrder_40 (by decide) rfl (fun h16 => ?_) (fun h16 => ?_)
  · exact cbL_isInOrder_47 C hR hO1 w x1 x2
  · refine y_iconst (n := 44) C (1 : Int32) dL_isInOrder_43 (by decide) rfl ?_
    refine y_goto (tgt := 48) C dL_isInOrder_44 (by decide) ?_
    refine y_istore_n (n := 49) (ls' := [(3, .int 1), (0, .ref (E.2.2.2.2.1 + o1)), (1, .int x1), (2, .int x2)]) C dL_isInOrder_48 (by decide) rfl rfl ?_
    refine y_iconst (n := 50) C (1 : Int32) dL_isInOrder_49 (by decide) rfl ?_
    refine y_istore (n := 52) (ls' := [(4, .int 1), (3, .int 1), (0, .ref (E.2.2.2.2.1 + o1)), (1, .int x1), (2, .int x2)]) C dL_isInOrder_50 (by decide) rfl rfl ?_
    refine y_ls [2, 3, 4, 1, 0] rfl ?_
    exact clL_isInOrder_52 C hR hO1 w 4096 x1 x2 1 1
def fL_isInOrder (w : Wd) (o1 : Nat) (a2 : Int32) : Option (Int32) :=
  (fX5_list w o1 a2 0).bind fun v1 =>
  (fX5_entry w o1 a2 v1 0).bind fun v2 =>
  if v2 = (-5) then
    (fX5_list w o1 a2 3).bind fun v13 =>
    if v1 = 0 then
      bL_isInOrder_40 w o1 a2 v1 0 v13
    else
      (fX5_entry w o1 a2 0 1).bind fun v15 =>
      bL_isInOrder_40 w o1 a2 v1 v15 v13
  else
    bL_isInOrder_47 w o1 a2 v1
set_option maxRecDepth 4000 in
theorem eL_isInOrder {g : Gx} {E : Ex} (C : CC g E cL_isInOrder 6 RL 4 89) (hR : RT g (some .boolean)) {o1 : Nat} (hO1 : shB E.2.2.2.2.2.1 o1) (w : Wd) (a2 : Int32) : YO g E 6 (QP g E w) (fL_isInOrder w o1 a2) w 0 [(0, .ref (E.2.2.2.2.1 + o1)), (1, .int a2)] [] := by
  unfold fL_isInOrder
  refine y_aload_n (n := 1) C dL_isInOrder_0 0 rfl rfl ?_
  refine y_iload_n (n := 2) C dL_isInOrder_1 1 rfl rfl ?_
  refine y_iconst (n := 3) C (0 : Int32) dL_isInOrder_2 (by decide) rfl ?_
  refine y_cp (n := 6) C (fun r hr H locs la hP hS hl => y_runV (ci := 5) (st := []) C ky_X5_list wd_476 ⟨Nat.le_of_ble_eq_true rfl, Nat.le_of_ble_eq_true rfl⟩ hO1.1 rfl (mX5_list hO1 w a2 0 g.2.1 r hr) rfl (Nat.le_of_ble_eq_true rfl) rfl dL_isInOrder_3 hP hS hl) rfl (fun v1 hv1 => ?_)
  refine y_istore_n (n := 7) (ls' := [(2, .int v1), (0, .ref (E.2.2.2.2.1 + o1)), (1, .int a2)]) C dL_isInOrder_6 (by decide) rfl rfl ?_
  refine y_aload_n (n := 8) C dL_isInOrder_7 1 rfl rfl ?_
  refine y_iload_n (n := 9) C dL_isInOrder_8 2 rfl rfl ?_
  refine y_iload_n (n := 10) C dL_isInOrder_9 0 rfl rfl ?_
  refine y_iconst (n := 11) C (0 : Int32) dL_isInOrder_10 (by decide) rfl ?_
  refine y_cp (n := 14) C (fun r hr H locs la hP hS hl => y_runV (ci := 5) (st := []) C ky_X5_entry wd_487 ⟨Nat.le_of_ble_eq_true rfl, Nat.le_of_ble_eq_true rfl⟩ hO1.1 rfl (mX5_entry hO1 w a2 v1 0 g.2.1 r hr) rfl (Nat.le_of_ble_eq_true rfl) rfl dL_isInOrder_11 hP hS hl) rfl (fun v2 hv2 => ?_)
  refine y_bipush (n := 16) C ((-5) : Int32) dL_isInOrder_14 (by decide) rfl ?_
  refine y_icmp_ne (tgt := 47) (n := 19) C dL_isInOrder_16 (by decide) rfl (fun h3 => ?_) (fun h3 => ?_)
  · refine y_ls [1, 2, 0] rfl ?_
    exact cbL_isInOrder_47 C hR hO1 w a2 v1
  · refine y_aload_n (n := 20) C dL_isInOrder_19 1 rfl rfl ?_
    refine y_iload_n (n := 21) C dL_isInOrder_20 2 rfl rfl ?_
    refine y_iconst (n := 22) C (3 : Int32) dL_isInOrder_21 (by decide) rfl ?_
    refine y_cp (n := 25) C (fun r hr H locs la hP hS hl => y_runV (ci := 5) (st := []) C ky_X5_list wd_476 ⟨Nat.le_of_ble_eq_true rfl, Nat.le_of_ble_eq_true rfl⟩ hO1.1 rfl (mX5_list hO1 w a2 3 g.2.1 r hr) rfl (Nat.le_of_ble_eq_true rfl) rfl dL_isInOrder_22 hP hS hl) rfl (fun v13 hv13 => ?_)
    refine y_iload_n (n := 26) C dL_isInOrder_25 0 rfl rfl ?_
    refine y_if_ne (tgt := 33) (n := 29) C dL_isInOrder_26 (by decide) rfl (fun h14 => ?_) (fun h14 => ?_)
    · refine y_aload_n (n := 34) C dL_isInOrder_33 1 rfl rfl ?_
      refine y_iload_n (n := 35) C dL_isInOrder_34 2 rfl rfl ?_
      refine y_iconst (n := 36) C (0 : Int32) dL_isInOrder_35 (by decide) rfl ?_
      refine y_iconst (n := 37) C (1 : Int32) dL_isInOrder_36 (by decide) rfl ?_
      refine y_cp (n := 40) C (fun r hr H locs la hP hS hl => y_runV (ci := 5) (st := [.int v13]) C ky_X5_entry wd_487 ⟨Nat.le_of_ble_eq_true rfl, Nat.le_of_ble_eq_true rfl⟩ hO1.1 rfl (mX5_entry hO1 w a2 0 1 g.2.1 r hr) rfl (Nat.le_of_ble_eq_true rfl) rfl dL_isInOrder_37 hP hS hl) rfl (fun v15 hv15 => ?_)
      refine y_ls [1, 2, 0] rfl ?_
      exact cbL_isInOrder_40 C hR hO1 w a2 v1 v15 v13
    · refine y_iconst (n := 30) C (0 : Int32) dL_isInOrder_29 (by decide) rfl ?_
      refine y_goto (tgt := 40) C dL_isInOrder_30 (by decide) ?_
      refine y_ls [1, 2, 0] rfl ?_
      exact cbL_isInOrder_40 C hR hO1 w a2 v1 0 v13
theorem mL_isInOrder {E : Ex} {o1 : Nat} (hO1 : shB E.2.2.2.2.2.1 o1) (w : Wd) (a2 : Int32) (l : Launch) : MP l yL_isInOrder cL_isInOrder 6 (some .boolean) { frames := 4, cells := 0, slots := 0, locals := 89 } E [.ref (E.2.2.2.2.1 + o1), .int a2] w (fL_isInOrder w o1 a2) :=
  y_met (Qc := fun r => yQi E (r, w)) (by decide +kernel) (Nat.le_of_ble_eq_true rfl) (fun g C hR => eL_isInOrder C hR hO1 w a2) l
