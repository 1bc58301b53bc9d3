/-! L_reckon -/
def bL_reckon_127 (K4 : Wd → Int32 → Int32 → Option (Int32 × Wd)) (K19 : Wd → Int32 → Int32 → Int32 → Int32 → Int32 → Option (Int32 × Wd)) (w : Wd) (o1 k2 q2 : Nat) (x3 : Int32) (x4 : Int32) (s0 : Int32) : Option (Int32 × Wd) :=
  (fX5_document w o1 x3 0).bind fun v4 =>
  if v4 = 1 then
    (stI q2 w k2 x3 0).bind fun w7 =>
    K4 w7 s0 (x3 + 1)
  else
    (stI q2 w k2 x3 x4).bind fun w6 =>
    K4 w6 s0 (x3 + 1)
set_option maxRecDepth 4000 in
theorem cbL_reckon_127 {g : Gx} {E : Ex} (C : CC g E cL_reckon 8 RL 6 134) (hR : RT g (some .boolean)) {o1 k2 q2 : Nat} (hO1 : shB E.2.2.2.2.2.1 o1) (hk2 : E.2.2.2.2.2.1[k2]? = some (0, q2)) (w : Wd) (K4 : Wd → Int32 → Int32 → Option (Int32 × Wd)) (hK4 : ∀ (w : Wd) (x2 : Int32) (x3 : Int32), YO g E 8 (QI g E) (K4 w x2 x3) w 4 [(0, .ref (E.2.2.2.2.1 + o1)), (1, .ref (E.2.2.2.2.1 + k2)), (2, .int x2), (3, .int x3)] []) (K19 : Wd → Int32 → Int32 → Int32 → Int32 → Int32 → Option (Int32 × Wd)) (hK19 : ∀ (w : Wd) (x2 : Int32) (x3 : Int32) (x4 : Int32) (x5 : Int32) (x6 : Int32), YO g E 8 (QI g E) (K19 w x2 x3 x4 x5 x6) w 19 [(0, .ref (E.2.2.2.2.1 + o1)), (1, .ref (E.2.2.2.2.1 + k2)), (2, .int x2), (3, .int x3), (4, .int x4), (5, .int x5), (6, .int x6)] []) (x3 : Int32) (x4 : Int32) (s0 : Int32) : YO g E 8 (QI g E) (bL_reckon_127 K4 K19 w o1 k2 q2 x3 x4 s0) w 127 [(0, .ref (E.2.2.2.2.1 + o1)), (1, .ref (E.2.2.2.2.1 + k2)), (3, .int x3), (4, .int x4)] [.int s0] := by
  unfold bL_reckon_127
  refine y_istore_n (n := 128) (ls' := [(2, .int s0), (0, .ref (E.2.2.2.2.1 + o1)), (1, .ref (E.2.2.2.2.1 + k2)), (3, .int x3), (4, .int x4)]) C dL_reckon_127 (by decide) rfl rfl ?_
  refine y_aload_n (n := 129) C dL_reckon_128 2 rfl rfl ?_
  refine y_iload_n (n := 130) C dL_reckon_129 3 rfl rfl ?_
  refine y_aload_n (n := 131) C dL_reckon_130 1 rfl rfl ?_
  refine y_iload_n (n := 132) C dL_reckon_131 3 rfl rfl ?_
  refine y_iconst (n := 133) C (0 : Int32) dL_reckon_132 (by decide) rfl ?_
  refine y_cp (n := 136) C (fun r hr H locs la hP hS hl => y_runV (ci := 5) (st := [.int x3, .ref (E.2.2.2.2.1 + k2)]) C ky_X5_document wd_361 ⟨Nat.le_of_ble_eq_true rfl, Nat.le_of_ble_eq_true rfl⟩ hO1.1 rfl (mX5_document hO1 w x3 0 g.2.1 r hr) rfl (Nat.le_of_ble_eq_true rfl) rfl dL_reckon_133 hP hS hl) rfl (fun v4 hv4 => ?_)
  refine y_iconst (n := 137) C (1 : Int32) dL_reckon_136 (by decide) rfl ?_
  refine y_icmp_ne (tgt := 144) (n := 140) C dL_reckon_137 (by decide) rfl (fun h5 => ?_) (fun h5 => ?_)
  · refine y_iload (n := 146) C dL_reckon_144 4 rfl rfl ?_
    refine y_iast (n := 147) C hk2 dL_reckon_146 rfl (fun w6 hw6 => ?_)
    refine y_iinc (n := 150) (v := x3 + 1) (ls' := [(3, .int (x3 + 1)), (2, .int s0), (0, .ref (E.2.2.2.2.1 + o1)), (1, .ref (E.2.2.2.2.1 + k2)), (4, .int x4)]) C dL_reckon_147 3 rfl rfl (by decide) rfl rfl ?_
    refine y_goto (tgt := 4) C dL_reckon_150 (by decide) ?_
    refine y_ls [2, 3, 1, 0] rfl ?_
    exact hK4 w6 s0 (x3 + 1)
  · refine y_iconst (n := 141) C (0 : Int32) dL_reckon_140 (by decide) rfl ?_
    refine y_goto (tgt := 146) C dL_reckon_141 (by decide) ?_
    refine y_iast (n := 147) C hk2 dL_reckon_146 rfl (fun w7 hw7 => ?_)
    refine y_iinc (n := 150) (v := x3 + 1) (ls' := [(3, .int (x3 + 1)), (2, .int s0), (0, .ref (E.2.2.2.2.1 + o1)), (1, .ref (E.2.2.2.2.1 + k2)), (4, .int x4)]) C dL_reckon_147 3 rfl rfl (by decide) rfl rfl ?_
    refine y_goto (tgt := 4) C dL_reckon_150 (by decide) ?_
    refine y_ls [2, 3, 1, 0] rfl ?_
    exact hK4 w7 s0 (x3 + 1)
def bL_reckon_126 (K4 : Wd → Int32 → Int32 → Option (Int32 × Wd)) (K19 : Wd → Int32 → Int32 → Int32 → Int32 → Int32 → Option (Int32 × Wd)) (w : Wd) (o1 k2 q2 : Nat) (x3 : Int32) (x4 : Int32) : Option (Int32 × Wd) :=
  bL_reckon_127 K4 K19 w o1 k2 q2 x3 x4 0
set_option maxRecDepth 4000 in
theorem cbL_reckon_126 {g : Gx} {E : Ex} (C : CC g E cL_reckon 8 RL 6 134) (hR : RT g (some .boolean)) {o1 k2 q2 : Nat} (hO1 : shB E.2.2.2.2.2.1 o1) (hk2 : E.2.2.2.2.2.1[k2]? = some (0, q2)) (w : Wd) (K4 : Wd → Int32 → Int32 → Option (Int32 × Wd)) (hK4 : ∀ (w : Wd) (x2 : Int32) (x3 : Int32), YO g E 8 (QI g E) (K4 w x2 x3) w 4 [(0, .ref (E.2.2.2.2.1 + o1)), (1, .ref (E.2.2.2.2.1 + k2)), (2, .int x2), (3, .int x3)] []) (K19 : Wd → Int32 → Int32 → Int32 → Int32 → Int32 → Option (Int32 × Wd)) (hK19 : ∀ (w : Wd) (x2 : Int32) (x3 : Int32) (x4 : Int32) (x5 : Int32) (x6 : Int32), YO g E 8 (QI g E) (K19 w x2 x3 x4 x5 x6) w 19 [(0, .ref (E.2.2.2.2.1 + o1)), (1, .ref (E.2.2.2.2.1 + k2)), (2, .int x2), (3, .int x3), (4, .int x4), (5, .int x5), (6, .int x6)] []) (x3 : Int32) (x4 : Int32) : YO g E 8 (QI g E) (bL_reckon_126 K4 K19 w o1 k2 q2 x3 x4) w 126 [(0, .ref (E.2.2.2.2.1 + o1)), (1, .ref (E.2.2.2.2.1 + k2)), (3, .int x3), (4, .int x4)] [] := by
  unfold bL_reckon_126
  refine y_iconst (n := 127) C (0 : Int32) dL_reckon_126 (by decide) rfl ?_
  exact cbL_reckon_127 C hR hO1 hk2 w K4 hK4 K19 hK19 x3 x4 0
def bL_reckon_96 (K4 : Wd → Int32 → Int32 → Option (Int32 × Wd)) (K19 : Wd → Int32 → Int32 → Int32 → Int32 → Int32 → Option (Int32 × Wd)) (w : Wd) (o1 k2 q2 : Nat) (x2 : Int32) (x3 : Int32) (x4 : Int32) (x5 : Int32) : Option (Int32 × Wd) :=
  if x2 = 0 then
    bL_reckon_126 K4 K19 w o1 k2 q2 x3 x4
  else
    (fX5_document w o1 x3 1).bind fun v8 =>
    if v8 = x4 then
      (fX5_document w o1 x3 2).bind fun v10 =>
      if v10 = x5 then
        bL_reckon_127 K4 K19 w o1 k2 q2 x3 x4 1
      else
        bL_reckon_126 K4 K19 w o1 k2 q2 x3 x4
    else
      bL_reckon_126 K4 K19 w o1 k2 q2 x3 x4
set_option maxRecDepth 4000 in
theorem cbL_reckon_96 {g : Gx} {E : Ex} (C : CC g E cL_reckon 8 RL 6 134) (hR : RT g (some .boolean)) {o1 k2 q2 : Nat} (hO1 : shB E.2.2.2.2.2.1 o1) (hk2 : E.2.2.2.2.2.1[k2]? = some (0, q2)) (w : Wd) (K4 : Wd → Int32 → Int32 → Option (Int32 × Wd)) (hK4 : ∀ (w : Wd) (x2 : Int32) (x3 : Int32), YO g E 8 (QI g E) (K4 w x2 x3) w 4 [(0, .ref (E.2.2.2.2.1 + o1)), (1, .ref (E.2.2.2.2.1 + k2)), (2, .int x2), (3, .int x3)] []) (K19 : Wd → Int32 → Int32 → Int32 → Int32 → Int32 → Option (Int32 × Wd)) (hK19 : ∀ (w : Wd) (x2 : Int32) (x3 : Int32) (x4 : Int32) (x5 : Int32) (x6 : Int32), YO g E 8 (QI g E) (K19 w x2 x3 x4 x5 x6) w 19 [(0, .ref (E.2.2.2.2.1 + o1)), (1, .ref (E.2.2.2.2.1 + k2)), (2, .int x2), (3, .int x3), (4, .int x4), (5, .int x5), (6, .int x6)] []) (x2 : Int32) (x3 : Int32) (x4 : Int32) (x5 : Int32) : YO g E 8 (QI g E) (bL_reckon_96 K4 K19 w o1 k2 q2 x2 x3 x4 x5) w 96 [(0, .ref (E.2.2.2.2.1 + o1)), (1, .ref (E.2.2.2.2.1 + k2)), (2, .int x2), (3, .int x3), (4, .int x4), (5, .int x5)] [] := by
  unfold bL_reckon_96
  refine y_iload_n (n := 97) C dL_reckon_96 2 rfl rfl ?_
  refine y_if_eq (tgt := 126) (n := 100) C dL_reckon_97 (by decide) rfl (fun h3 => ?_) (fun h3 => ?_)
  · refine y_ls [0, 1, 3, 4] rfl ?_
    exact cbL_reckon_126 C hR hO1 hk2 w K4 hK4 K19 hK19 x3 x4
  · refine y_aload_n (n := 101) C dL_reckon_100 0 rfl rfl ?_
    refine y_iload_n (n := 102) C dL_reckon_101 3 rfl rfl ?_
    refine y_iconst (n := 103) C (1 : Int32) dL_reckon_102 (by decide) rfl ?_
    refine y_cp (n := 106) C (fun r hr H locs la hP hS hl => y_runV (ci := 5) (st := []) C ky_X5_document wd_361 ⟨Nat.le_of_ble_eq_true rfl, Nat.le_of_ble_eq_true rfl⟩ hO1.1 rfl (mX5_document hO1 w x3 1 g.2.1 r hr) rfl (Nat.le_of_ble_eq_true rfl) rfl dL_reckon_103 hP hS hl) rfl (fun v8 hv8 => ?_)
    refine y_iload (n := 108) C dL_reckon_106 4 rfl rfl ?_
    refine y_icmp_ne (tgt := 126) (n := 111) C dL_reckon_108 (by decide) rfl (fun h9 => ?_) (fun h9 => ?_)
    · refine y_ls [0, 1, 3, 4] rfl ?_
      exact cbL_reckon_126 C hR hO1 hk2 w K4 hK4 K19 hK19 x3 x4
    · refine y_aload_n (n := 112) C dL_reckon_111 0 rfl rfl ?_
      refine y_iload_n (n := 113) C dL_reckon_112 3 rfl rfl ?_
      refine y_iconst (n := 114) C (2 : Int32) dL_reckon_113 (by decide) rfl ?_
      refine y_cp (n := 117) C (fun r hr H locs la hP hS hl => y_runV (ci := 5) (st := []) C ky_X5_document wd_361 ⟨Nat.le_of_ble_eq_true rfl, Nat.le_of_ble_eq_true rfl⟩ hO1.1 rfl (mX5_document hO1 w x3 2 g.2.1 r hr) rfl (Nat.le_of_ble_eq_true rfl) rfl dL_reckon_114 hP hS hl) rfl (fun v10 hv10 => ?_)
      refine y_iload (n := 119) C dL_reckon_117 5 rfl rfl ?_
      refine y_icmp_ne (tgt := 126) (n := 122) C dL_reckon_119 (by decide) rfl (fun h11 => ?_) (fun h11 => ?_)
      · refine y_ls [0, 1, 3, 4] rfl ?_
        exact cbL_reckon_126 C hR hO1 hk2 w K4 hK4 K19 hK19 x3 x4
      · refine y_iconst (n := 123) C (1 : Int32) dL_reckon_122 (by decide) rfl ?_
        refine y_goto (tgt := 127) C dL_reckon_123 (by decide) ?_
        refine y_ls [0, 1, 3, 4] rfl ?_
        exact cbL_reckon_127 C hR hO1 hk2 w K4 hK4 K19 hK19 x3 x4 1
def bL_reckon_87 (K4 : Wd → Int32 → Int32 → Option (Int32 × Wd)) (K19 : Wd → Int32 → Int32 → Int32 → Int32 → Int32 → Option (Int32 × Wd)) (w : Wd) (o1 k2 q2 : Nat) (x2 : Int32) (x3 : Int32) (x4 : Int32) (x6 : Int32) (s0 : Int32) (s1 : Int32) : Option (Int32 × Wd) :=
  K19 w x2 x3 x4 (s1 ||| s0) (x6 + 1)
set_option maxRecDepth 4000 in
theorem cbL_reckon_87 {g : Gx} {E : Ex} (C : CC g E cL_reckon 8 RL 6 134) (hR : RT g (some .boolean)) {o1 k2 q2 : Nat} (hO1 : shB E.2.2.2.2.2.1 o1) (hk2 : E.2.2.2.2.2.1[k2]? = some (0, q2)) (w : Wd) (K4 : Wd → Int32 → Int32 → Option (Int32 × Wd)) (hK4 : ∀ (w : Wd) (x2 : Int32) (x3 : Int32), YO g E 8 (QI g E) (K4 w x2 x3) w 4 [(0, .ref (E.2.2.2.2.1 + o1)), (1, .ref (E.2.2.2.2.1 + k2)), (2, .int x2), (3, .int x3)] []) (K19 : Wd → Int32 → Int32 → Int32 → Int32 → Int32 → Option (Int32 × Wd)) (hK19 : ∀ (w : Wd) (x2 : Int32) (x3 : Int32) (x4 : Int32) (x5 : Int32) (x6 : Int32), YO g E 8 (QI g E) (K19 w x2 x3 x4 x5 x6) w 19 [(0, .ref (E.2.2.2.2.1 + o1)), (1, .ref (E.2.2.2.2.1 + k2)), (2, .int x2), (3, .int x3), (4, .int x4), (5, .int x5), (6, .int x6)] []) (x2 : Int32) (x3 : Int32) (x4 : Int32) (x6 : Int32) (s0 : Int32) (s1 : Int32) : YO g E 8 (QI g E) (bL_reckon_87 K4 K19 w o1 k2 q2 x2 x3 x4 x6 s0 s1) w 87 [(0, .ref (E.2.2.2.2.1 + o1)), (1, .ref (E.2.2.2.2.1 + k2)), (2, .int x2), (3, .int x3), (4, .int x4), (6, .int x6)] [.int s0, .int s1] := by
  unfold bL_reckon_87
  refine y_ior (n := 88) C dL_reckon_87 rfl ?_
  refine y_istore (n := 90) (ls' := [(5, .int (s1 ||| s0)), (0, .ref (E.2.2.2.2.1 + o1)), (1, .ref (E.2.2.2.2.1 + k2)), (2, .int x2), (3, .int x3), (4, .int x4), (6, .int x6)]) C dL_reckon_88 (by decide) rfl rfl ?_
  refine y_iinc (n := 93) (v := x6 + 1) (ls' := [(6, .int (x6 + 1)), (5, .int (s1 ||| s0)), (0, .ref (E.2.2.2.2.1 + o1)), (1, .ref (E.2.2.2.2.1 + k2)), (2, .int x2), (3, .int x3), (4, .int x4)]) C dL_reckon_90 6 rfl rfl (by decide) rfl rfl ?_
  refine y_goto (tgt := 19) C dL_reckon_93 (by decide) ?_
  refine y_ls [2, 3, 4, 5, 6, 1, 0] rfl ?_
  exact hK19 w x2 x3 x4 (s1 ||| s0) (x6 + 1)
def bL_reckon_69 (K4 : Wd → Int32 → Int32 → Option (Int32 × Wd)) (K19 : Wd → Int32 → Int32 → Int32 → Int32 → Int32 → Option (Int32 × Wd)) (w : Wd) (o1 k2 q2 : Nat) (x2 : Int32) (x3 : Int32) (x5 : Int32) (x6 : Int32) (x7 : Int32) (s0 : Int32) (s1 : Int32) : Option (Int32 × Wd) :=
  if 0 ≤ x7 then
    bL_reckon_87 K4 K19 w o1 k2 q2 x2 x3 (s1 + s0) x6 (1 <<< (x6 &&& 31)) x5
  else
    bL_reckon_87 K4 K19 w o1 k2 q2 x2 x3 (s1 + s0) x6 0 x5
set_option maxRecDepth 4000 in
theorem cbL_reckon_69 {g : Gx} {E : Ex} (C : CC g E cL_reckon 8 RL 6 134) (hR : RT g (some .boolean)) {o1 k2 q2 : Nat} (hO1 : shB E.2.2.2.2.2.1 o1) (hk2 : E.2.2.2.2.2.1[k2]? = some (0, q2)) (w : Wd) (K4 : Wd → Int32 → Int32 → Option (Int32 × Wd)) (hK4 : ∀ (w : Wd) (x2 : Int32) (x3 : Int32), YO g E 8 (QI g E) (K4 w x2 x3) w 4 [(0, .ref (E.2.2.2.2.1 + o1)), (1, .ref (E.2.2.2.2.1 + k2)), (2, .int x2), (3, .int x3)] []) (K19 : Wd → Int32 → Int32 → Int32 → Int32 → Int32 → Option (Int32 × Wd)) (hK19 : ∀ (w : Wd) (x2 : Int32) (x3 : Int32) (x4 : Int32) (x5 : Int32) (x6 : Int32), YO g E 8 (QI g E) (K19 w x2 x3 x4 x5 x6) w 19 [(0, .ref (E.2.2.2.2.1 + o1)), (1, .ref (E.2.2.2.2.1 + k2)), (2, .int x2), (3, .int x3), (4, .int x4), (5, .int x5), (6, .int x6)] []) (x2 : Int32) (x3 : Int32) (x5 : Int32) (x6 : Int32) (x7 : Int32) (s0 : Int32) (s1 : Int32) : YO g E 8 (QI g E) (bL_reckon_69 K4 K19 w o1 k2 q2 x2 x3 x5 x6 x7 s0 s1) w 69 [(0, .ref (E.2.2.2.2.1 + o1)), (1, .ref (E.2.2.2.2.1 + k2)), (2, .int x2), (3, .int x3), (5, .int x5), (6, .int x6), (7, .int x7)] [.int s0, .int s1] := by
  unfold bL_reckon_69
  refine y_iadd (n := 70) C dL_reckon_69 rfl ?_
  refine y_istore (n := 72) (ls' := [(4, .int (s1 + s0)), (0, .ref (E.2.2.2.2.1 + o1)), (1, .ref (E.2.2.2.2.1 + k2)), (2, .int x2), (3, .int x3), (5, .int x5), (6, .int x6), (7, .int x7)]) C dL_reckon_70 (by decide) rfl rfl ?_
  refine y_iload (n := 74) C dL_reckon_72 5 rfl rfl ?_
  refine y_iload (n := 76) C dL_reckon_74 7 rfl rfl ?_
  refine y_if_ge (tgt := 83) (n := 79) C dL_reckon_76 (by decide) rfl (fun h17 => ?_) (fun h17 => ?_)
  · refine y_iconst (n := 84) C (1 : Int32) dL_reckon_83 (by decide) rfl ?_
    refine y_iload (n := 86) C dL_reckon_84 6 rfl rfl ?_
    refine y_ishl (n := 87) C dL_reckon_86 rfl ?_
    refine y_ls [1, 2, 3, 4, 0, 6] rfl ?_
    exact cbL_reckon_87 C hR hO1 hk2 w K4 hK4 K19 hK19 x2 x3 (s1 + s0) x6 (1 <<< (x6 &&& 31)) x5
  · refine y_iconst (n := 80) C (0 : Int32) dL_reckon_79 (by decide) rfl ?_
    refine y_goto (tgt := 87) C dL_reckon_80 (by decide) ?_
    refine y_ls [1, 2, 3, 4, 0, 6] rfl ?_
    exact cbL_reckon_87 C hR hO1 hk2 w K4 hK4 K19 hK19 x2 x3 (s1 + s0) x6 0 x5
def lL_reckon_19 (o1 k2 q2 : Nat) (K4 : Wd → Int32 → Int32 → Option (Int32 × Wd)) : Nat → Wd → Int32 → Int32 → Int32 → Int32 → Int32 → Option (Int32 × Wd)
  | 0, _, _, _, _, _, _ => none
  | n + 1, w, x2, x3, x4, x5, x6 =>
    if 6 ≤ x6 then
      bL_reckon_96 K4 (fun w z0 z1 z2 z3 z4 => lL_reckon_19 o1 k2 q2 K4 n w z0 z1 z2 z3 z4) w o1 k2 q2 x2 x3 x4 x5
    else
      if 12 ≤ x3 then
        bL_reckon_96 K4 (fun w z0 z1 z2 z3 z4 => lL_reckon_19 o1 k2 q2 K4 n w z0 z1 z2 z3 z4) w o1 k2 q2 x2 x3 x4 x5
      else
        (fL_placeOf w o1 x6 x3).bind fun v13 =>
        if 0 ≤ v13 then
          (fX5_list w o1 x6 1).bind fun v15 =>
          (fX5_entry w o1 x6 v13 1).bind fun v16 =>
          bL_reckon_69 K4 (fun w z0 z1 z2 z3 z4 => lL_reckon_19 o1 k2 q2 K4 n w z0 z1 z2 z3 z4) w o1 k2 q2 x2 x3 x5 x6 v13 (v15 * v16) x4
        else
          bL_reckon_69 K4 (fun w z0 z1 z2 z3 z4 => lL_reckon_19 o1 k2 q2 K4 n w z0 z1 z2 z3 z4) w o1 k2 q2 x2 x3 x5 x6 v13 0 x4
set_option maxRecDepth 4000 in
theorem clL_reckon_19 {g : Gx} {E : Ex} (C : CC g E cL_reckon 8 RL 6 134) (hR : RT g (some .boolean)) {o1 k2 q2 : Nat} (hO1 : shB E.2.2.2.2.2.1 o1) (hk2 : E.2.2.2.2.2.1[k2]? = some (0, q2)) (K4 : Wd → Int32 → Int32 → Option (Int32 × Wd)) (hK4 : ∀ (w : Wd) (x2 : Int32) (x3 : Int32), YO g E 8 (QI g E) (K4 w x2 x3) w 4 [(0, .ref (E.2.2.2.2.1 + o1)), (1, .ref (E.2.2.2.2.1 + k2)), (2, .int x2), (3, .int x3)] [])  : ∀ (n : Nat) (w : Wd) (x2 : Int32) (x3 : Int32) (x4 : Int32) (x5 : Int32) (x6 : Int32), YO g E 8 (QI g E) (lL_reckon_19 o1 k2 q2 K4 n w x2 x3 x4 x5 x6) w 19 [(0, .ref (E.2.2.2.2.1 + o1)), (1, .ref (E.2.2.2.2.1 + k2)), (2, .int x2), (3, .int x3), (4, .int x4), (5, .int x5), (6, .int x6)] [] := by
  intro n
  induction n with
  | zero => intro w x2 x3 x4 x5 x6; exact y_no
  | succ n ih =>
    intro w x2 x3 x4 x5 x6
    rw [lL_reckon_19]
    refine y_iload (n := 21) C dL_reckon_19 6 rfl rfl ?_
    refine y_bipush (n := 23) C (6 : Int32) dL_reckon_21 (by decide) rfl ?_
    refine y_icmp_ge (tgt := 96) (n := 26) C dL_reckon_23 (by decide) rfl (fun h2 => ?_) (fun h2 => ?_)
    · refine y_ls [0, 1, 2, 3, 4, 5] rfl ?_
      exact cbL_reckon_96 C hR hO1 hk2 w K4 hK4 (fun w z0 z1 z2 z3 z4 => lL_reckon_19 o1 k2 q2 K4 n w z0 z1 z2 z3 z4)  (fun w z0 z1 z2 z3 z4 => ih w z0 z1 z2 z3 z4) x2 x3 x4 x5
    · refine y_iload_n (n := 27) C dL_reckon_26 3 rfl rfl ?_
      refine y_bipush (n := 29) C (12 : Int32) dL_reckon_27 (by decide) rfl ?_
      refine y_icmp_ge (tgt := 96) (n := 32) C dL_reckon_29 (by decide) rfl (fun h12 => ?_) (fun h12 => ?_)
      · refine y_ls [0, 1, 2, 3, 4, 5] rfl ?_
        exact cbL_reckon_96 C hR hO1 hk2 w K4 hK4 (fun w z0 z1 z2 z3 z4 => lL_reckon_19 o1 k2 q2 K4 n w z0 z1 z2 z3 z4)  (fun w z0 z1 z2 z3 z4 => ih w z0 z1 z2 z3 z4) x2 x3 x4 x5
      · refine y_aload_n (n := 33) C dL_reckon_32 0 rfl rfl ?_
        refine y_iload (n := 35) C dL_reckon_33 6 rfl rfl ?_
        refine y_iload_n (n := 36) C dL_reckon_35 3 rfl rfl ?_
        refine y_cp (n := 39) C (fun r hr H locs la hP hS hl => y_runS (st := []) C ky_L_placeOf wd_473 ⟨Nat.le_of_ble_eq_true rfl, Nat.le_of_ble_eq_true rfl⟩ (mL_placeOf hO1 w x6 x3 g.2.1 r hr) rfl (Nat.le_of_ble_eq_true rfl) rfl dL_reckon_36 hP hS hl) rfl (fun v13 hv13 => ?_)
        refine y_istore (n := 41) (ls' := [(7, .int v13), (0, .ref (E.2.2.2.2.1 + o1)), (1, .ref (E.2.2.2.2.1 + k2)), (2, .int x2), (3, .int x3), (4, .int x4), (5, .int x5), (6, .int x6)]) C dL_reckon_39 (by decide) rfl rfl ?_
        refine y_iload (n := 43) C dL_reckon_41 5 rfl rfl ?_
        refine y_iload (n := 45) C dL_reckon_43 0 rfl rfl ?_
        refine y_if_ge (tgt := 52) (n := 48) C dL_reckon_45 (by decide) rfl (fun h14 => ?_) (fun h14 => ?_)
        · refine y_aload_n (n := 53) C dL_reckon_52 1 rfl rfl ?_
          refine y_iload (n := 55) C dL_reckon_53 7 rfl rfl ?_
          refine y_iconst (n := 56) C (1 : Int32) dL_reckon_55 (by decide) rfl ?_
          refine y_cp (n := 59) C (fun r hr H locs la hP hS hl => y_runV (ci := 5) (st := [.int x4]) C ky_X5_list wd_476 ⟨Nat.le_of_ble_eq_true rfl, Nat.le_of_ble_eq_true rfl⟩ hO1.1 rfl (mX5_list hO1 w x6 1 g.2.1 r hr) rfl (Nat.le_of_ble_eq_true rfl) rfl dL_reckon_56 hP hS hl) rfl (fun v15 hv15 => ?_)
          refine y_aload_n (n := 60) C dL_reckon_59 1 rfl rfl ?_
          refine y_iload (n := 62) C dL_reckon_60 7 rfl rfl ?_
          refine y_iload (n := 64) C dL_reckon_62 0 rfl rfl ?_
          refine y_iconst (n := 65) C (1 : Int32) dL_reckon_64 (by decide) rfl ?_
          refine y_cp (n := 68) C (fun r hr H locs la hP hS hl => y_runV (ci := 5) (st := [.int v15, .int x4]) C ky_X5_entry wd_487 ⟨Nat.le_of_ble_eq_true rfl, Nat.le_of_ble_eq_true rfl⟩ hO1.1 rfl (mX5_entry hO1 w x6 v13 1 g.2.1 r hr) rfl (Nat.le_of_ble_eq_true rfl) rfl dL_reckon_65 hP hS hl) rfl (fun v16 hv16 => ?_)
          refine y_imul (n := 69) C dL_reckon_68 rfl ?_
          refine y_ls [1, 2, 3, 4, 6, 7, 0] rfl ?_
          exact cbL_reckon_69 C hR hO1 hk2 w K4 hK4 (fun w z0 z1 z2 z3 z4 => lL_reckon_19 o1 k2 q2 K4 n w z0 z1 z2 z3 z4)  (fun w z0 z1 z2 z3 z4 => ih w z0 z1 z2 z3 z4) x2 x3 x5 x6 v13 (v15 * v16) x4
        · refine y_iconst (n := 49) C (0 : Int32) dL_reckon_48 (by decide) rfl ?_
          refine y_goto (tgt := 69) C dL_reckon_49 (by decide) ?_
          refine y_ls [1, 2, 3, 4, 6, 7, 0] rfl ?_
          exact cbL_reckon_69 C hR hO1 hk2 w K4 hK4 (fun w z0 z1 z2 z3 z4 => lL_reckon_19 o1 k2 q2 K4 n w z0 z1 z2 z3 z4)  (fun w z0 z1 z2 z3 z4 => ih w z0 z1 z2 z3 z4) x2 x3 x5 x6 v13 0 x4
def lL_reckon_4 (o1 k2 q2 : Nat) : Nat → Wd → Int32 → Int32 → Option (Int32 × Wd)
  | 0, _, _, _ => none
  | n + 1, w, x2, x3 =>
    if 60 ≤ x3 then
      (rtZ x2).bind fun z => some (z, w)
    else
      lL_reckon_19 o1 k2 q2 (fun w z0 z1 => lL_reckon_4 o1 k2 q2 n w z0 z1) 4096 w x2 x3 0 0 0
set_option maxRecDepth 4000 in
theorem clL_reckon_4 {g : Gx} {E : Ex} (C : CC g E cL_reckon 8 RL 6 134) (hR : RT g (some .boolean)) {o1 k2 q2 : Nat} (hO1 : shB E.2.2.2.2.2.1 o1) (hk2 : E.2.2.2.2.2.1[k2]? = some (0, q2))  : ∀ (n : Nat) (w : Wd) (x2 : Int32) (x3 : Int32), YO g E 8 (QI g E) (lL_reckon_4 o1 k2 q2 n w x2 x3) w 4 [(0, .ref (E.2.2.2.2.1 + o1)), (1, .ref (E.2.2.2.2.1 + k2)), (2, .int x2), (3, .int x3)] [] := by
  intro n
  induction n with
  | zero => intro w x2 x3; exact y_no
  | succ n ih =>
    intro w x2 x3
    rw [lL_reckon_4]
    refine y_iload_n (n := 5) C dL_reckon_4 3 rfl rfl ?_
    refine y_bipush (n := 7) C (60 : Int32) dL_reckon_5 (by decide) rfl ?_
    refine y_icmp_ge (tgt := 153) (n := 10) C dL_reckon_7 (by decide) rfl (fun h1 => ?_) (fun h1 => ?_)
    · refine y_iload_n (n := 154) C dL_reckon_153 2 rfl rfl ?_
      exact y_rzi C hR dL_reckon_154
    · refine y_iconst (n := 11) C (0 : Int32) dL_reckon_10 (by decide) rfl ?_
      refine y_istore (n := 13) (ls' := [(4, .int 0), (0, .ref (E.2.2.2.2.1 + o1)), (1, .ref (E.2.2.2.2.1 + k2)), (2, .int x2), (3, .int x3)]) C dL_reckon_11 (by decide) rfl rfl ?_
      refine y_iconst (n := 14) C (0 : Int32) dL_reckon_13 (by decide) rfl ?_
      refine y_istore (n := 16) (ls' := [(5, .int 0), (4, .int 0), (0, .ref (E.2.2.2.2.1 + o1)), (1, .ref (E.2.2.2.2.1 + k2)), (2, .int x2), (3, .int x3)]) C dL_reckon_14 (by decide) rfl rfl ?_
      refine y_iconst (n := 17) C (0 : Int32) dL_reckon_16 (by decide) rfl ?_
      refine y_istore (n := 19) (ls' := [(6, .int 0), (5, .int 0), (4, .int 0), (0, .ref (E.2.2.2.2.1 + o1)), (1, .ref (E.2.2.2.2.1 + k2)), (2, .int x2), (3, .int x3)]) C dL_reckon_17 (by decide) rfl rfl ?_
      refine y_ls [3, 4, 5, 6, 2, 1, 0] rfl ?_
      exact clL_reckon_19 C hR hO1 hk2 (fun w z0 z1 => lL_reckon_4 o1 k2 q2 n w z0 z1)  (fun w z0 z1 => ih w z0 z1) 4096 w x2 x3 0 0 0
def fL_reckon (w : Wd) (o1 k2 q2 : Nat)  : Option (Int32 × Wd) :=
  lL_reckon_4 o1 k2 q2 4096 w 1 0
set_option maxRecDepth 4000 in
theorem eL_reckon {g : Gx} {E : Ex} (C : CC g E cL_reckon 8 RL 6 134) (hR : RT g (some .boolean)) {o1 k2 q2 : Nat} (hO1 : shB E.2.2.2.2.2.1 o1) (hk2 : E.2.2.2.2.2.1[k2]? = some (0, q2)) (w : Wd)  : YO g E 8 (QI g E) (fL_reckon w o1 k2 q2) w 0 [(0, .ref (E.2.2.2.2.1 + o1)), (1, .ref (E.2.2.2.2.1 + k2))] [] := by
  unfold fL_reckon
  refine y_iconst (n := 1) C (1 : Int32) dL_reckon_0 (by decide) rfl ?_
  refine y_istore_n (n := 2) (ls' := [(2, .int 1), (0, .ref (E.2.2.2.2.1 + o1)), (1, .ref (E.2.2.2.2.1 + k2))]) C dL_reckon_1 (by decide) rfl rfl ?_
  refine y_iconst (n := 3) C (0 : Int32) dL_reckon_2 (by decide) rfl ?_
  refine y_istore_n (n := 4) (ls' := [(3, .int 0), (2, .int 1), (0, .ref (E.2.2.2.2.1 + o1)), (1, .ref (E.2.2.2.2.1 + k2))]) C dL_reckon_3 (by decide) rfl rfl ?_
  refine y_ls [2, 3, 1, 0] rfl ?_
  exact clL_reckon_4 C hR hO1 hk2 4096 w 1 0
theorem mL_reckon {E : Ex} {o1 k2 q2 : Nat} (hO1 : shB E.2.2.2.2.2.1 o1) (hk2 : E.2.2.2.2.2.1[k2]? = some (0, q2)) (w : Wd)  (l : Launch) : MI l yL_reckon cL_reckon 8 (some .boolean) { frames := 6, cells := 0, slots := 0, locals := 134 } E [.ref (E.2.2.2.2.1 + o1), .ref (E.2.2.2.2.1 + k2)] w (fL_reckon w o1 k2 q2) :=
  y_met (Qc := yQi E) (by decide +kernel) (Nat.le_of_ble_eq_true rfl) (fun g C hR => eL_reckon C hR hO1 hk2 w ) l
