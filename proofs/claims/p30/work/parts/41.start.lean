def offL : Ly := [(4, 0), (0, 360), (0, 240), (0, 6), (0, 6), (0, 6)]
def reaL : Ly := [(5, 0), (0, 6), (0, 6), (0, 6), (0, 6), (0, 60), (0, 60), (0, 60), (0, 60)]
def staL : Ly := (6, 0) :: (offL ++ reaL)
def LY : Ly := [(8, 0)] ++ staL ++ [(3, 0), (2, 4)] ++ staL ++ staL ++ staL ++ staL ++ staL ++ [(7, 0), (1, 40), (0, 3)] ++ reaL ++ [(0, 64)]
theorem LY_len : LY.length = 112 := by decide
theorem LY_S1 : shS LY 1 := by decide +kernel
theorem LY_H : shH LY 17 := by decide +kernel
theorem LY_S83 : shS LY 83 := by decide +kernel
theorem LY_T : shT LY 99 := by decide +kernel
theorem LY_R : shR LY 102 := by decide +kernel
theorem LY_B : shB LY 0 := ⟨by decide +kernel, LY_S1, LY_H, LY_S83, LY_T, LY_R⟩
theorem LY_V : LY[111]? = some (0, 64) := by decide +kernel
/-- the world behind the two constructors -/
def w0 : Wd := (fun k => if k = 2 ∨ k = 20 ∨ k = 36 ∨ k = 52 ∨ k = 68 ∨ k = 84 then (fun j => if j = 6 then 3 else 0) else if k = 99 then (fun j => if j = 2 then -1 else 0) else fun _ => 0, fun _ => 0, fun _ j => 19 + 16 * j)
def bfin (E : Ex) : Nat → va_E := zu (mk_X5 E (zu (fun _ => .inr (0, [])) 0 (.inr (5, [.null, .null, .null, .int 0, .null, .null]))) 0 1) 111 (.inl (E.2.1, 64, .inl (fun _ => 0)))
def bAt (E : Ex) (k : Nat) : Prop := ∀ H : Heap, va_at E.1 vwCl (E.2.2.2.2.1 + k, bfin E k) H → va_at E.1 vwCl (E.2.2.2.2.1 + k, yC E w0 k (LY.getD k (0, 0))) H
theorem bAt_of {E : Ex} {k : Nat} (h : bfin E k = yC E w0 k (LY.getD k (0, 0))) : bAt E k := fun H a => by rw [← h]; exact a
theorem arrV_cong (c : ClassId) {n : Nat} {f f' : Nat → Value} (h : ∀ j, j < n → f j = f' j) : arrV c n f = arrV c n f' := by
  unfold arrV
  congr 1
  apply Array.ext
  · simp
  · intro i h1 h2
    simp only [Array.getElem_ofFn]
    exact h i (by simpa using h1)
theorem bA_18 (E : Ex) : bAt E 18 := by
  intro H a
  have e : bfin E 18 = .inl (E.2.2.2.1, 4, .inr (.inr (.inr (.inr (va_up (va_up (va_up (va_up (fun _ => none) 0 (some (E.2.2.2.2.1 + 19))) 1 (some (E.2.2.2.2.1 + 35))) 2 (some (E.2.2.2.2.1 + 51))) 3 (some (E.2.2.2.2.1 + 67))))))) := by rfl
  rw [e] at a
  have a1 : H[E.2.2.2.2.1 + 18]? = some (vp_cell E.2.2.2.1 (4, .inr (.inr (.inr (.inr (va_up (va_up (va_up (va_up (fun _ => none) 0 (some (E.2.2.2.2.1 + 19))) 1 (some (E.2.2.2.2.1 + 35))) 2 (some (E.2.2.2.2.1 + 51))) 3 (some (E.2.2.2.2.1 + 67)))))))) := a
  show H[E.2.2.2.2.1 + 18]? = some (vp_cell E.2.2.2.1 (4, .inr (.inr (.inr (.inr (fun j => some (E.2.2.2.2.1 + (19 + 16 * j))))))))
  rw [a1, vp_cell_q, vp_cell_q]
  refine congrArg some (arrV_cong _ (fun j hj => ?_))
  match j, hj with
  | 0, _ => rfl
  | 1, _ => rfl
  | 2, _ => rfl
  | 3, _ => rfl
  | j + 4, h => exact absurd h (by omega)
set_option maxRecDepth 100000 in
theorem bA_0 (E : Ex) : bAt E 0 := bAt_of (by rfl)
set_option maxRecDepth 100000 in
theorem bA_1 (E : Ex) : bAt E 1 := bAt_of (by rfl)
set_option maxRecDepth 100000 in
theorem bA_2 (E : Ex) : bAt E 2 := bAt_of (by rfl)
set_option maxRecDepth 100000 in
theorem bA_3 (E : Ex) : bAt E 3 := bAt_of (by rfl)
set_option maxRecDepth 100000 in
theorem bA_4 (E : Ex) : bAt E 4 := bAt_of (by rfl)
set_option maxRecDepth 100000 in
theorem bA_5 (E : Ex) : bAt E 5 := bAt_of (by rfl)
set_option maxRecDepth 100000 in
theorem bA_6 (E : Ex) : bAt E 6 := bAt_of (by rfl)
set_option maxRecDepth 100000 in
theorem bA_7 (E : Ex) : bAt E 7 := bAt_of (by rfl)
set_option maxRecDepth 100000 in
theorem bA_8 (E : Ex) : bAt E 8 := bAt_of (by rfl)
set_option maxRecDepth 100000 in
theorem bA_9 (E : Ex) : bAt E 9 := bAt_of (by rfl)
set_option maxRecDepth 100000 in
theorem bA_10 (E : Ex) : bAt E 10 := bAt_of (by rfl)
set_option maxRecDepth 100000 in
theorem bA_11 (E : Ex) : bAt E 11 := bAt_of (by rfl)
set_option maxRecDepth 100000 in
theorem bA_12 (E : Ex) : bAt E 12 := bAt_of (by rfl)
set_option maxRecDepth 100000 in
theorem bA_13 (E : Ex) : bAt E 13 := bAt_of (by rfl)
set_option maxRecDepth 100000 in
theorem bA_14 (E : Ex) : bAt E 14 := bAt_of (by rfl)
set_option maxRecDepth 100000 in
theorem bA_15 (E : Ex) : bAt E 15 := bAt_of (by rfl)
set_option maxRecDepth 100000 in
theorem bA_16 (E : Ex) : bAt E 16 := bAt_of (by rfl)
set_option maxRecDepth 100000 in
theorem bA_17 (E : Ex) : bAt E 17 := bAt_of (by rfl)
set_option maxRecDepth 100000 in
theorem bA_19 (E : Ex) : bAt E 19 := bAt_of (by rfl)
set_option maxRecDepth 100000 in
theorem bA_20 (E : Ex) : bAt E 20 := bAt_of (by rfl)
set_option maxRecDepth 100000 in
theorem bA_21 (E : Ex) : bAt E 21 := bAt_of (by rfl)
set_option maxRecDepth 100000 in
theorem bA_22 (E : Ex) : bAt E 22 := bAt_of (by rfl)
set_option maxRecDepth 100000 in
theorem bA_23 (E : Ex) : bAt E 23 := bAt_of (by rfl)
set_option maxRecDepth 100000 in
theorem bA_24 (E : Ex) : bAt E 24 := bAt_of (by rfl)
set_option maxRecDepth 100000 in
theorem bA_25 (E : Ex) : bAt E 25 := bAt_of (by rfl)
set_option maxRecDepth 100000 in
theorem bA_26 (E : Ex) : bAt E 26 := bAt_of (by rfl)
set_option maxRecDepth 100000 in
theorem bA_27 (E : Ex) : bAt E 27 := bAt_of (by rfl)
set_option maxRecDepth 100000 in
theorem bA_28 (E : Ex) : bAt E 28 := bAt_of (by rfl)
set_option maxRecDepth 100000 in
theorem bA_29 (E : Ex) : bAt E 29 := bAt_of (by rfl)
set_option maxRecDepth 100000 in
theorem bA_30 (E : Ex) : bAt E 30 := bAt_of (by rfl)
set_option maxRecDepth 100000 in
theorem bA_31 (E : Ex) : bAt E 31 := bAt_of (by rfl)
set_option maxRecDepth 100000 in
theorem bA_32 (E : Ex) : bAt E 32 := bAt_of (by rfl)
set_option maxRecDepth 100000 in
theorem bA_33 (E : Ex) : bAt E 33 := bAt_of (by rfl)
set_option maxRecDepth 100000 in
theorem bA_34 (E : Ex) : bAt E 34 := bAt_of (by rfl)
set_option maxRecDepth 100000 in
theorem bA_35 (E : Ex) : bAt E 35 := bAt_of (by rfl)
set_option maxRecDepth 100000 in
theorem bA_36 (E : Ex) : bAt E 36 := bAt_of (by rfl)
set_option maxRecDepth 100000 in
theorem bA_37 (E : Ex) : bAt E 37 := bAt_of (by rfl)
set_option maxRecDepth 100000 in
theorem bA_38 (E : Ex) : bAt E 38 := bAt_of (by rfl)
set_option maxRecDepth 100000 in
theorem bA_39 (E : Ex) : bAt E 39 := bAt_of (by rfl)
set_option maxRecDepth 100000 in
theorem bA_40 (E : Ex) : bAt E 40 := bAt_of (by rfl)
set_option maxRecDepth 100000 in
theorem bA_41 (E : Ex) : bAt E 41 := bAt_of (by rfl)
set_option maxRecDepth 100000 in
theorem bA_42 (E : Ex) : bAt E 42 := bAt_of (by rfl)
set_option maxRecDepth 100000 in
theorem bA_43 (E : Ex) : bAt E 43 := bAt_of (by rfl)
set_option maxRecDepth 100000 in
theorem bA_44 (E : Ex) : bAt E 44 := bAt_of (by rfl)
set_option maxRecDepth 100000 in
theorem bA_45 (E : Ex) : bAt E 45 := bAt_of (by rfl)
set_option maxRecDepth 100000 in
theorem bA_46 (E : Ex) : bAt E 46 := bAt_of (by rfl)
set_option maxRecDepth 100000 in
theorem bA_47 (E : Ex) : bAt E 47 := bAt_of (by rfl)
set_option maxRecDepth 100000 in
theorem bA_48 (E : Ex) : bAt E 48 := bAt_of (by rfl)
set_option maxRecDepth 100000 in
theorem bA_49 (E : Ex) : bAt E 49 := bAt_of (by rfl)
set_option maxRecDepth 100000 in
theorem bA_50 (E : Ex) : bAt E 50 := bAt_of (by rfl)
set_option maxRecDepth 100000 in
theorem bA_51 (E : Ex) : bAt E 51 := bAt_of (by rfl)
set_option maxRecDepth 100000 in
theorem bA_52 (E : Ex) : bAt E 52 := bAt_of (by rfl)
set_option maxRecDepth 100000 in
theorem bA_53 (E : Ex) : bAt E 53 := bAt_of (by rfl)
set_option maxRecDepth 100000 in
theorem bA_54 (E : Ex) : bAt E 54 := bAt_of (by rfl)
set_option maxRecDepth 100000 in
theorem bA_55 (E : Ex) : bAt E 55 := bAt_of (by rfl)
set_option maxRecDepth 100000 in
theorem bA_56 (E : Ex) : bAt E 56 := bAt_of (by rfl)
set_option maxRecDepth 100000 in
theorem bA_57 (E : Ex) : bAt E 57 := bAt_of (by rfl)
set_option maxRecDepth 100000 in
theorem bA_58 (E : Ex) : bAt E 58 := bAt_of (by rfl)
set_option maxRecDepth 100000 in
theorem bA_59 (E : Ex) : bAt E 59 := bAt_of (by rfl)
set_option maxRecDepth 100000 in
theorem bA_60 (E : Ex) : bAt E 60 := bAt_of (by rfl)
set_option maxRecDepth 100000 in
theorem bA_61 (E : Ex) : bAt E 61 := bAt_of (by rfl)
set_option maxRecDepth 100000 in
theorem bA_62 (E : Ex) : bAt E 62 := bAt_of (by rfl)
set_option maxRecDepth 100000 in
theorem bA_63 (E : Ex) : bAt E 63 := bAt_of (by rfl)
set_option maxRecDepth 100000 in
theorem bA_64 (E : Ex) : bAt E 64 := bAt_of (by rfl)
set_option maxRecDepth 100000 in
theorem bA_65 (E : Ex) : bAt E 65 := bAt_of (by rfl)
set_option maxRecDepth 100000 in
theorem bA_66 (E : Ex) : bAt E 66 := bAt_of (by rfl)
set_option maxRecDepth 100000 in
theorem bA_67 (E : Ex) : bAt E 67 := bAt_of (by rfl)
set_option maxRecDepth 100000 in
theorem bA_68 (E : Ex) : bAt E 68 := bAt_of (by rfl)
set_option maxRecDepth 100000 in
theorem bA_69 (E : Ex) : bAt E 69 := bAt_of (by rfl)
set_option maxRecDepth 100000 in
theorem bA_70 (E : Ex) : bAt E 70 := bAt_of (by rfl)
set_option maxRecDepth 100000 in
theorem bA_71 (E : Ex) : bAt E 71 := bAt_of (by rfl)
set_option maxRecDepth 100000 in
theorem bA_72 (E : Ex) : bAt E 72 := bAt_of (by rfl)
set_option maxRecDepth 100000 in
theorem bA_73 (E : Ex) : bAt E 73 := bAt_of (by rfl)
set_option maxRecDepth 100000 in
theorem bA_74 (E : Ex) : bAt E 74 := bAt_of (by rfl)
set_option maxRecDepth 100000 in
theorem bA_75 (E : Ex) : bAt E 75 := bAt_of (by rfl)
set_option maxRecDepth 100000 in
theorem bA_76 (E : Ex) : bAt E 76 := bAt_of (by rfl)
set_option maxRecDepth 100000 in
theorem bA_77 (E : Ex) : bAt E 77 := bAt_of (by rfl)
set_option maxRecDepth 100000 in
theorem bA_78 (E : Ex) : bAt E 78 := bAt_of (by rfl)
set_option maxRecDepth 100000 in
theorem bA_79 (E : Ex) : bAt E 79 := bAt_of (by rfl)
set_option maxRecDepth 100000 in
theorem bA_80 (E : Ex) : bAt E 80 := bAt_of (by rfl)
set_option maxRecDepth 100000 in
theorem bA_81 (E : Ex) : bAt E 81 := bAt_of (by rfl)
set_option maxRecDepth 100000 in
theorem bA_82 (E : Ex) : bAt E 82 := bAt_of (by rfl)
set_option maxRecDepth 100000 in
theorem bA_83 (E : Ex) : bAt E 83 := bAt_of (by rfl)
set_option maxRecDepth 100000 in
theorem bA_84 (E : Ex) : bAt E 84 := bAt_of (by rfl)
set_option maxRecDepth 100000 in
theorem bA_85 (E : Ex) : bAt E 85 := bAt_of (by rfl)
set_option maxRecDepth 100000 in
theorem bA_86 (E : Ex) : bAt E 86 := bAt_of (by rfl)
set_option maxRecDepth 100000 in
theorem bA_87 (E : Ex) : bAt E 87 := bAt_of (by rfl)
set_option maxRecDepth 100000 in
theorem bA_88 (E : Ex) : bAt E 88 := bAt_of (by rfl)
set_option maxRecDepth 100000 in
theorem bA_89 (E : Ex) : bAt E 89 := bAt_of (by rfl)
set_option maxRecDepth 100000 in
theorem bA_90 (E : Ex) : bAt E 90 := bAt_of (by rfl)
set_option maxRecDepth 100000 in
theorem bA_91 (E : Ex) : bAt E 91 := bAt_of (by rfl)
set_option maxRecDepth 100000 in
theorem bA_92 (E : Ex) : bAt E 92 := bAt_of (by rfl)
set_option maxRecDepth 100000 in
theorem bA_93 (E : Ex) : bAt E 93 := bAt_of (by rfl)
set_option maxRecDepth 100000 in
theorem bA_94 (E : Ex) : bAt E 94 := bAt_of (by rfl)
set_option maxRecDepth 100000 in
theorem bA_95 (E : Ex) : bAt E 95 := bAt_of (by rfl)
set_option maxRecDepth 100000 in
theorem bA_96 (E : Ex) : bAt E 96 := bAt_of (by rfl)
set_option maxRecDepth 100000 in
theorem bA_97 (E : Ex) : bAt E 97 := bAt_of (by rfl)
set_option maxRecDepth 100000 in
theorem bA_98 (E : Ex) : bAt E 98 := bAt_of (by rfl)
set_option maxRecDepth 100000 in
theorem bA_99 (E : Ex) : bAt E 99 := bAt_of (by rfl)
set_option maxRecDepth 100000 in
theorem bA_100 (E : Ex) : bAt E 100 := bAt_of (by rfl)
set_option maxRecDepth 100000 in
theorem bA_101 (E : Ex) : bAt E 101 := bAt_of (by rfl)
set_option maxRecDepth 100000 in
theorem bA_102 (E : Ex) : bAt E 102 := bAt_of (by rfl)
set_option maxRecDepth 100000 in
theorem bA_103 (E : Ex) : bAt E 103 := bAt_of (by rfl)
set_option maxRecDepth 100000 in
theorem bA_104 (E : Ex) : bAt E 104 := bAt_of (by rfl)
set_option maxRecDepth 100000 in
theorem bA_105 (E : Ex) : bAt E 105 := bAt_of (by rfl)
set_option maxRecDepth 100000 in
theorem bA_106 (E : Ex) : bAt E 106 := bAt_of (by rfl)
set_option maxRecDepth 100000 in
theorem bA_107 (E : Ex) : bAt E 107 := bAt_of (by rfl)
set_option maxRecDepth 100000 in
theorem bA_108 (E : Ex) : bAt E 108 := bAt_of (by rfl)
set_option maxRecDepth 100000 in
theorem bA_109 (E : Ex) : bAt E 109 := bAt_of (by rfl)
set_option maxRecDepth 100000 in
theorem bA_110 (E : Ex) : bAt E 110 := bAt_of (by rfl)
set_option maxRecDepth 100000 in
theorem bA_111 (E : Ex) : bAt E 111 := bAt_of (by rfl)
theorem bL_1 (E : Ex) : ∀ a, a < 1 → bAt E a := lt_s lt_0 (bA_0 E)
theorem bL_2 (E : Ex) : ∀ a, a < 2 → bAt E a := lt_s (bL_1 E) (bA_1 E)
theorem bL_3 (E : Ex) : ∀ a, a < 3 → bAt E a := lt_s (bL_2 E) (bA_2 E)
theorem bL_4 (E : Ex) : ∀ a, a < 4 → bAt E a := lt_s (bL_3 E) (bA_3 E)
theorem bL_5 (E : Ex) : ∀ a, a < 5 → bAt E a := lt_s (bL_4 E) (bA_4 E)
theorem bL_6 (E : Ex) : ∀ a, a < 6 → bAt E a := lt_s (bL_5 E) (bA_5 E)
theorem bL_7 (E : Ex) : ∀ a, a < 7 → bAt E a := lt_s (bL_6 E) (bA_6 E)
theorem bL_8 (E : Ex) : ∀ a, a < 8 → bAt E a := lt_s (bL_7 E) (bA_7 E)
theorem bL_9 (E : Ex) : ∀ a, a < 9 → bAt E a := lt_s (bL_8 E) (bA_8 E)
theorem bL_10 (E : Ex) : ∀ a, a < 10 → bAt E a := lt_s (bL_9 E) (bA_9 E)
theorem bL_11 (E : Ex) : ∀ a, a < 11 → bAt E a := lt_s (bL_10 E) (bA_10 E)
theorem bL_12 (E : Ex) : ∀ a, a < 12 → bAt E a := lt_s (bL_11 E) (bA_11 E)
theorem bL_13 (E : Ex) : ∀ a, a < 13 → bAt E a := lt_s (bL_12 E) (bA_12 E)
theorem bL_14 (E : Ex) : ∀ a, a < 14 → bAt E a := lt_s (bL_13 E) (bA_13 E)
theorem bL_15 (E : Ex) : ∀ a, a < 15 → bAt E a := lt_s (bL_14 E) (bA_14 E)
theorem bL_16 (E : Ex) : ∀ a, a < 16 → bAt E a := lt_s (bL_15 E) (bA_15 E)
theorem bL_17 (E : Ex) : ∀ a, a < 17 → bAt E a := lt_s (bL_16 E) (bA_16 E)
theorem bL_18 (E : Ex) : ∀ a, a < 18 → bAt E a := lt_s (bL_17 E) (bA_17 E)
theorem bL_19 (E : Ex) : ∀ a, a < 19 → bAt E a := lt_s (bL_18 E) (bA_18 E)
theorem bL_20 (E : Ex) : ∀ a, a < 20 → bAt E a := lt_s (bL_19 E) (bA_19 E)
theorem bL_21 (E : Ex) : ∀ a, a < 21 → bAt E a := lt_s (bL_20 E) (bA_20 E)
theorem bL_22 (E : Ex) : ∀ a, a < 22 → bAt E a := lt_s (bL_21 E) (bA_21 E)
theorem bL_23 (E : Ex) : ∀ a, a < 23 → bAt E a := lt_s (bL_22 E) (bA_22 E)
theorem bL_24 (E : Ex) : ∀ a, a < 24 → bAt E a := lt_s (bL_23 E) (bA_23 E)
theorem bL_25 (E : Ex) : ∀ a, a < 25 → bAt E a := lt_s (bL_24 E) (bA_24 E)
theorem bL_26 (E : Ex) : ∀ a, a < 26 → bAt E a := lt_s (bL_25 E) (bA_25 E)
theorem bL_27 (E : Ex) : ∀ a, a < 27 → bAt E a := lt_s (bL_26 E) (bA_26 E)
theorem bL_28 (E : Ex) : ∀ a, a < 28 → bAt E a := lt_s (bL_27 E) (bA_27 E)
theorem bL_29 (E : Ex) : ∀ a, a < 29 → bAt E a := lt_s (bL_28 E) (bA_28 E)
theorem bL_30 (E : Ex) : ∀ a, a < 30 → bAt E a := lt_s (bL_29 E) (bA_29 E)
theorem bL_31 (E : Ex) : ∀ a, a < 31 → bAt E a := lt_s (bL_30 E) (bA_30 E)
theorem bL_32 (E : Ex) : ∀ a, a < 32 → bAt E a := lt_s (bL_31 E) (bA_31 E)
theorem bL_33 (E : Ex) : ∀ a, a < 33 → bAt E a := lt_s (bL_32 E) (bA_32 E)
theorem bL_34 (E : Ex) : ∀ a, a < 34 → bAt E a := lt_s (bL_33 E) (bA_33 E)
theorem bL_35 (E : Ex) : ∀ a, a < 35 → bAt E a := lt_s (bL_34 E) (bA_34 E)
theorem bL_36 (E : Ex) : ∀ a, a < 36 → bAt E a := lt_s (bL_35 E) (bA_35 E)
theorem bL_37 (E : Ex) : ∀ a, a < 37 → bAt E a := lt_s (bL_36 E) (bA_36 E)
theorem bL_38 (E : Ex) : ∀ a, a < 38 → bAt E a := lt_s (bL_37 E) (bA_37 E)
theorem bL_39 (E : Ex) : ∀ a, a < 39 → bAt E a := lt_s (bL_38 E) (bA_38 E)
theorem bL_40 (E : Ex) : ∀ a, a < 40 → bAt E a := lt_s (bL_39 E) (bA_39 E)
theorem bL_41 (E : Ex) : ∀ a, a < 41 → bAt E a := lt_s (bL_40 E) (bA_40 E)
theorem bL_42 (E : Ex) : ∀ a, a < 42 → bAt E a := lt_s (bL_41 E) (bA_41 E)
theorem bL_43 (E : Ex) : ∀ a, a < 43 → bAt E a := lt_s (bL_42 E) (bA_42 E)
theorem bL_44 (E : Ex) : ∀ a, a < 44 → bAt E a := lt_s (bL_43 E) (bA_43 E)
theorem bL_45 (E : Ex) : ∀ a, a < 45 → bAt E a := lt_s (bL_44 E) (bA_44 E)
theorem bL_46 (E : Ex) : ∀ a, a < 46 → bAt E a := lt_s (bL_45 E) (bA_45 E)
theorem bL_47 (E : Ex) : ∀ a, a < 47 → bAt E a := lt_s (bL_46 E) (bA_46 E)
theorem bL_48 (E : Ex) : ∀ a, a < 48 → bAt E a := lt_s (bL_47 E) (bA_47 E)
theorem bL_49 (E : Ex) : ∀ a, a < 49 → bAt E a := lt_s (bL_48 E) (bA_48 E)
theorem bL_50 (E : Ex) : ∀ a, a < 50 → bAt E a := lt_s (bL_49 E) (bA_49 E)
theorem bL_51 (E : Ex) : ∀ a, a < 51 → bAt E a := lt_s (bL_50 E) (bA_50 E)
theorem bL_52 (E : Ex) : ∀ a, a < 52 → bAt E a := lt_s (bL_51 E) (bA_51 E)
theorem bL_53 (E : Ex) : ∀ a, a < 53 → bAt E a := lt_s (bL_52 E) (bA_52 E)
theorem bL_54 (E : Ex) : ∀ a, a < 54 → bAt E a := lt_s (bL_53 E) (bA_53 E)
theorem bL_55 (E : Ex) : ∀ a, a < 55 → bAt E a := lt_s (bL_54 E) (bA_54 E)
theorem bL_56 (E : Ex) : ∀ a, a < 56 → bAt E a := lt_s (bL_55 E) (bA_55 E)
theorem bL_57 (E : Ex) : ∀ a, a < 57 → bAt E a := lt_s (bL_56 E) (bA_56 E)
theorem bL_58 (E : Ex) : ∀ a, a < 58 → bAt E a := lt_s (bL_57 E) (bA_57 E)
theorem bL_59 (E : Ex) : ∀ a, a < 59 → bAt E a := lt_s (bL_58 E) (bA_58 E)
theorem bL_60 (E : Ex) : ∀ a, a < 60 → bAt E a := lt_s (bL_59 E) (bA_59 E)
theorem bL_61 (E : Ex) : ∀ a, a < 61 → bAt E a := lt_s (bL_60 E) (bA_60 E)
theorem bL_62 (E : Ex) : ∀ a, a < 62 → bAt E a := lt_s (bL_61 E) (bA_61 E)
theorem bL_63 (E : Ex) : ∀ a, a < 63 → bAt E a := lt_s (bL_62 E) (bA_62 E)
theorem bL_64 (E : Ex) : ∀ a, a < 64 → bAt E a := lt_s (bL_63 E) (bA_63 E)
theorem bL_65 (E : Ex) : ∀ a, a < 65 → bAt E a := lt_s (bL_64 E) (bA_64 E)
theorem bL_66 (E : Ex) : ∀ a, a < 66 → bAt E a := lt_s (bL_65 E) (bA_65 E)
theorem bL_67 (E : Ex) : ∀ a, a < 67 → bAt E a := lt_s (bL_66 E) (bA_66 E)
theorem bL_68 (E : Ex) : ∀ a, a < 68 → bAt E a := lt_s (bL_67 E) (bA_67 E)
theorem bL_69 (E : Ex) : ∀ a, a < 69 → bAt E a := lt_s (bL_68 E) (bA_68 E)
theorem bL_70 (E : Ex) : ∀ a, a < 70 → bAt E a := lt_s (bL_69 E) (bA_69 E)
theorem bL_71 (E : Ex) : ∀ a, a < 71 → bAt E a := lt_s (bL_70 E) (bA_70 E)
theorem bL_72 (E : Ex) : ∀ a, a < 72 → bAt E a := lt_s (bL_71 E) (bA_71 E)
theorem bL_73 (E : Ex) : ∀ a, a < 73 → bAt E a := lt_s (bL_72 E) (bA_72 E)
theorem bL_74 (E : Ex) : ∀ a, a < 74 → bAt E a := lt_s (bL_73 E) (bA_73 E)
theorem bL_75 (E : Ex) : ∀ a, a < 75 → bAt E a := lt_s (bL_74 E) (bA_74 E)
theorem bL_76 (E : Ex) : ∀ a, a < 76 → bAt E a := lt_s (bL_75 E) (bA_75 E)
theorem bL_77 (E : Ex) : ∀ a, a < 77 → bAt E a := lt_s (bL_76 E) (bA_76 E)
theorem bL_78 (E : Ex) : ∀ a, a < 78 → bAt E a := lt_s (bL_77 E) (bA_77 E)
theorem bL_79 (E : Ex) : ∀ a, a < 79 → bAt E a := lt_s (bL_78 E) (bA_78 E)
theorem bL_80 (E : Ex) : ∀ a, a < 80 → bAt E a := lt_s (bL_79 E) (bA_79 E)
theorem bL_81 (E : Ex) : ∀ a, a < 81 → bAt E a := lt_s (bL_80 E) (bA_80 E)
theorem bL_82 (E : Ex) : ∀ a, a < 82 → bAt E a := lt_s (bL_81 E) (bA_81 E)
theorem bL_83 (E : Ex) : ∀ a, a < 83 → bAt E a := lt_s (bL_82 E) (bA_82 E)
theorem bL_84 (E : Ex) : ∀ a, a < 84 → bAt E a := lt_s (bL_83 E) (bA_83 E)
theorem bL_85 (E : Ex) : ∀ a, a < 85 → bAt E a := lt_s (bL_84 E) (bA_84 E)
theorem bL_86 (E : Ex) : ∀ a, a < 86 → bAt E a := lt_s (bL_85 E) (bA_85 E)
theorem bL_87 (E : Ex) : ∀ a, a < 87 → bAt E a := lt_s (bL_86 E) (bA_86 E)
theorem bL_88 (E : Ex) : ∀ a, a < 88 → bAt E a := lt_s (bL_87 E) (bA_87 E)
theorem bL_89 (E : Ex) : ∀ a, a < 89 → bAt E a := lt_s (bL_88 E) (bA_88 E)
theorem bL_90 (E : Ex) : ∀ a, a < 90 → bAt E a := lt_s (bL_89 E) (bA_89 E)
theorem bL_91 (E : Ex) : ∀ a, a < 91 → bAt E a := lt_s (bL_90 E) (bA_90 E)
theorem bL_92 (E : Ex) : ∀ a, a < 92 → bAt E a := lt_s (bL_91 E) (bA_91 E)
theorem bL_93 (E : Ex) : ∀ a, a < 93 → bAt E a := lt_s (bL_92 E) (bA_92 E)
theorem bL_94 (E : Ex) : ∀ a, a < 94 → bAt E a := lt_s (bL_93 E) (bA_93 E)
theorem bL_95 (E : Ex) : ∀ a, a < 95 → bAt E a := lt_s (bL_94 E) (bA_94 E)
theorem bL_96 (E : Ex) : ∀ a, a < 96 → bAt E a := lt_s (bL_95 E) (bA_95 E)
theorem bL_97 (E : Ex) : ∀ a, a < 97 → bAt E a := lt_s (bL_96 E) (bA_96 E)
theorem bL_98 (E : Ex) : ∀ a, a < 98 → bAt E a := lt_s (bL_97 E) (bA_97 E)
theorem bL_99 (E : Ex) : ∀ a, a < 99 → bAt E a := lt_s (bL_98 E) (bA_98 E)
theorem bL_100 (E : Ex) : ∀ a, a < 100 → bAt E a := lt_s (bL_99 E) (bA_99 E)
theorem bL_101 (E : Ex) : ∀ a, a < 101 → bAt E a := lt_s (bL_100 E) (bA_100 E)
theorem bL_102 (E : Ex) : ∀ a, a < 102 → bAt E a := lt_s (bL_101 E) (bA_101 E)
theorem bL_103 (E : Ex) : ∀ a, a < 103 → bAt E a := lt_s (bL_102 E) (bA_102 E)
theorem bL_104 (E : Ex) : ∀ a, a < 104 → bAt E a := lt_s (bL_103 E) (bA_103 E)
theorem bL_105 (E : Ex) : ∀ a, a < 105 → bAt E a := lt_s (bL_104 E) (bA_104 E)
theorem bL_106 (E : Ex) : ∀ a, a < 106 → bAt E a := lt_s (bL_105 E) (bA_105 E)
theorem bL_107 (E : Ex) : ∀ a, a < 107 → bAt E a := lt_s (bL_106 E) (bA_106 E)
theorem bL_108 (E : Ex) : ∀ a, a < 108 → bAt E a := lt_s (bL_107 E) (bA_107 E)
theorem bL_109 (E : Ex) : ∀ a, a < 109 → bAt E a := lt_s (bL_108 E) (bA_108 E)
theorem bL_110 (E : Ex) : ∀ a, a < 110 → bAt E a := lt_s (bL_109 E) (bA_109 E)
theorem bL_111 (E : Ex) : ∀ a, a < 111 → bAt E a := lt_s (bL_110 E) (bA_110 E)
theorem bL_112 (E : Ex) : ∀ a, a < 112 → bAt E a := lt_s (bL_111 E) (bA_111 E)
theorem start_world {E : Ex} (hly : E.2.2.2.2.2.1 = LY) {H : Heap} (h : zH E (bfin E) 112 H) : va_P E.1 vwCl (yW E w0) H := by
  intro k q hk
  obtain ⟨t, ht, rfl⟩ := yW_of hk
  rw [hly] at ht
  have hk' : k < 112 := by
    have := (List.getElem?_eq_some_iff.mp ht).1
    rwa [LY_len] at this
  have ht2 : LY.getD k (0, 0) = t := by rw [List.getD_eq_getElem?_getD, ht]; rfl
  rw [← ht2]
  exact bL_112 E k hk' H (h.1 k _ (zW_get hk'))
theorem wf_141 : Cond.instantiable RX0 2 ∈ TB := TB_m 141 (by decide +kernel) (by decide +kernel)
theorem wf_27 : Cond.instantiable RX1 7 ∈ TB := TB_m 27 (by decide +kernel) (by decide +kernel)
theorem wf_62 : Cond.instantiable RX2 16 ∈ TB := TB_m 62 (by decide +kernel) (by decide +kernel)
theorem wf_21 : Cond.instantiable RX3 4 ∈ TB := TB_m 21 (by decide +kernel) (by decide +kernel)
theorem wf_158 : Cond.instantiable RX4 4 ∈ TB := TB_m 158 (by decide +kernel) (by decide +kernel)
theorem wf_13 : Cond.instantiable RX5 6 ∈ TB := TB_m 13 (by decide +kernel) (by decide +kernel)
theorem wf_60 : Cond.arrayClass .int ∈ TB := TB_m 60 (by decide +kernel) (by decide +kernel)
theorem wf_177 : Cond.arrayClass .char ∈ TB := TB_m 177 (by decide +kernel) (by decide +kernel)
theorem wf_12 : Cond.classLink RL 11 RX5 ∈ TB := TB_m 12 (by decide +kernel) (by decide +kernel)
theorem wf_14 : Cond.methodLink RL 77 yX5_init ∈ TB := TB_m 14 (by decide +kernel) (by decide +kernel)
theorem wf_1 : Cond.initialized RX5 ∈ TB := TB_m 1 (by decide +kernel) (by decide +kernel)
theorem wf_15 : Cond.instanceMethod yX5_init ∈ TB := TB_m 15 (by decide +kernel) (by decide +kernel)
theorem wf_16 : Cond.code yX5_init cX5_init 1 none ∈ TB := TB_m 16 (by decide +kernel) (by decide +kernel)
theorem ps_ao : Cond.arrayOver (.object RX3) ∈ tables_1 := by decide +kernel
theorem arr_of {args : Array Value} {s : State} {ty : FieldType} (hk : refKind ty = false) (h : (Cond.arrayClass ty).before args s = true) : ∃ c : ClassId, ArrOfT s c ty ∧ s.vm.findClass ("[" ++ ty.toString) = some c := by
  obtain ⟨c, k, comp, h1, h2, h3⟩ := Cond.arrayClass_spec h
  exact ⟨c, fun N z => ⟨fun k h => (by cases h), k, h2, comp, h3⟩, h1⟩
/-- what the start gives -/
theorem ctx_start {s : State} {b L : Nat} {xs : Nat → Int32} (hts : ∀ w ∈ lw_tbl, w.before #[Value.ref b] s = true) (hX : va_X b L xs s s.heap) (hbl : b < s.heap.size) : ∃ E : Ex, E.2.2.2.2.1 = s.heap.size ∧ E.2.2.2.2.2.1 = LY ∧ E.2.2.2.2.2.2.1 0 = b ∧ SX E L xs ∧ zK E s ∧ yST E s s.heap := by
  have ht : ∀ w ∈ TB, w.before #[Value.ref b] s = true := fun w h => hts w (List.mem_filter.mp h).1
  have h1 : ∀ w ∈ tables_1, w.before #[Value.ref b] s = true := fun w h => hts w (List.mem_append_right _ h)
  obtain ⟨c0, S0, K0⟩ := u_known (C := RX0) (T := TX0) (N := 2) (n := 2) ht in_X0 (ht _ wf_141)
  obtain ⟨c1, S1, K1⟩ := u_known (C := RX1) (T := TX1) (N := 7) (n := 7) ht in_X1 (ht _ wf_27)
  obtain ⟨c2, S2, K2⟩ := u_known (C := RX2) (T := TX2) (N := 16) (n := 16) ht in_X2 (ht _ wf_62)
  obtain ⟨c3, S3, K3⟩ := u_known (C := RX3) (T := TX3) (N := 4) (n := 4) ht in_X3 (ht _ wf_21)
  obtain ⟨c4, S4, K4⟩ := u_known (C := RX4) (T := TX4) (N := 4) (n := 4) ht in_X4 (ht _ wf_158)
  obtain ⟨c5, S5, K5⟩ := u_known (C := RX5) (T := TX5) (N := 6) (n := 6) ht in_X5 (ht _ wf_13)
  obtain ⟨dC, dI, hKc⟩ : ∃ (dC : Nat → ClassId) (dI : Nat → Nat → Nat), ∀ (k : Nat) (q : vw_C), vwCl[k]? = some q → u_Kn s q.1 q.2.1 q.2.2 (dC k) (dI k) := by
    refine ⟨fun k => if k = 0 then c0 else if k = 1 then c1 else if k = 2 then c2 else if k = 3 then c3 else if k = 4 then c4 else c5, fun k => if k = 0 then S0 else if k = 1 then S1 else if k = 2 then S2 else if k = 3 then S3 else if k = 4 then S4 else S5, ?_⟩
    intro k q hq
    match k, hq with
    | 0, hq => cases hq; exact K0
    | 1, hq => cases hq; exact K1
    | 2, hq => cases hq; exact K2
    | 3, hq => cases hq; exact K3
    | 4, hq => cases hq; exact K4
    | 5, hq => cases hq; exact K5
    | k + 6, hq => simp [vwCl] at hq
  obtain ⟨cI, hI1, hI2⟩ := arr_of rfl (ht _ wf_60)
  obtain ⟨cC, hC1, hC2⟩ := arr_of rfl (ht _ wf_177)
  have hao : va_AO RX3 s := va_AO.of (h1 _ ps_ao)
  obtain ⟨comp, cS, kS, g1, -, g3, g4, g5⟩ := Cond.arrayOver_spec (h1 _ ps_ao)
  refine ⟨((dC, dI), cI, cC, cS, s.heap.size, LY, fun i => if i = 0 then b else L, xs), rfl, rfl, rfl, ⟨rfl, rfl⟩, ⟨⟨⟨hKc, fun k q hq => ?_⟩, fun w hw => va_Nw.of (NWs_on hw) (h1 w (List.mem_filter.mp hw).1)⟩, hao⟩, hX, hbl, hbl⟩
  match k, hq with
  | 0, hq => cases hq; exact ⟨hI1, hI2⟩
  | 1, hq => cases hq; exact ⟨hC1, hC2⟩
  | 2, hq => cases hq; exact ⟨fun N z => ⟨fun k h => (by cases h), kS, g3, comp, g4⟩, kS, comp, g3, g4, g1, g5⟩
  | k + 3, hq => simp [yTys] at hq
theorem z_astore_n {g : Gx} {E : Ex} {cc : ByteArray} {nL nf nl mc ms cs sl : Nat} {own : String} {Q : State → Prop} {bf : Nat → va_E} {n pc m : Nat} {ls ls' : List (Nat × Value)} {st : List Value} (C : ZC g E cc nL own nf nl mc ms) {k : Fin 4} {x : Nat} (hd : decode cc pc = .ok (.astore_n k, 1)) (hi : (k : Nat) < nL) (hq : ((k : Nat), Value.ref x) :: ls.filter (fun q => !(q.1 == (k : Nat)) && !(q.1 + 1 == (k : Nat) && q.2.category == 2)) = ls') (hn : pc + 1 = m) (kk : ZO g E nL cs sl Q bf n m ls' st) : ZO g E nL cs sl Q bf n pc ls (.ref x :: st) := by
  subst hn
  exact fun H locs la hP hS hl => lv_astore_n C.1.1 C.1.2.1 hd rfl hl hi hq (fun la' hl' => kk H locs la' hP hS hl')
set_option maxRecDepth 100000 in
set_option maxHeartbeats 4000000 in
/-- the law's body, if the pure law says 1 -/
theorem start_of {p : Program} {e : Env} {s : State} {m : MethodId} {below : List Frame} {meth : Method} {c : Code} (l : Launch) {b L : Nat} {xs : Nat → Int32} (C0 : lw_At p s m meth c b L xs) (hpure : bL_law_13 LY w0 0 111 L xs = some 1) : W p l e room_1 s m #[Value.ref b] below meth c s.heap [] 0 0 (lw_Z below #[Value.ref b] s) (entryFrame m ([Value.ref b] : List Value).toArray 10) := by
  obtain ⟨hx, hb, hr, hml, hown, hts, hX, hbl, hlocks, hgv⟩ := id C0
  obtain ⟨E, hB, hly, hb0, hSX, hK, hST⟩ := ctx_start hts hX hbl
  have ht : ∀ w ∈ TB, w.before #[Value.ref b] s = true := fun w h => hts w (List.mem_filter.mp h).1
  have C : ZC (p, l, e, room_1, s, m, #[Value.ref b], below, meth, c, 0, 0) E cL_law 10 RL 10 382 600000 7302250 := ⟨⟨hx, hb, hml, hown, ht, hK, hlocks⟩, ⟨Nat.le_refl _, Nat.le_refl _⟩, ⟨Nat.le_refl _, Nat.le_refl _⟩, Nat.le_of_eq hB⟩
  have Cy : CC (p, l, e, room_1, s, m, #[Value.ref b], below, meth, c, 112, 5857) E cL_law 10 RL 8 191 := ⟨hx, hb, hml, hown, ht, hK.1, hlocks, Nat.le_of_ble_eq_true rfl, Nat.le_of_ble_eq_true rfl, hST, Nat.le_of_ble_eq_true rfl, Nat.le_of_ble_eq_true rfl⟩
  have hl := lv_entry ([.ref b]) (n := 10) (Nat.le_of_ble_eq_true rfl)
  rw [lg_entry_eq]
  generalize (lg_sl ([.ref b]) ++ List.replicate (10 - (lg_sl ([.ref b])).length) Slot.unset).toArray = ls at hl ⊢
  have hl : lv_has ls 10 [(0, .ref b)] := hl
  have hz : zH E (fun _ => .inr (0, [])) 0 s.heap := ⟨fun k q h => by simp [zW] at h, by rw [hB]; rfl⟩
  have key : ZO (p, l, e, room_1, s, m, #[Value.ref b], below, meth, c, 0, 0) E 10 0 0 (lw_Z below #[Value.ref b] s) (fun _ => .inr (0, [])) 0 0 [(0, .ref b)] [] := by
    refine z_new (m := 3) (ci := 5) (n2 := 1) (fs := [.null, .null, .null, .int 0, .null, .null]) C in_X5 tyX5 tyX5_ok rfl bl_X5 wf_12 wf_13 wf_1 (Nat.le_of_ble_eq_true rfl) (Nat.le_of_ble_eq_true rfl) dL_law_0 rfl rfl (fun b1 e1 => ?_)
    refine z_dup (m := 4) C dL_law_3 rfl rfl ?_
    refine z_call (m := 7) (n' := 111) (st := [.ref (E.2.2.2.2.1 + 0)]) C wf_16 wf_1 wf_15 rfl (by decide +kernel) wf_14 (by decide) (by decide) (Nat.le_of_ble_eq_true rfl) (c_X5 (by omega) (by rw [e1]; exact zu_s) l) dL_law_4 rfl (fun b2 e2 => ?_)
    refine z_astore_n (m := 8) (ls' := [(1, .ref (E.2.2.2.2.1 + 0)), (0, .ref b)]) C dL_law_7 (by decide) rfl rfl ?_
    refine z_bipush (m := 10) C (64 : Int32) dL_law_8 (by decide) rfl ?_
    refine z_newI (m := 12) (N' := 64) (n2 := 112) C wf_60 (by decide) (by decide) (by decide) (Nat.le_of_ble_eq_true rfl) (Nat.le_of_ble_eq_true rfl) dL_law_10 rfl rfl (fun b3 e3 => ?_)
    refine z_astore_n (m := 13) (ls' := [(2, .ref (E.2.2.2.2.1 + 111)), (1, .ref (E.2.2.2.2.1 + 0)), (0, .ref b)]) C dL_law_12 (by decide) rfl rfl ?_
    have hb4 : b3 = bfin E := by rw [e3, e2, e1]; rfl
    intro H locs la hP hS hla
    rw [hb4] at hP
    have hw := start_world hly hP
    have hR : RT (p, l, e, room_1, s, m, #[Value.ref b], below, meth, c, 112, 5857) ret := hr
    have hyB : shB E.2.2.2.2.2.1 0 := hly ▸ LY_B
    have hyV : E.2.2.2.2.2.1[111]? = some (0, 64) := hly ▸ LY_V
    have h := cbL_law_13 (o := 0) (k2 := 111) (L := L) (xs := xs) Cy hR hyB hyV hSX ⟨rfl, by rw [hb0], hB⟩ w0
    have h2 := h 1 (by rw [hly]; exact hpure) H locs la hw hS (by rw [hb0]; exact lv_sub hla [2, 1, 0] rfl)
    have e0 : E.2.2.2.2.2.2.1 0 = b := hb0
    exact W_imp (fun t ht => by have h3 := ht rfl; rw [e0] at h3; exact h3) h2
  exact key s.heap [] ls hz va_S.rf hl
