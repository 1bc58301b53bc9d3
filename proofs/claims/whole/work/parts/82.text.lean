/-! PURE PART: the text -/
section TXT
variable {w w1 w2 u : Wd} {n : Nat} {t : Nat → Nat}
theorem nar_n {x : Nat} (h : x < 65536) : narrow .char (.int (nI x)) = .int (nI x) := by
  have e : (nI x).toUInt32.toUInt16.toUInt32.toInt32 = nI x := by
    apply Int32.toBitVec_inj.mp
    apply BitVec.eq_of_toNat_eq
    simp [nI]
    omega
  show Value.int _ = _
  rw [e]
theorem rtC_n {x : Nat} (h : x < 65536) : rtC (nI x) = some (nI x) := by rw [rtC, if_pos (nar_n h)]
theorem vnar_n {x : Nat} (h : x < 65536) : vp_nar .char (nI x) = nI x := by
  unfold vp_nar
  rw [nar_n h]
theorem stC_n {q k j x : Nat} (h : j < q) (hq : q < 2147483648) (hx : x < 65536) : stC q w k (nI j) (nI x) = some (sI w k j (nI x)) := by
  have hj : j < 2 ^ 31 := by omega
  have h0 : ¬ (nI j < 0 ∨ q ≤ (nI j).toNatClampNeg) := by
    rintro (h1 | h1)
    · exact nI_pos hj h1
    · rw [nI_clamp hj] at h1
      omega
  rw [stC, if_neg h0, nI_clamp hj, vnar_n hx]
def TX (w : Wd) (n : Nat) (t : Nat → Nat) : Prop := w.1 99 1 = nI n ∧ ∀ i, i < n → w.1 100 i = nI (t i)
def TM (w : Wd) (n : Nat) (t : Nat → Nat) : Prop := w.1 111 8 = nI n ∧ ∀ i, i < n → w.1 117 i = nI (t i)
def TV (n : Nat) (t : Nat → Nat) : Prop := n ≤ 40 ∧ ∀ i, i < n → t i < 65536
def sg (n : Nat) (t : Nat → Nat) (i : Nat) : Nat := if i < n then t i else 0
def dg (x : Nat) : Prop := 48 ≤ x ∧ x ≤ 57
theorem TX_ft (X : TX w n t) (F : FT w u) : TX u n t := ⟨F.2.2.1.trans X.1, fun i hi => by rw [F.1 100 (by omega) (by omega) (by omega) (by omega)]; exact X.2 i hi⟩
theorem TM_ft (X : TM w n t) (F : FT w u) : TM u n t := ⟨(F.2.2.2 8 (by omega)).trans X.1, fun i hi => by rw [F.1 117 (by omega) (by omega) (by omega) (by omega)]; exact X.2 i hi⟩
theorem sg_lt (V : TV n t) (i : Nat) : sg n t i < 65536 := by
  unfold sg
  by_cases h : i < n
  · rw [if_pos h]; exact V.2 i h
  · rw [if_neg h]; omega
theorem dg_in {i : Nat} (h : dg (sg n t i)) : i < n ∧ dg (t i) := by
  unfold sg at h
  by_cases hi : i < n
  · rw [if_pos hi] at h; exact ⟨hi, h⟩
  · rw [if_neg hi] at h; exact absurd h.1 (by omega)
theorem C_sg (X : TX w n t) (V : TV n t) {i : Nat} (hi : i < 2147483648) : fX4_signAt w 99 (nI i) = some (nI (sg n t i)) := by
  have h40 := V.1
  unfold fX4_signAt sg
  rw [if_neg (nI_pos (by omega)), X.1]
  by_cases h : i < n
  · rw [if_neg (by rw [nI_le_ (by omega) (by omega)]; omega), if_neg (by rw [nI_le_ (by omega) (by omega)]; omega), ldI_n (by omega) (by omega), X.2 i h, ob_some, if_pos h, rtC_n (V.2 i h)]
  · rw [if_pos (by rw [nI_le_ (by omega) (by omega)]; omega), if_neg h]
    exact rtC_n (x := 0) (by omega)
theorem M_let (X : TM u n t) (V : TV n t) {i : Nat} (hi : i < 2147483648) : fX6_letter u 111 (nI i) = some (if i < n then nI (t i) else -1) := by
  have h40 := V.1
  unfold fX6_letter
  rw [X.1]
  by_cases h : i < n
  · rw [if_neg (by rw [nI_le_ (by omega) (by omega)]; omega), ldI_n (by omega) (by omega), X.2 i h, ob_some, if_pos h]
  · rw [if_pos (by rw [nI_le_ (by omega) (by omega)]; omega), if_neg h]
theorem C_dg (w : Wd) {x : Nat} (hx : x < 65536) : fX4_isDigit w (nI x) = some (@ite Int32 (dg x) (Classical.propDecidable _) 1 0) := by
  unfold fX4_isDigit
  by_cases h1 : x < 48
  · rw [if_pos (by rw [show (48 : Int32) = nI 48 from rfl, nI_lt_ (by omega) (by omega)]; exact h1), if_neg (fun z => by have := z.1; omega)]
    exact rtZ_0
  · rw [if_neg (by rw [show (48 : Int32) = nI 48 from rfl, nI_lt_ (by omega) (by omega)]; exact h1)]
    by_cases h2 : 57 < x
    · rw [if_pos (by rw [show (57 : Int32) = nI 57 from rfl, nI_lt_ (by omega) (by omega)]; exact h2), if_neg (fun z => by have := z.2; omega)]
      exact rtZ_0
    · rw [if_neg (by rw [show (57 : Int32) = nI 57 from rfl, nI_lt_ (by omega) (by omega)]; exact h2), if_pos ⟨by omega, by omega⟩]
      exact rtZ_1
theorem M_dg (w : Wd) (x : Int32) : fX6_isDigit w x = fX4_isDigit w x := rfl
/-- whether a digit stands there, both ways -/
theorem M_dgl (V : TV n t) (i : Nat) : fX6_isDigit u (if i < n then nI (t i) else -1) = some (@ite Int32 (dg (sg n t i)) (Classical.propDecidable _) 1 0) := by
  unfold sg
  by_cases h : i < n
  · rw [if_pos h, if_pos h, M_dg, C_dg _ (V.2 i h)]
  · rw [if_neg h, if_neg h, if_neg (fun z => by have := z.1; omega)]
    rfl
/-- as long as small letters stand there -/
theorem wordLen (V : TV n t) (X : TX w n t) (Y : TM u n t) : ∀ k i N M, i + k = n → k < N → k < M → ∃ L, L ≤ n ∧ lX4_wordLength_2 99 N w (nI i) = some (nI L) ∧ lX6_perform_2 111 M u (nI i) = lX6_perform_32 111 4096 u (nI L) (-1) 0 := by
  have h40 := V.1
  intro k
  induction k with
  | zero =>
    intro i N M hi hN hM
    obtain ⟨N, rfl⟩ : ∃ N', N = N' + 1 := ⟨N - 1, by omega⟩
    obtain ⟨M, rfl⟩ : ∃ N', M = N' + 1 := ⟨M - 1, by omega⟩
    refine ⟨i, by omega, ?_, ?_⟩
    · rw [lX4_wordLength_2, X.1, if_pos (by rw [nI_le_ (by omega) (by omega)]; omega)]
    · rw [lX6_perform_2, Y.1, if_pos (by rw [nI_le_ (by omega) (by omega)]; omega)]
  | succ k ih =>
    intro i N M hi hN hM
    obtain ⟨N, rfl⟩ : ∃ N', N = N' + 1 := ⟨N - 1, by omega⟩
    obtain ⟨M, rfl⟩ : ∃ N', M = N' + 1 := ⟨M - 1, by omega⟩
    have hin : i < n := by omega
    have ht := V.2 i hin
    have es : sg n t i = t i := by rw [sg, if_pos hin]
    have ec : lX4_wordLength_2 99 (N + 1) w (nI i) = (if nI (t i) < 97 then some (nI i) else if 122 < nI (t i) then some (nI i) else lX4_wordLength_2 99 N w (nI (i + 1))) := by
      rw [lX4_wordLength_2, X.1, if_neg (by rw [nI_le_ (by omega) (by omega)]; omega), C_sg X V (by omega), ob_some, ob_some, es, n1, nI_add]
    have em : lX6_perform_2 111 (M + 1) u (nI i) = (if nI (t i) < 97 then lX6_perform_32 111 4096 u (nI i) (-1) 0 else if 122 < nI (t i) then lX6_perform_32 111 4096 u (nI i) (-1) 0 else lX6_perform_2 111 M u (nI (i + 1))) := by
      rw [lX6_perform_2, Y.1, if_neg (by rw [nI_le_ (by omega) (by omega)]; omega), ldI_n (by omega) (by omega), Y.2 i hin, ob_some, n1, nI_add]
      unfold fX6_isSmall
      by_cases h1 : nI (t i) < 97
      · rw [if_pos h1, if_pos h1, rtZ_0, ob_some, if_pos rfl]
      · rw [if_neg h1, if_neg h1]
        by_cases h2 : 122 < nI (t i)
        · rw [if_pos h2, if_pos h2, rtZ_0, ob_some, if_pos rfl]
        · rw [if_neg h2, if_neg h2, rtZ_1, ob_some, if_neg (by decide)]
    rw [ec, em]
    by_cases h1 : nI (t i) < 97
    · exact ⟨i, by omega, by rw [if_pos h1], by rw [if_pos h1]⟩
    by_cases h2 : 122 < nI (t i)
    · exact ⟨i, by omega, by rw [if_neg h1, if_pos h2], by rw [if_neg h1, if_pos h2]⟩
    rw [if_neg h1, if_neg h2, if_neg h1, if_neg h2]
    exact ih (i + 1) N M (by omega) (by omega) (by omega)
theorem isW_step {k L i b : Nat} (X : TX w n t) (V : TV n t) (hL : lenS.getD k 0 = L) (hLn : L ≤ n) (hi : i < L) (hb : strAt k (nI i) = some (nI b)) (hb2 : b < 65536) (N : Nat) : lX4_isWord_12 99 k (N + 1) w (nI i) = if b = t i then lX4_isWord_12 99 k N w (nI (i + 1)) else some 0 := by
  have h40 := V.1
  have es : sg n t i = t i := by rw [sg, if_pos (by omega)]
  have ht := V.2 i (by omega)
  rw [lX4_isWord_12, ob_some, hL, if_neg (by rw [nI_le_ (by omega) (by omega)]; omega), hb, ob_some, rtC_n hb2, ob_some, C_sg X V (by omega), ob_some, es, n1, nI_add, rtZ_0]
  by_cases h : b = t i
  · rw [if_pos h, if_pos (by rw [h])]
  · rw [if_neg h, if_neg (by rw [nI_eq_ (by omega) (by omega)]; exact h)]
theorem isW_end {k L : Nat} (hL : lenS.getD k 0 = L) (N : Nat) : lX4_isWord_12 99 k (N + 1) w (nI L) = some 1 := by
  rw [lX4_isWord_12, ob_some, hL, if_pos Int32.le_rfl]
  exact rtZ_1
theorem spells_n (Y : TM u n t) (V : TV n t) {a b c i : Nat} (ha : a < 65536) (hb : b < 65536) (hc : c < 65536) (hi : i + 2 < n) : fX6_spells u 111 (nI a) (nI b) (nI c) (nI i) = some (if a = t i ∧ b = t (i + 1) ∧ c = t (i + 2) then 1 else 0) := by
  have h40 := V.1
  have h0 := V.2 i (by omega)
  have h1 := V.2 (i + 1) (by omega)
  have h2 := V.2 (i + 2) (by omega)
  unfold fX6_spells
  rw [n1, n2, nI_add, nI_add, ldI_n (by omega) (by omega), ldI_n (by omega) (by omega), ldI_n (by omega) (by omega), Y.2 i (by omega), Y.2 (i + 1) (by omega), Y.2 (i + 2) (by omega), ob_some, ob_some, ob_some]
  rw [← n1, rtZ_0, rtZ_1]
  by_cases g0 : a = t i
  · rw [if_pos (show nI (t i) = nI a by rw [g0])]
    by_cases g1 : b = t (i + 1)
    · rw [if_pos (show nI (t (i + 1)) = nI b by rw [g1])]
      by_cases g2 : c = t (i + 2)
      · rw [if_pos (show nI (t (i + 2)) = nI c by rw [g2]), if_pos ⟨g0, g1, g2⟩]
      · rw [if_neg (show ¬ nI (t (i + 2)) = nI c by rw [nI_eq_ (by omega) (by omega)]; exact fun z => g2 z.symm), if_neg (fun z => g2 z.2.2)]
    · rw [if_neg (show ¬ nI (t (i + 1)) = nI b by rw [nI_eq_ (by omega) (by omega)]; exact fun z => g1 z.symm), if_neg (fun z => g1 z.2.1)]
  · rw [if_neg (show ¬ nI (t i) = nI a by rw [nI_eq_ (by omega) (by omega)]; exact fun z => g0 z.symm), if_neg (fun z => g0 z.1)]
/-- the letters of the word k, on the length L -/
def isW (t : Nat → Nat) (k L : Nat) : Prop :=
  match k with
  | 0 => L = 3 ∧ 97 = t 0 ∧ 100 = t 1 ∧ 100 = t 2
  | 1 => L = 4 ∧ 100 = t 0 ∧ 114 = t 1 ∧ 111 = t 2 ∧ 112 = t 3
  | 2 => L = 6 ∧ 119 = t 0 ∧ 101 = t 1 ∧ 105 = t 2 ∧ 103 = t 3 ∧ 104 = t 4 ∧ 116 = t 5
  | 3 => L = 5 ∧ 98 = t 0 ∧ 114 = t 1 ∧ 105 = t 2 ∧ 98 = t 3 ∧ 101 = t 4
  | 4 => L = 6 ∧ 100 = t 0 ∧ 101 = t 1 ∧ 108 = t 2 ∧ 101 = t 3 ∧ 116 = t 4 ∧ 101 = t 5
  | 5 => L = 5 ∧ 98 = t 0 ∧ 114 = t 1 ∧ 105 = t 2 ∧ 110 = t 3 ∧ 103 = t 4
  | 6 => L = 4 ∧ 119 = t 0 ∧ 97 = t 1 ∧ 110 = t 2 ∧ 116 = t 3
  | _ => False
theorem C_isW0 (X : TX w n t) (V : TV n t) {L : Nat} (hL : L ≤ n) : fX4_isWord w 99 0 (nI L) = some (@ite Int32 (isW t 0 L) (Classical.propDecidable _) 1 0) := by
  have h40 := V.1
  show (if nI 3 = nI L then lX4_isWord_12 99 0 4096 w 0 else rtZ 0) = _
  by_cases h : L = 3
  rotate_left
  · rw [if_neg (by rw [nI_eq_ (by omega) (by omega)]; omega), if_neg (fun z => h z.1), rtZ_0]
  subst h
  rw [if_pos rfl]
  show lX4_isWord_12 99 0 4096 w (nI 0) = _
  rw [isW_step X V (L := 3) (b := 97) rfl hL (by omega) (by decide) (by omega)]
  by_cases h0 : 97 = t 0
  rotate_left
  · rw [if_neg h0, if_neg (fun z => h0 z.2.1)]
  rw [if_pos h0]
  rw [isW_step X V (L := 3) (b := 100) rfl hL (by omega) (by decide) (by omega)]
  by_cases h1 : 100 = t 1
  rotate_left
  · rw [if_neg h1, if_neg (fun z => h1 z.2.2.1)]
  rw [if_pos h1]
  rw [isW_step X V (L := 3) (b := 100) rfl hL (by omega) (by decide) (by omega)]
  by_cases h2 : 100 = t 2
  rotate_left
  · rw [if_neg h2, if_neg (fun z => h2 z.2.2.2)]
  rw [if_pos h2]
  rw [isW_end (L := 3) rfl, if_pos ⟨rfl, h0, h1, h2⟩]
theorem C_isW1 (X : TX w n t) (V : TV n t) {L : Nat} (hL : L ≤ n) : fX4_isWord w 99 1 (nI L) = some (@ite Int32 (isW t 1 L) (Classical.propDecidable _) 1 0) := by
  have h40 := V.1
  show (if nI 4 = nI L then lX4_isWord_12 99 1 4096 w 0 else rtZ 0) = _
  by_cases h : L = 4
  rotate_left
  · rw [if_neg (by rw [nI_eq_ (by omega) (by omega)]; omega), if_neg (fun z => h z.1), rtZ_0]
  subst h
  rw [if_pos rfl]
  show lX4_isWord_12 99 1 4096 w (nI 0) = _
  rw [isW_step X V (L := 4) (b := 100) rfl hL (by omega) (by decide) (by omega)]
  by_cases h0 : 100 = t 0
  rotate_left
  · rw [if_neg h0, if_neg (fun z => h0 z.2.1)]
  rw [if_pos h0]
  rw [isW_step X V (L := 4) (b := 114) rfl hL (by omega) (by decide) (by omega)]
  by_cases h1 : 114 = t 1
  rotate_left
  · rw [if_neg h1, if_neg (fun z => h1 z.2.2.1)]
  rw [if_pos h1]
  rw [isW_step X V (L := 4) (b := 111) rfl hL (by omega) (by decide) (by omega)]
  by_cases h2 : 111 = t 2
  rotate_left
  · rw [if_neg h2, if_neg (fun z => h2 z.2.2.2.1)]
  rw [if_pos h2]
  rw [isW_step X V (L := 4) (b := 112) rfl hL (by omega) (by decide) (by omega)]
  by_cases h3 : 112 = t 3
  rotate_left
  · rw [if_neg h3, if_neg (fun z => h3 z.2.2.2.2)]
  rw [if_pos h3]
  rw [isW_end (L := 4) rfl, if_pos ⟨rfl, h0, h1, h2, h3⟩]
theorem C_isW2 (X : TX w n t) (V : TV n t) {L : Nat} (hL : L ≤ n) : fX4_isWord w 99 2 (nI L) = some (@ite Int32 (isW t 2 L) (Classical.propDecidable _) 1 0) := by
  have h40 := V.1
  show (if nI 6 = nI L then lX4_isWord_12 99 2 4096 w 0 else rtZ 0) = _
  by_cases h : L = 6
  rotate_left
  · rw [if_neg (by rw [nI_eq_ (by omega) (by omega)]; omega), if_neg (fun z => h z.1), rtZ_0]
  subst h
  rw [if_pos rfl]
  show lX4_isWord_12 99 2 4096 w (nI 0) = _
  rw [isW_step X V (L := 6) (b := 119) rfl hL (by omega) (by decide) (by omega)]
  by_cases h0 : 119 = t 0
  rotate_left
  · rw [if_neg h0, if_neg (fun z => h0 z.2.1)]
  rw [if_pos h0]
  rw [isW_step X V (L := 6) (b := 101) rfl hL (by omega) (by decide) (by omega)]
  by_cases h1 : 101 = t 1
  rotate_left
  · rw [if_neg h1, if_neg (fun z => h1 z.2.2.1)]
  rw [if_pos h1]
  rw [isW_step X V (L := 6) (b := 105) rfl hL (by omega) (by decide) (by omega)]
  by_cases h2 : 105 = t 2
  rotate_left
  · rw [if_neg h2, if_neg (fun z => h2 z.2.2.2.1)]
  rw [if_pos h2]
  rw [isW_step X V (L := 6) (b := 103) rfl hL (by omega) (by decide) (by omega)]
  by_cases h3 : 103 = t 3
  rotate_left
  · rw [if_neg h3, if_neg (fun z => h3 z.2.2.2.2.1)]
  rw [if_pos h3]
  rw [isW_step X V (L := 6) (b := 104) rfl hL (by omega) (by decide) (by omega)]
  by_cases h4 : 104 = t 4
  rotate_left
  · rw [if_neg h4, if_neg (fun z => h4 z.2.2.2.2.2.1)]
  rw [if_pos h4]
  rw [isW_step X V (L := 6) (b := 116) rfl hL (by omega) (by decide) (by omega)]
  by_cases h5 : 116 = t 5
  rotate_left
  · rw [if_neg h5, if_neg (fun z => h5 z.2.2.2.2.2.2)]
  rw [if_pos h5]
  rw [isW_end (L := 6) rfl, if_pos ⟨rfl, h0, h1, h2, h3, h4, h5⟩]
theorem C_isW3 (X : TX w n t) (V : TV n t) {L : Nat} (hL : L ≤ n) : fX4_isWord w 99 3 (nI L) = some (@ite Int32 (isW t 3 L) (Classical.propDecidable _) 1 0) := by
  have h40 := V.1
  show (if nI 5 = nI L then lX4_isWord_12 99 3 4096 w 0 else rtZ 0) = _
  by_cases h : L = 5
  rotate_left
  · rw [if_neg (by rw [nI_eq_ (by omega) (by omega)]; omega), if_neg (fun z => h z.1), rtZ_0]
  subst h
  rw [if_pos rfl]
  show lX4_isWord_12 99 3 4096 w (nI 0) = _
  rw [isW_step X V (L := 5) (b := 98) rfl hL (by omega) (by decide) (by omega)]
  by_cases h0 : 98 = t 0
  rotate_left
  · rw [if_neg h0, if_neg (fun z => h0 z.2.1)]
  rw [if_pos h0]
  rw [isW_step X V (L := 5) (b := 114) rfl hL (by omega) (by decide) (by omega)]
  by_cases h1 : 114 = t 1
  rotate_left
  · rw [if_neg h1, if_neg (fun z => h1 z.2.2.1)]
  rw [if_pos h1]
  rw [isW_step X V (L := 5) (b := 105) rfl hL (by omega) (by decide) (by omega)]
  by_cases h2 : 105 = t 2
  rotate_left
  · rw [if_neg h2, if_neg (fun z => h2 z.2.2.2.1)]
  rw [if_pos h2]
  rw [isW_step X V (L := 5) (b := 98) rfl hL (by omega) (by decide) (by omega)]
  by_cases h3 : 98 = t 3
  rotate_left
  · rw [if_neg h3, if_neg (fun z => h3 z.2.2.2.2.1)]
  rw [if_pos h3]
  rw [isW_step X V (L := 5) (b := 101) rfl hL (by omega) (by decide) (by omega)]
  by_cases h4 : 101 = t 4
  rotate_left
  · rw [if_neg h4, if_neg (fun z => h4 z.2.2.2.2.2)]
  rw [if_pos h4]
  rw [isW_end (L := 5) rfl, if_pos ⟨rfl, h0, h1, h2, h3, h4⟩]
theorem C_isW4 (X : TX w n t) (V : TV n t) {L : Nat} (hL : L ≤ n) : fX4_isWord w 99 4 (nI L) = some (@ite Int32 (isW t 4 L) (Classical.propDecidable _) 1 0) := by
  have h40 := V.1
  show (if nI 6 = nI L then lX4_isWord_12 99 4 4096 w 0 else rtZ 0) = _
  by_cases h : L = 6
  rotate_left
  · rw [if_neg (by rw [nI_eq_ (by omega) (by omega)]; omega), if_neg (fun z => h z.1), rtZ_0]
  subst h
  rw [if_pos rfl]
  show lX4_isWord_12 99 4 4096 w (nI 0) = _
  rw [isW_step X V (L := 6) (b := 100) rfl hL (by omega) (by decide) (by omega)]
  by_cases h0 : 100 = t 0
  rotate_left
  · rw [if_neg h0, if_neg (fun z => h0 z.2.1)]
  rw [if_pos h0]
  rw [isW_step X V (L := 6) (b := 101) rfl hL (by omega) (by decide) (by omega)]
  by_cases h1 : 101 = t 1
  rotate_left
  · rw [if_neg h1, if_neg (fun z => h1 z.2.2.1)]
  rw [if_pos h1]
  rw [isW_step X V (L := 6) (b := 108) rfl hL (by omega) (by decide) (by omega)]
  by_cases h2 : 108 = t 2
  rotate_left
  · rw [if_neg h2, if_neg (fun z => h2 z.2.2.2.1)]
  rw [if_pos h2]
  rw [isW_step X V (L := 6) (b := 101) rfl hL (by omega) (by decide) (by omega)]
  by_cases h3 : 101 = t 3
  rotate_left
  · rw [if_neg h3, if_neg (fun z => h3 z.2.2.2.2.1)]
  rw [if_pos h3]
  rw [isW_step X V (L := 6) (b := 116) rfl hL (by omega) (by decide) (by omega)]
  by_cases h4 : 116 = t 4
  rotate_left
  · rw [if_neg h4, if_neg (fun z => h4 z.2.2.2.2.2.1)]
  rw [if_pos h4]
  rw [isW_step X V (L := 6) (b := 101) rfl hL (by omega) (by decide) (by omega)]
  by_cases h5 : 101 = t 5
  rotate_left
  · rw [if_neg h5, if_neg (fun z => h5 z.2.2.2.2.2.2)]
  rw [if_pos h5]
  rw [isW_end (L := 6) rfl, if_pos ⟨rfl, h0, h1, h2, h3, h4, h5⟩]
theorem C_isW5 (X : TX w n t) (V : TV n t) {L : Nat} (hL : L ≤ n) : fX4_isWord w 99 5 (nI L) = some (@ite Int32 (isW t 5 L) (Classical.propDecidable _) 1 0) := by
  have h40 := V.1
  show (if nI 5 = nI L then lX4_isWord_12 99 5 4096 w 0 else rtZ 0) = _
  by_cases h : L = 5
  rotate_left
  · rw [if_neg (by rw [nI_eq_ (by omega) (by omega)]; omega), if_neg (fun z => h z.1), rtZ_0]
  subst h
  rw [if_pos rfl]
  show lX4_isWord_12 99 5 4096 w (nI 0) = _
  rw [isW_step X V (L := 5) (b := 98) rfl hL (by omega) (by decide) (by omega)]
  by_cases h0 : 98 = t 0
  rotate_left
  · rw [if_neg h0, if_neg (fun z => h0 z.2.1)]
  rw [if_pos h0]
  rw [isW_step X V (L := 5) (b := 114) rfl hL (by omega) (by decide) (by omega)]
  by_cases h1 : 114 = t 1
  rotate_left
  · rw [if_neg h1, if_neg (fun z => h1 z.2.2.1)]
  rw [if_pos h1]
  rw [isW_step X V (L := 5) (b := 105) rfl hL (by omega) (by decide) (by omega)]
  by_cases h2 : 105 = t 2
  rotate_left
  · rw [if_neg h2, if_neg (fun z => h2 z.2.2.2.1)]
  rw [if_pos h2]
  rw [isW_step X V (L := 5) (b := 110) rfl hL (by omega) (by decide) (by omega)]
  by_cases h3 : 110 = t 3
  rotate_left
  · rw [if_neg h3, if_neg (fun z => h3 z.2.2.2.2.1)]
  rw [if_pos h3]
  rw [isW_step X V (L := 5) (b := 103) rfl hL (by omega) (by decide) (by omega)]
  by_cases h4 : 103 = t 4
  rotate_left
  · rw [if_neg h4, if_neg (fun z => h4 z.2.2.2.2.2)]
  rw [if_pos h4]
  rw [isW_end (L := 5) rfl, if_pos ⟨rfl, h0, h1, h2, h3, h4⟩]
theorem C_isW6 (X : TX w n t) (V : TV n t) {L : Nat} (hL : L ≤ n) : fX4_isWord w 99 6 (nI L) = some (@ite Int32 (isW t 6 L) (Classical.propDecidable _) 1 0) := by
  have h40 := V.1
  show (if nI 4 = nI L then lX4_isWord_12 99 6 4096 w 0 else rtZ 0) = _
  by_cases h : L = 4
  rotate_left
  · rw [if_neg (by rw [nI_eq_ (by omega) (by omega)]; omega), if_neg (fun z => h z.1), rtZ_0]
  subst h
  rw [if_pos rfl]
  show lX4_isWord_12 99 6 4096 w (nI 0) = _
  rw [isW_step X V (L := 4) (b := 119) rfl hL (by omega) (by decide) (by omega)]
  by_cases h0 : 119 = t 0
  rotate_left
  · rw [if_neg h0, if_neg (fun z => h0 z.2.1)]
  rw [if_pos h0]
  rw [isW_step X V (L := 4) (b := 97) rfl hL (by omega) (by decide) (by omega)]
  by_cases h1 : 97 = t 1
  rotate_left
  · rw [if_neg h1, if_neg (fun z => h1 z.2.2.1)]
  rw [if_pos h1]
  rw [isW_step X V (L := 4) (b := 110) rfl hL (by omega) (by decide) (by omega)]
  by_cases h2 : 110 = t 2
  rotate_left
  · rw [if_neg h2, if_neg (fun z => h2 z.2.2.2.1)]
  rw [if_pos h2]
  rw [isW_step X V (L := 4) (b := 116) rfl hL (by omega) (by decide) (by omega)]
  by_cases h3 : 116 = t 3
  rotate_left
  · rw [if_neg h3, if_neg (fun z => h3 z.2.2.2.2)]
  rw [if_pos h3]
  rw [isW_end (L := 4) rfl, if_pos ⟨rfl, h0, h1, h2, h3⟩]
theorem M_isW0 (Y : TM u n t) (V : TV n t) {L : Nat} (hL : L ≤ n) : fX6_isWord u 111 (nI 0) (nI L) = some (@ite Int32 (isW t 0 L) (Classical.propDecidable _) 1 0) := by
  have h40 := V.1
  have hc : fX6_isWord u 111 (nI 0) (nI L) = (if nI L = nI 3 then (fX6_spells u 111 (nI 97) (nI 100) (nI 100) (nI 0)).bind fun v3 => if v3 = 0 then some 0 else some 1 else some 0) := rfl
  rw [hc]
  by_cases h : L = 3
  rotate_left
  · rw [if_neg (by rw [nI_eq_ (by omega) (by omega)]; exact h), if_neg (fun z => h z.1)]
  subst h
  rw [if_pos rfl, spells_n Y V (by omega) (by omega) (by omega) (by omega), ob_some]
  by_cases g : 97 = t 0 ∧ 100 = t (0 + 1) ∧ 100 = t (0 + 2)
  rotate_left
  · rw [if_neg g, if_pos rfl, if_neg (fun z => g ⟨z.2.1, z.2.2.1, z.2.2.2⟩)]
  rw [if_pos g, if_neg (show ¬ (1 : Int32) = 0 by decide)]
  rw [if_pos ⟨rfl, g.1, g.2.1, g.2.2⟩]
theorem M_isW1 (Y : TM u n t) (V : TV n t) {L : Nat} (hL : L ≤ n) : fX6_isWord u 111 (nI 1) (nI L) = some (@ite Int32 (isW t 1 L) (Classical.propDecidable _) 1 0) := by
  have h40 := V.1
  have hc : fX6_isWord u 111 (nI 1) (nI L) = (if nI L = nI 4 then (fX6_spells u 111 (nI 100) (nI 114) (nI 111) (nI 0)).bind fun v3 => if v3 = 0 then some 0 else (ldI 40 u 117 (nI 3)).bind fun v9 => if v9 = nI 112 then some 1 else some 0 else some 0) := rfl
  rw [hc]
  by_cases h : L = 4
  rotate_left
  · rw [if_neg (by rw [nI_eq_ (by omega) (by omega)]; exact h), if_neg (fun z => h z.1)]
  subst h
  rw [if_pos rfl, spells_n Y V (by omega) (by omega) (by omega) (by omega), ob_some]
  by_cases g : 100 = t 0 ∧ 114 = t (0 + 1) ∧ 111 = t (0 + 2)
  rotate_left
  · rw [if_neg g, if_pos rfl, if_neg (fun z => g ⟨z.2.1, z.2.2.1, z.2.2.2.1⟩)]
  rw [if_pos g, if_neg (show ¬ (1 : Int32) = 0 by decide)]
  have h3 := V.2 3 (by omega)
  rw [ldI_n (by omega) (by omega), Y.2 3 (by omega), ob_some]
  by_cases g3 : 112 = t 3
  · rw [if_pos (show nI (t 3) = nI 112 by rw [g3]), if_pos ⟨rfl, g.1, g.2.1, g.2.2, g3⟩]
  · rw [if_neg (show ¬ nI (t 3) = nI 112 by rw [nI_eq_ (by omega) (by omega)]; exact fun z => g3 z.symm), if_neg (fun z => g3 z.2.2.2.2)]
theorem M_isW2 (Y : TM u n t) (V : TV n t) {L : Nat} (hL : L ≤ n) : fX6_isWord u 111 (nI 2) (nI L) = some (@ite Int32 (isW t 2 L) (Classical.propDecidable _) 1 0) := by
  have h40 := V.1
  have hc : fX6_isWord u 111 (nI 2) (nI L) = (if nI L = nI 6 then (fX6_spells u 111 (nI 119) (nI 101) (nI 105) (nI 0)).bind fun v3 => if v3 = 0 then some 0 else (fX6_spells u 111 (nI 103) (nI 104) (nI 116) (nI 3)).bind fun v5 => if v5 = 0 then some 0 else some 1 else some 0) := rfl
  rw [hc]
  by_cases h : L = 6
  rotate_left
  · rw [if_neg (by rw [nI_eq_ (by omega) (by omega)]; exact h), if_neg (fun z => h z.1)]
  subst h
  rw [if_pos rfl, spells_n Y V (by omega) (by omega) (by omega) (by omega), ob_some]
  by_cases g : 119 = t 0 ∧ 101 = t (0 + 1) ∧ 105 = t (0 + 2)
  rotate_left
  · rw [if_neg g, if_pos rfl, if_neg (fun z => g ⟨z.2.1, z.2.2.1, z.2.2.2.1⟩)]
  rw [if_pos g, if_neg (show ¬ (1 : Int32) = 0 by decide)]
  rw [spells_n Y V (by omega) (by omega) (by omega) (by omega), ob_some]
  by_cases g2 : 103 = t 3 ∧ 104 = t (3 + 1) ∧ 116 = t (3 + 2)
  rotate_left
  · rw [if_neg g2, if_pos rfl, if_neg (fun z => g2 ⟨z.2.2.2.2.1, z.2.2.2.2.2.1, z.2.2.2.2.2.2⟩)]
  rw [if_pos g2, if_neg (show ¬ (1 : Int32) = 0 by decide), if_pos ⟨rfl, g.1, g.2.1, g.2.2, g2.1, g2.2.1, g2.2.2⟩]
theorem M_isW3 (Y : TM u n t) (V : TV n t) {L : Nat} (hL : L ≤ n) : fX6_isWord u 111 (nI 3) (nI L) = some (@ite Int32 (isW t 3 L) (Classical.propDecidable _) 1 0) := by
  have h40 := V.1
  have hc : fX6_isWord u 111 (nI 3) (nI L) = (if nI L = nI 5 then (fX6_spells u 111 (nI 98) (nI 114) (nI 105) (nI 0)).bind fun v3 => if v3 = 0 then some 0 else (ldI 40 u 117 (nI 3)).bind fun v9 => if v9 = nI 98 then (ldI 40 u 117 (nI 4)).bind fun v10 => (if v10 = nI 101 then some 1 else some 0) else some 0 else some 0) := rfl
  rw [hc]
  by_cases h : L = 5
  rotate_left
  · rw [if_neg (by rw [nI_eq_ (by omega) (by omega)]; exact h), if_neg (fun z => h z.1)]
  subst h
  rw [if_pos rfl, spells_n Y V (by omega) (by omega) (by omega) (by omega), ob_some]
  by_cases g : 98 = t 0 ∧ 114 = t (0 + 1) ∧ 105 = t (0 + 2)
  rotate_left
  · rw [if_neg g, if_pos rfl, if_neg (fun z => g ⟨z.2.1, z.2.2.1, z.2.2.2.1⟩)]
  rw [if_pos g, if_neg (show ¬ (1 : Int32) = 0 by decide)]
  have h3 := V.2 3 (by omega)
  have h4 := V.2 4 (by omega)
  rw [ldI_n (by omega) (by omega), Y.2 3 (by omega), ob_some]
  by_cases g3 : 98 = t 3
  rotate_left
  · rw [if_neg (show ¬ nI (t 3) = nI 98 by rw [nI_eq_ (by omega) (by omega)]; exact fun z => g3 z.symm), if_neg (fun z => g3 z.2.2.2.2.1)]
  rw [if_pos (show nI (t 3) = nI 98 by rw [g3]), ldI_n (by omega) (by omega), Y.2 4 (by omega), ob_some]
  by_cases g4 : 101 = t 4
  · rw [if_pos (show nI (t 4) = nI 101 by rw [g4]), if_pos ⟨rfl, g.1, g.2.1, g.2.2, g3, g4⟩]
  · rw [if_neg (show ¬ nI (t 4) = nI 101 by rw [nI_eq_ (by omega) (by omega)]; exact fun z => g4 z.symm), if_neg (fun z => g4 z.2.2.2.2.2)]
theorem M_isW4 (Y : TM u n t) (V : TV n t) {L : Nat} (hL : L ≤ n) : fX6_isWord u 111 (nI 4) (nI L) = some (@ite Int32 (isW t 4 L) (Classical.propDecidable _) 1 0) := by
  have h40 := V.1
  have hc : fX6_isWord u 111 (nI 4) (nI L) = (if nI L = nI 6 then (fX6_spells u 111 (nI 100) (nI 101) (nI 108) (nI 0)).bind fun v3 => if v3 = 0 then some 0 else (fX6_spells u 111 (nI 101) (nI 116) (nI 101) (nI 3)).bind fun v5 => if v5 = 0 then some 0 else some 1 else some 0) := rfl
  rw [hc]
  by_cases h : L = 6
  rotate_left
  · rw [if_neg (by rw [nI_eq_ (by omega) (by omega)]; exact h), if_neg (fun z => h z.1)]
  subst h
  rw [if_pos rfl, spells_n Y V (by omega) (by omega) (by omega) (by omega), ob_some]
  by_cases g : 100 = t 0 ∧ 101 = t (0 + 1) ∧ 108 = t (0 + 2)
  rotate_left
  · rw [if_neg g, if_pos rfl, if_neg (fun z => g ⟨z.2.1, z.2.2.1, z.2.2.2.1⟩)]
  rw [if_pos g, if_neg (show ¬ (1 : Int32) = 0 by decide)]
  rw [spells_n Y V (by omega) (by omega) (by omega) (by omega), ob_some]
  by_cases g2 : 101 = t 3 ∧ 116 = t (3 + 1) ∧ 101 = t (3 + 2)
  rotate_left
  · rw [if_neg g2, if_pos rfl, if_neg (fun z => g2 ⟨z.2.2.2.2.1, z.2.2.2.2.2.1, z.2.2.2.2.2.2⟩)]
  rw [if_pos g2, if_neg (show ¬ (1 : Int32) = 0 by decide), if_pos ⟨rfl, g.1, g.2.1, g.2.2, g2.1, g2.2.1, g2.2.2⟩]
theorem M_isW5 (Y : TM u n t) (V : TV n t) {L : Nat} (hL : L ≤ n) : fX6_isWord u 111 (nI 5) (nI L) = some (@ite Int32 (isW t 5 L) (Classical.propDecidable _) 1 0) := by
  have h40 := V.1
  have hc : fX6_isWord u 111 (nI 5) (nI L) = (if nI L = nI 5 then (fX6_spells u 111 (nI 98) (nI 114) (nI 105) (nI 0)).bind fun v3 => if v3 = 0 then some 0 else (ldI 40 u 117 (nI 3)).bind fun v9 => if v9 = nI 110 then (ldI 40 u 117 (nI 4)).bind fun v10 => (if v10 = nI 103 then some 1 else some 0) else some 0 else some 0) := rfl
  rw [hc]
  by_cases h : L = 5
  rotate_left
  · rw [if_neg (by rw [nI_eq_ (by omega) (by omega)]; exact h), if_neg (fun z => h z.1)]
  subst h
  rw [if_pos rfl, spells_n Y V (by omega) (by omega) (by omega) (by omega), ob_some]
  by_cases g : 98 = t 0 ∧ 114 = t (0 + 1) ∧ 105 = t (0 + 2)
  rotate_left
  · rw [if_neg g, if_pos rfl, if_neg (fun z => g ⟨z.2.1, z.2.2.1, z.2.2.2.1⟩)]
  rw [if_pos g, if_neg (show ¬ (1 : Int32) = 0 by decide)]
  have h3 := V.2 3 (by omega)
  have h4 := V.2 4 (by omega)
  rw [ldI_n (by omega) (by omega), Y.2 3 (by omega), ob_some]
  by_cases g3 : 110 = t 3
  rotate_left
  · rw [if_neg (show ¬ nI (t 3) = nI 110 by rw [nI_eq_ (by omega) (by omega)]; exact fun z => g3 z.symm), if_neg (fun z => g3 z.2.2.2.2.1)]
  rw [if_pos (show nI (t 3) = nI 110 by rw [g3]), ldI_n (by omega) (by omega), Y.2 4 (by omega), ob_some]
  by_cases g4 : 103 = t 4
  · rw [if_pos (show nI (t 4) = nI 103 by rw [g4]), if_pos ⟨rfl, g.1, g.2.1, g.2.2, g3, g4⟩]
  · rw [if_neg (show ¬ nI (t 4) = nI 103 by rw [nI_eq_ (by omega) (by omega)]; exact fun z => g4 z.symm), if_neg (fun z => g4 z.2.2.2.2.2)]
theorem M_isW6 (Y : TM u n t) (V : TV n t) {L : Nat} (hL : L ≤ n) : fX6_isWord u 111 (nI 6) (nI L) = some (@ite Int32 (isW t 6 L) (Classical.propDecidable _) 1 0) := by
  have h40 := V.1
  have hc : fX6_isWord u 111 (nI 6) (nI L) = (if nI L = nI 4 then (fX6_spells u 111 (nI 119) (nI 97) (nI 110) (nI 0)).bind fun v3 => if v3 = 0 then some 0 else (ldI 40 u 117 (nI 3)).bind fun v9 => if v9 = nI 116 then some 1 else some 0 else some 0) := rfl
  rw [hc]
  by_cases h : L = 4
  rotate_left
  · rw [if_neg (by rw [nI_eq_ (by omega) (by omega)]; exact h), if_neg (fun z => h z.1)]
  subst h
  rw [if_pos rfl, spells_n Y V (by omega) (by omega) (by omega) (by omega), ob_some]
  by_cases g : 119 = t 0 ∧ 97 = t (0 + 1) ∧ 110 = t (0 + 2)
  rotate_left
  · rw [if_neg g, if_pos rfl, if_neg (fun z => g ⟨z.2.1, z.2.2.1, z.2.2.2.1⟩)]
  rw [if_pos g, if_neg (show ¬ (1 : Int32) = 0 by decide)]
  have h3 := V.2 3 (by omega)
  rw [ldI_n (by omega) (by omega), Y.2 3 (by omega), ob_some]
  by_cases g3 : 116 = t 3
  · rw [if_pos (show nI (t 3) = nI 116 by rw [g3]), if_pos ⟨rfl, g.1, g.2.1, g.2.2, g3⟩]
  · rw [if_neg (show ¬ nI (t 3) = nI 116 by rw [nI_eq_ (by omega) (by omega)]; exact fun z => g3 z.symm), if_neg (fun z => g3 z.2.2.2.2)]
theorem isW_one {j k L : Nat} (hj : isW t j L) (hk : isW t k L) : j = k := by
  match j, k, hj, hk with
  | 0, 0, _, _ => rfl
  | 0, 1, hj, hk => 
    simp only [isW] at hj hk
    omega
  | 0, 2, hj, hk => 
    simp only [isW] at hj hk
    omega
  | 0, 3, hj, hk => 
    simp only [isW] at hj hk
    omega
  | 0, 4, hj, hk => 
    simp only [isW] at hj hk
    omega
  | 0, 5, hj, hk => 
    simp only [isW] at hj hk
    omega
  | 0, 6, hj, hk => 
    simp only [isW] at hj hk
    omega
  | 1, 0, hj, hk => 
    simp only [isW] at hj hk
    omega
  | 1, 1, _, _ => rfl
  | 1, 2, hj, hk => 
    simp only [isW] at hj hk
    omega
  | 1, 3, hj, hk => 
    simp only [isW] at hj hk
    omega
  | 1, 4, hj, hk => 
    simp only [isW] at hj hk
    omega
  | 1, 5, hj, hk => 
    simp only [isW] at hj hk
    omega
  | 1, 6, hj, hk => 
    simp only [isW] at hj hk
    omega
  | 2, 0, hj, hk => 
    simp only [isW] at hj hk
    omega
  | 2, 1, hj, hk => 
    simp only [isW] at hj hk
    omega
  | 2, 2, _, _ => rfl
  | 2, 3, hj, hk => 
    simp only [isW] at hj hk
    omega
  | 2, 4, hj, hk => 
    simp only [isW] at hj hk
    omega
  | 2, 5, hj, hk => 
    simp only [isW] at hj hk
    omega
  | 2, 6, hj, hk => 
    simp only [isW] at hj hk
    omega
  | 3, 0, hj, hk => 
    simp only [isW] at hj hk
    omega
  | 3, 1, hj, hk => 
    simp only [isW] at hj hk
    omega
  | 3, 2, hj, hk => 
    simp only [isW] at hj hk
    omega
  | 3, 3, _, _ => rfl
  | 3, 4, hj, hk => 
    simp only [isW] at hj hk
    omega
  | 3, 5, hj, hk => 
    simp only [isW] at hj hk
    omega
  | 3, 6, hj, hk => 
    simp only [isW] at hj hk
    omega
  | 4, 0, hj, hk => 
    simp only [isW] at hj hk
    omega
  | 4, 1, hj, hk => 
    simp only [isW] at hj hk
    omega
  | 4, 2, hj, hk => 
    simp only [isW] at hj hk
    omega
  | 4, 3, hj, hk => 
    simp only [isW] at hj hk
    omega
  | 4, 4, _, _ => rfl
  | 4, 5, hj, hk => 
    simp only [isW] at hj hk
    omega
  | 4, 6, hj, hk => 
    simp only [isW] at hj hk
    omega
  | 5, 0, hj, hk => 
    simp only [isW] at hj hk
    omega
  | 5, 1, hj, hk => 
    simp only [isW] at hj hk
    omega
  | 5, 2, hj, hk => 
    simp only [isW] at hj hk
    omega
  | 5, 3, hj, hk => 
    simp only [isW] at hj hk
    omega
  | 5, 4, hj, hk => 
    simp only [isW] at hj hk
    omega
  | 5, 5, _, _ => rfl
  | 5, 6, hj, hk => 
    simp only [isW] at hj hk
    omega
  | 6, 0, hj, hk => 
    simp only [isW] at hj hk
    omega
  | 6, 1, hj, hk => 
    simp only [isW] at hj hk
    omega
  | 6, 2, hj, hk => 
    simp only [isW] at hj hk
    omega
  | 6, 3, hj, hk => 
    simp only [isW] at hj hk
    omega
  | 6, 4, hj, hk => 
    simp only [isW] at hj hk
    omega
  | 6, 5, hj, hk => 
    simp only [isW] at hj hk
    omega
  | 6, 6, _, _ => rfl
  | j + 7, _, hj, _ => exact absurd hj id
  | _, k + 7, _, hk => exact absurd hk id
end TXT
