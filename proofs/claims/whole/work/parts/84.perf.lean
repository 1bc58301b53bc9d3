/-! PURE PART: a command carried out -/
section PERF
variable {w w1 w2 u : Wd} {n : Nat} {t : Nat → Nat}
theorem P98f (c : Int32) {m i : Nat} (h10 : u.1 111 10 = 1) {q : Nat} (h9 : u.1 111 9 = nI q) (N : Nat) : lX6_perform_98 111 (N + 1) u c (nI m) (nI i) = some (-100 - nI q, u) := by
  have b1 : ¬ bz (u.1 111 10) = 0 := by rw [h10]; decide
  rw [lX6_perform_98, if_neg b1, if_neg b1, h9, ite_self]
/-- the numbers of a command, both ways -/
def CMD (w : Wd) (n : Nat) (t : Nat → Nat) (c : Int32) (m i q : Nat) (o : Option (Int32 × Wd)) (M : Nat) : Prop :=
  (∃ (pos : Nat) (w' : Wd), o = some (nI pos, w') ∧ FT w w' ∧ w'.1 99 2 = w.1 99 2 ∧ pos < 1000 ∧ ∀ u, TM u n t → u.1 111 9 = nI q → u.1 111 10 = 0 → ∃ u', lX6_perform_98 111 M u c (nI m) (nI i) = some (-100 - nI pos, u') ∧ FT u u') ∨
  (∃ (w' : Wd) (vs : Nat → Int32), o = some (-1, w') ∧ FT w w' ∧ w'.1 99 2 = w.1 99 2 ∧ (∀ j, i ≤ j → j < m → w'.1 101 j = vs j) ∧ (∀ j, j < i → w'.1 101 j = w.1 101 j) ∧ ∀ u, TM u n t → u.1 111 9 = nI q → u.1 111 10 = 0 → ∃ u', lX6_perform_98 111 M u c (nI m) (nI i) = (ob2 (fX6_does u' 111 c) fun v w => some (v, w)) ∧ FT u u' ∧ (∀ j, i ≤ j → j < m → u'.1 118 j = vs j) ∧ (∀ j, j < i → u'.1 118 j = u.1 118 j))
theorem numbers (V : TV n t) (c : Int32) {m : Nat} (hm : m ≤ 3) : ∀ k i q N M w, i + k = m → q ≤ n → k < N → k < M → TX w n t → CMD w n t c m i q (lX4_readCommand_34 99 N w (nI q) (nI m) (nI i)) M := by
  have h40 := V.1
  intro k
  induction k with
  | zero =>
    intro i q N M w hi hq hN hM X
    obtain ⟨N, rfl⟩ : ∃ N', N = N' + 1 := ⟨N - 1, by omega⟩
    obtain ⟨M, rfl⟩ : ∃ N', M = N' + 1 := ⟨M - 1, by omega⟩
    have him : i = m := by omega
    subst him
    have e1 : lX4_readCommand_34 99 (N + 1) w (nI q) (nI i) (nI i) = if nI n ≤ nI q then some (-1, w) else some (nI q, w) := by
      rw [lX4_readCommand_34, if_pos Int32.le_rfl, X.1]
    have e2 : ∀ u, TM u n t → u.1 111 9 = nI q → u.1 111 10 = 0 → lX6_perform_98 111 (M + 1) u c (nI i) (nI i) = if nI n ≤ nI q then (ob2 (fX6_does u 111 c) fun v w => some (v, w)) else some (-100 - nI q, u) := fun u Y h9 h10 => by
      have b0 : bz (u.1 111 10) = 0 := by rw [h10]; decide
      rw [lX6_perform_98, if_pos Int32.le_rfl, if_pos b0, Y.1, h9]
    rw [e1]
    by_cases h : nI n ≤ nI q
    · rw [if_pos h]
      refine Or.inr ⟨w, fun j => w.1 101 j, rfl, FT.rfl', rfl, fun j h1 h2 => by omega, fun j _ => rfl, fun u Y h9 h10 => ⟨u, by rw [e2 u Y h9 h10, if_pos h], FT.rfl', fun j h1 h2 => by omega, fun j _ => rfl⟩⟩
    · rw [if_neg h]
      exact Or.inl ⟨q, w, rfl, FT.rfl', rfl, by omega, fun u Y h9 h10 => ⟨u, by rw [e2 u Y h9 h10, if_neg h], FT.rfl'⟩⟩
  | succ k ih =>
    intro i q N M w hi hq hN hM X
    obtain ⟨N, rfl⟩ : ∃ N', N = N' + 1 := ⟨N - 1, by omega⟩
    obtain ⟨M, rfl⟩ : ∃ N', M = N' + 1 := ⟨M - 1, by omega⟩
    obtain ⟨M', hM'⟩ : ∃ N', M = N' + 1 := ⟨M - 1, by omega⟩
    have him : ¬ nI m ≤ nI i := by rw [nI_le_ (by omega) (by omega)]; omega
    have hs := sg_lt V q
    have e1 : lX4_readCommand_34 99 (N + 1) w (nI q) (nI m) (nI i) = if sg n t q = 32 then (fX4_digitsFrom w 99 (nI (q + 1))).bind fun v10 => (if v10 = 0 then some (nI (q + 1), w) else (fX4_numberFrom w 99 (nI (q + 1)) v10).bind fun v12 => (fX5_put w 101 3 (nI i) v12).bind fun w13 => lX4_readCommand_34 99 N w13 (nI (q + 1) + v10) (nI m) (nI (i + 1))) else some (nI q, w) := by
      rw [lX4_readCommand_34, if_neg him, C_sg X V (by omega), ob_some, n1, nI_add, nI_add, n32]
      by_cases h : sg n t q = 32
      · rw [if_pos h, if_pos (by rw [h])]
      · rw [if_neg h, if_neg (by rw [nI_eq_ (by omega) (by omega)]; exact h)]
    have e2 : ∀ u : Wd, u.1 111 10 = 0 → lX6_perform_98 111 (M + 1) u c (nI m) (nI i) = (fX6_readNumber u 111 (nI i)).bind fun w18 => lX6_perform_98 111 M w18 c (nI m) (nI (i + 1)) := fun u h10 => by
      have b0 : bz (u.1 111 10) = 0 := by rw [h10]; decide
      rw [lX6_perform_98, if_neg him, if_pos b0, n1, nI_add]
    rw [e1]
    by_cases h32 : sg n t q = 32
    rotate_left
    · rw [if_neg h32]
      refine Or.inl ⟨q, w, rfl, FT.rfl', rfl, by omega, fun u Y h9 h10 => ?_⟩
      obtain ⟨u', er, F, g9, g10⟩ := (M_num Y V (i := i) (by omega) hq h9 h10).1 h32
      exact ⟨u', by rw [e2 u h10, er, ob_some, hM', P98f c g10 g9], F⟩
    rw [if_pos h32]
    have hqn : q < n := by
      unfold sg at h32
      by_cases h : q < n
      · exact h
      · rw [if_neg h] at h32; omega
    by_cases hd : dg (sg n t (q + 1))
    rotate_left
    · have e0 : fX4_digitsFrom w 99 (nI (q + 1)) = some (nI 0) := by
        have hs1 := sg_lt V (q + 1)
        unfold fX4_digitsFrom
        rw [C_sg X V (by omega), ob_some, n48, if_neg (by rw [nI_eq_ (by omega) (by omega)]; intro z; exact hd ⟨by omega, by omega⟩), l0, D14 X V (by omega) (by omega), Nat.add_zero, if_neg hd]
      rw [e0, ob_some, if_pos (show nI 0 = 0 from rfl)]
      refine Or.inl ⟨q + 1, w, rfl, FT.rfl', rfl, by omega, fun u Y h9 h10 => ?_⟩
      obtain ⟨u', er, F, g9, g10⟩ := (M_num Y V (i := i) (by omega) hq h9 h10).2.1 h32 hd
      exact ⟨u', by rw [e2 u h10, er, ob_some, hM', P98f c g10 g9], F⟩
    obtain ⟨d, v, hd1, hd3, hdn, hc, hr⟩ := number V hd
    obtain ⟨k1, k2⟩ := hc w X
    rw [k1, ob_some, if_neg (by rw [l0, nI_eq_ (by omega) (by omega)]; omega), k2, ob_some, put_n (show i < 3 by omega) (by omega), ob_some, nI_add]
    have X' : TX (sI w 101 i (nI v)) n t := TX_ft X (ft_101 _ _)
    have step : ∀ u, TM u n t → u.1 111 9 = nI q → u.1 111 10 = 0 → ∃ u1, fX6_readNumber u 111 (nI i) = some u1 ∧ FT u u1 ∧ u1.1 111 9 = nI (q + 1 + d) ∧ u1.1 111 10 = 0 ∧ ∀ j, u1.1 118 j = if j = i then nI v else u.1 118 j := fun u Y h9 h10 => by
      obtain ⟨u0, er, F, g9, g10, g118⟩ := (M_num Y V (i := i) (by omega) hq h9 h10).2.2 h32 hd
      obtain ⟨u1, er1, F1, p9, p10, p118⟩ := hr u0 i (by omega) (TM_ft Y F) g9
      exact ⟨u1, er.trans er1, F.trans F1, p9, p10.trans g10, fun j => by rw [p118 j, g118]⟩
    have s99 : (sI w 101 i (nI v)).1 99 2 = w.1 99 2 := by rw [sI_1, if_neg (by omega)]
    rcases ih (i + 1) (q + 1 + d) N M (sI w 101 i (nI v)) (by omega) (by omega) (by omega) (by omega) X' with ⟨pos, w', eo, F, e99, hpos, kk⟩ | ⟨w', vs, eo, F, e99, hv1, hv2, kk⟩
    · refine Or.inl ⟨pos, w', eo, (ft_101 _ _).trans F, e99.trans s99, hpos, fun u Y h9 h10 => ?_⟩
      obtain ⟨u1, er, F1, g9, g10, -⟩ := step u Y h9 h10
      obtain ⟨u', e3, F3⟩ := kk u1 (TM_ft Y F1) g9 g10
      exact ⟨u', by rw [e2 u h10, er, ob_some, e3], F1.trans F3⟩
    · refine Or.inr ⟨w', fun j => if j = i then nI v else vs j, eo, (ft_101 _ _).trans F, e99.trans s99, fun j h1 h2 => ?_, fun j h1 => ?_, fun u Y h9 h10 => ?_⟩
      · show _ = if j = i then nI v else vs j
        by_cases hj : j = i
        · rw [if_pos hj, hv2 j (by omega), sI_1, if_pos rfl, upd_1, if_pos hj]
        · rw [if_neg hj]; exact hv1 j (by omega) h2
      · rw [hv2 j (by omega), sI_1, if_pos rfl, upd_1, if_neg (by omega)]
      · obtain ⟨u1, er, F1, g9, g10, g118⟩ := step u Y h9 h10
        obtain ⟨u', e3, F3, p1, p2⟩ := kk u1 (TM_ft Y F1) g9 g10
        refine ⟨u', by rw [e2 u h10, er, ob_some, e3], F1.trans F3, fun j h1 h2 => ?_, fun j h1 => ?_⟩
        · show _ = if j = i then nI v else vs j
          by_cases hj : j = i
          · rw [if_pos hj, p2 j (by omega), g118, if_pos hj]
          · rw [if_neg hj]; exact p1 j (by omega) h2
        · rw [p2 j (by omega), g118, if_neg (by omega)]
/-- which word stands there, both ways -/
theorem C_word (X : TX w n t) (V : TV n t) {L k : Nat} (hL : L ≤ n) (hk : k < 7) : ∃ s, fX4_wordOf w (nI k) = some s ∧ s = k ∧ fX4_isWord w 99 s (nI L) = some (@ite Int32 (isW t k L) (Classical.propDecidable _) 1 0) := by
  obtain rfl | rfl | rfl | rfl | rfl | rfl | rfl : k = 0 ∨ k = 1 ∨ k = 2 ∨ k = 3 ∨ k = 4 ∨ k = 5 ∨ k = 6 := by omega
  · exact ⟨0, rfl, rfl, C_isW0 X V hL⟩
  · exact ⟨1, rfl, rfl, C_isW1 X V hL⟩
  · exact ⟨2, rfl, rfl, C_isW2 X V hL⟩
  · exact ⟨3, rfl, rfl, C_isW3 X V hL⟩
  · exact ⟨4, rfl, rfl, C_isW4 X V hL⟩
  · exact ⟨5, rfl, rfl, C_isW5 X V hL⟩
  · exact ⟨6, rfl, rfl, C_isW6 X V hL⟩
theorem M_word (Y : TM u n t) (V : TV n t) {L k : Nat} (hL : L ≤ n) (hk : k < 7) : fX6_isWord u 111 (nI k) (nI L) = some (@ite Int32 (isW t k L) (Classical.propDecidable _) 1 0) := by
  obtain rfl | rfl | rfl | rfl | rfl | rfl | rfl : k = 0 ∨ k = 1 ∨ k = 2 ∨ k = 3 ∨ k = 4 ∨ k = 5 ∨ k = 6 := by omega
  · exact M_isW0 Y V hL
  · exact M_isW1 Y V hL
  · exact M_isW2 Y V hL
  · exact M_isW3 Y V hL
  · exact M_isW4 Y V hL
  · exact M_isW5 Y V hL
  · exact M_isW6 Y V hL
theorem C_cstep (X : TX w n t) (V : TV n t) {L k : Nat} (hL : L ≤ n) (hk : k < 7) (N : Nat) : lX4_commandOfWord_2 99 (N + 1) w (nI L) (nI k) = @ite _ (isW t k L) (Classical.propDecidable _) (some (nI k)) (lX4_commandOfWord_2 99 N w (nI L) (nI (k + 1))) := by
  obtain ⟨s, e1, es, e2⟩ := C_word X V hL hk
  rw [lX4_commandOfWord_2, if_neg (by rw [show (7 : Int32) = nI 7 from rfl, nI_le_ (by omega) (by omega)]; omega), e1, ob_some, if_pos (by omega), e2, ob_some, n1, nI_add, ← n1]
  by_cases h : isW t k L
  · rw [if_pos h, if_pos h, if_neg (by decide)]
  · rw [if_neg h, if_neg h, if_pos rfl]
theorem M_cstep (Y : TM u n t) (V : TV n t) {L k : Nat} (hL : L ≤ n) (hk : k < 7) (x : Int32) (N : Nat) : lX6_perform_32 111 (N + 1) u (nI L) x (nI k) = lX6_perform_32 111 N u (nI L) (@ite _ (isW t k L) (Classical.propDecidable _) (nI k) x) (nI (k + 1)) := by
  rw [lX6_perform_32, if_neg (by rw [show (7 : Int32) = nI 7 from rfl, nI_le_ (by omega) (by omega)]; omega), M_word Y V hL hk, ob_some, n1, nI_add, ← n1]
  by_cases h : isW t k L
  · rw [if_pos h, if_pos h, if_neg (by decide)]
  · rw [if_neg h, if_neg h, if_pos rfl]
theorem C_cmdN (X : TX w n t) (V : TV n t) {L : Nat} (hL : L ≤ n) (h : ∀ k, k < 7 → ¬ isW t k L) : ∀ d k N, k + d = 7 → d < N → lX4_commandOfWord_2 99 N w (nI L) (nI k) = some (-1) := by
  intro d
  induction d with
  | zero =>
    intro k N hk hN
    obtain ⟨N, rfl⟩ : ∃ N', N = N' + 1 := ⟨N - 1, by omega⟩
    obtain rfl : k = 7 := by omega
    rw [lX4_commandOfWord_2, if_pos (by decide)]
  | succ d ih =>
    intro k N hk hN
    obtain ⟨N, rfl⟩ : ∃ N', N = N' + 1 := ⟨N - 1, by omega⟩
    rw [C_cstep X V hL (by omega), if_neg (h k (by omega))]
    exact ih (k + 1) N (by omega) (by omega)
theorem C_cmdY (X : TX w n t) (V : TV n t) {L c : Nat} (hL : L ≤ n) (hc : c < 7) (h : isW t c L) : ∀ d k N, k + d = 7 → k ≤ c → d < N → lX4_commandOfWord_2 99 N w (nI L) (nI k) = some (nI c) := by
  intro d
  induction d with
  | zero => intro k N hk hkc hN; omega
  | succ d ih =>
    intro k N hk hkc hN
    obtain ⟨N, rfl⟩ : ∃ N', N = N' + 1 := ⟨N - 1, by omega⟩
    rw [C_cstep X V hL (by omega)]
    by_cases hkc2 : k = c
    · rw [hkc2, if_pos h]
    · rw [if_neg (fun z => hkc2 (isW_one z h))]
      exact ih (k + 1) N (by omega) (by omega) (by omega)
theorem M_cmdN (Y : TM u n t) (V : TV n t) {L : Nat} (hL : L ≤ n) : ∀ d k N x, k + d = 7 → (∀ j, k ≤ j → j < 7 → ¬ isW t j L) → d < N → ∃ N', lX6_perform_32 111 N u (nI L) x (nI k) = lX6_perform_32 111 (N' + 1) u (nI L) x (nI 7) := by
  intro d
  induction d with
  | zero =>
    intro k N x hk h hN
    obtain rfl : k = 7 := by omega
    exact ⟨N - 1, by rw [show N - 1 + 1 = N by omega]⟩
  | succ d ih =>
    intro k N x hk h hN
    obtain ⟨N, rfl⟩ : ∃ N', N = N' + 1 := ⟨N - 1, by omega⟩
    rw [M_cstep Y V hL (by omega), if_neg (h k (by omega) (by omega))]
    exact ih (k + 1) N x (by omega) (fun j h1 h2 => h j (by omega) h2) (by omega)
theorem M_cmdY (Y : TM u n t) (V : TV n t) {L c : Nat} (hL : L ≤ n) (hc : c < 7) (h : isW t c L) : ∀ d k N x, k + d = 7 → k ≤ c → d < N → ∃ N', lX6_perform_32 111 N u (nI L) x (nI k) = lX6_perform_32 111 (N' + 1) u (nI L) (nI c) (nI 7) := by
  intro d
  induction d with
  | zero => intro k N x hk hkc hN; omega
  | succ d ih =>
    intro k N x hk hkc hN
    obtain ⟨N, rfl⟩ : ∃ N', N = N' + 1 := ⟨N - 1, by omega⟩
    rw [M_cstep Y V hL (by omega)]
    by_cases hkc2 : k = c
    · rw [hkc2, if_pos h]
      exact M_cmdN Y V hL d (c + 1) N (nI c) (by omega) (fun j h1 h2 z => by have := isW_one z h; omega) (by omega)
    · rw [if_neg (fun z => hkc2 (isW_one z h))]
      exact ih (k + 1) N x (by omega) (by omega) (by omega)
end PERF
