/-! PURE PART: the wanted ones, held against a count -/
section WNT
variable {w w1 w2 : Wd} {a a' : Nat → Nat}
theorem vv_le (I : IO a) (d : Nat) : vv a d ≤ 60000 := by
  have := val_le I d
  unfold vv
  split <;> omega
theorem W93 (K : KW w a) {d m : Nat} (hd : d < 60) (hn : ¬ wtd a d) {x2 x5 : Int32} (K11 : Wd → Int32 → Int32 → Int32 → Option (Int32)) (K24 : Wd → Int32 → Int32 → Int32 → Int32 → Int32 → Option (Int32)) : bL_areWanted_93 K11 K24 w 0 111 64 x2 (nI m) (nI d) x5 = K11 w x2 (nI m) (nI (d + 1)) := by
  unfold bL_areWanted_93 bL_areWanted_94
  rw [if_pos rfl]
  unfold bL_areWanted_107
  rw [(K_doc3 K hd).2 hn, ob_some, if_pos rfl]
  unfold bL_areWanted_128
  rw [if_pos rfl, if_pos rfl, show nI m + 0 = nI m by rw [l0, nI_add, Nat.add_zero], show nI d + 1 = nI (d + 1) by rw [n1, nI_add]]
theorem W94 (K : KW w a) {d m : Nat} (hd : d < 60) (hn : wtd a d) {x2 : Int32} (K11 : Wd → Int32 → Int32 → Int32 → Option (Int32)) (K24 : Wd → Int32 → Int32 → Int32 → Int32 → Int32 → Option (Int32)) : bL_areWanted_94 K11 K24 w 0 111 64 x2 (nI m) (nI d) (nI (wct a d 60)) 1 = K11 w x2 (nI (m + 1)) (nI (d + 1)) := by
  have hw := wct_le a d 60
  unfold bL_areWanted_94
  rw [if_neg (show ¬ (1 : Int32) = 0 by decide)]
  unfold bL_areWanted_107
  rw [(K_doc3 K hd).1 hn, ob_some, if_neg (show ¬ (1 : Int32) = 0 by decide)]
  unfold bL_areWanted_128
  rw [if_pos rfl, if_neg (show ¬ (1 : Int32) = 0 by decide), (K_wanted K (q := wct a d 60) (by omega)).1 d hd ⟨hn.1, hn.2, rfl⟩, ob_some, if_pos rfl, show nI m + 1 = nI (m + 1) by rw [n1, nI_add], show nI d + 1 = nI (d + 1) by rw [n1, nI_add]]
theorem W24 (K : KW w a) (D : D12 a) (V : VR w a 60) {d m : Nat} (hd : d < 12) (hm : m = cnt (wtd a) d) (K11 : Wd → Int32 → Int32 → Int32 → Option (Int32)) : lL_areWanted_24 0 111 64 K11 4096 w (nI (a 558)) (nI m) (nI d) 0 0 = K11 w (nI (a 558)) (nI (cnt (wtd a) (d + 1))) (nI (d + 1)) := by
  have I := K.2.1.1
  have hk := I.2.2.2.2.2.1
  have ld : ∀ e, e < 60 → ldI 64 w 111 (nI e) = some (nI (vv a e)) := fun e he => by rw [ldI_n (by omega) (by omega), V e he]
  refine loopN (fun n i => lL_areWanted_24 0 111 64 K11 n w (nI (a 558)) (nI m) (nI d) (nI (cnt (pla a d) i)) (nI i)) 12 _ (fun n i hi => ?_) (fun n => ?_) 4096 (by omega)
  · show lL_areWanted_24 0 111 64 K11 (n + 1) w _ _ (nI d) _ (nI i) = _
    have v1 := vv_le I i
    have v2 := vv_le I d
    have y : pla a d i → lL_areWanted_24 0 111 64 K11 n w (nI (a 558)) (nI m) (nI d) (nI (cnt (pla a d) i) + 1) (nI i + 1) = lL_areWanted_24 0 111 64 K11 n w (nI (a 558)) (nI m) (nI d) (nI (cnt (pla a d) (i + 1))) (nI (i + 1)) := fun h => by
      rw [cnt_s h, n1, nI_add, nI_add]
    have z : ¬ pla a d i → lL_areWanted_24 0 111 64 K11 n w (nI (a 558)) (nI m) (nI d) (nI (cnt (pla a d) i) + 0) (nI i + 1) = lL_areWanted_24 0 111 64 K11 n w (nI (a 558)) (nI m) (nI d) (nI (cnt (pla a d) (i + 1))) (nI (i + 1)) := fun h => by
      rw [cnt_n h, n1, l0, nI_add, nI_add, Nat.add_zero]
    rw [lL_areWanted_24, if_neg (by rw [show (12 : Int32) = nI 12 from rfl, nI_le_ (by omega) (by omega)]; omega), ld i (by omega), ob_some, ld d (by omega), ob_some]
    by_cases h1 : vv a d < vv a i
    · rw [if_pos (by rw [nI_lt_ (by omega) (by omega)]; exact h1)]
      exact y (Or.inl h1)
    · rw [if_neg (by rw [nI_lt_ (by omega) (by omega)]; exact h1), ob_some, ob_some]
      by_cases h2 : vv a i = vv a d
      · rw [if_pos (by rw [h2])]
        by_cases h3 : d ≤ i
        · rw [if_pos (by rw [nI_le_ (by omega) (by omega)]; exact h3)]
          exact z (by unfold pla; omega)
        · rw [if_neg (by rw [nI_le_ (by omega) (by omega)]; exact h3)]
          exact y (by unfold pla; omega)
      · rw [if_neg (by rw [nI_eq_ (by omega) (by omega)]; exact h2)]
        exact z (by unfold pla; omega)
  · show lL_areWanted_24 0 111 64 K11 (n + 1) w _ _ (nI d) _ (nI 12) = _
    have v2 := vv_le I d
    have hp : cnt (pla a d) 12 ≤ 12 := cnt_le _ _
    rw [lL_areWanted_24, if_pos (by decide), ld d (by omega), ob_some]
    by_cases h0 : vv a d = 0
    · have hn : ¬ wtd a d := fun z => by have := (vv_may I (show d < 60 by omega)).mpr z.1; omega
      rw [if_pos (by rw [h0]; decide), W93 K (by omega) hn, cnt_n hn, hm]
    · have hmay := (vv_may I (show d < 60 by omega)).mp (by omega)
      rw [if_neg (by rw [l0, nI_le_ (by omega) (by omega)]; omega)]
      have ep := pla_wct D I hmay
      by_cases hlt : a 558 ≤ cnt (pla a d) 12
      · have hn : ¬ wtd a d := fun z => by have := z.2; omega
        rw [if_pos (by rw [nI_le_ (by omega) (by omega)]; exact hlt), W93 K (by omega) hn, cnt_n hn, hm]
      · have hy : wtd a d := ⟨hmay, by omega⟩
        rw [if_neg (by rw [nI_le_ (by omega) (by omega)]; exact hlt), ep, W94 K (by omega) hy, cnt_s hy, hm]
theorem K_areWanted (K : KW w a) (D : D12 a) (V : VR w a 60) : fL_areWanted w 0 111 64 = some 1 := by
  have I := K.2.1.1
  have hk := I.2.2.2.2.2.1
  unfold fL_areWanted
  rw [K_cnt2 K, ob_some]
  refine loopN (fun n i => lL_areWanted_11 0 111 64 n w (nI (a 558)) (nI (cnt (wtd a) i)) (nI i)) 12 _ (fun n i hi => ?_) (fun n => ?_) 4096 (by omega)
  · show lL_areWanted_11 0 111 64 (n + 1) w _ _ (nI i) = _
    rw [lL_areWanted_11, if_neg (by rw [show (12 : Int32) = nI 12 from rfl, nI_le_ (by omega) (by omega)]; omega)]
    exact W24 K D V hi rfl _
  · show lL_areWanted_11 0 111 64 (n + 1) w _ _ (nI 12) = _
    have e : cnt (wtd a) 12 = min (wmany a) (a 558) := by
      rw [← wtd_cnt, cnt_ext (m := 12) 60 (by omega) (fun i h1 h2 z => D12_may D h1 z.1)]
    have hno : ∀ d, d < 60 → ¬ wat a (min (wmany a) (a 558)) d := fun d hd z => by
      have h1 := wct_wmany hd z.1
      have h2 := z.2.1
      have h3 := z.2.2
      omega
    rw [lL_areWanted_11, if_pos (by decide), K_cnt4 K, ob_some, e, if_pos rfl, (K_wanted K (by omega)).2 hno, ob_some, if_pos rfl, show fX5_document w 0 59 3 = some (-5) from (K_doc3 K (d := 59) (by omega)).2 (fun z => D12_may D (by omega) z.1), ob_some, if_pos rfl]
    exact rtZ_1
end WNT
