/-! PURE PART: what is told -/
section KQRY
variable {w w1 w2 w3 : Wd} {a a' : Nat → Nat}
theorem c5_lis {l : Nat} (hl : l < 6) (y : Int32) : fX5_list w 0 (nI l) y = (if y = 0 then (fX1_sizeOf w 2 (nI l)).bind fun v4 => some v4 else if y = 1 then (fX1_weightOf w 2 (nI l)).bind fun v6 => some v6 else if y = 2 then (fX5_at w 7 6 (nI l)).bind fun v8 => some v8 else if y = 3 then (fX1_scoreAt w 2 (nI l) 0).bind fun v10 => some v10 else if y = 4 then (fX1_deletedIn w 2 (nI l)).bind fun v12 => some v12 else some (-2)) := by
  unfold fX5_list
  rw [isList_y hl, ob_some, if_neg (by decide)]
theorem K_list0 (K : KW w a) {l : Nat} (hl : l < 6) : fX5_list w 0 (nI l) 0 = some (nI (a (480 + l))) := by
  rw [c5_lis hl, if_pos rfl, C_sizeOf K.1.1 hl, ob_some]
theorem K_list1 (K : KW w a) {l : Nat} (hl : l < 6) : fX5_list w 0 (nI l) 1 = some (nI (a (486 + l))) := by
  rw [c5_lis hl, if_neg (by decide), if_pos rfl, C_weightOf K.1.1 hl, ob_some]
theorem K_list3 (K : KW w a) {l : Nat} (hl : l < 6) : fX5_list w 0 (nI l) 3 = some (nI (if 0 < a (480 + l) then a (240 + 40 * l) else 0)) := by
  rw [c5_lis hl, if_neg (by decide), if_neg (by decide), if_neg (by decide), if_pos rfl, l0, C_scoreAt K.1.1 K.2.1.1 hl (by omega), ob_some]
  rfl
theorem c5_ent {l q : Nat} (hl : l < 6) (hq : q < 1000) (z : Int32) (hz0 : ¬ z < 0) (hz : z ≤ 1) : fX5_entry w 0 (nI l) (nI q) z = ((fX1_sizeOf w 2 (nI l)).bind fun v6 => (if nI q < v6 then (if z = 0 then (fX1_documentAt w 2 (nI l) (nI q)).bind fun v10 => some v10 else (fX1_scoreAt w 2 (nI l) (nI q)).bind fun v9 => some v9) else some (-5))) := by
  have e : fX5_entry w 0 (nI l) (nI q) z = (if nI q < 0 then some (-2) else if z < 0 then some (-2) else if z ≤ 1 then (fX1_sizeOf w 2 (nI l)).bind fun v6 => (if nI q < v6 then (if z = 0 then (fX1_documentAt w 2 (nI l) (nI q)).bind fun v10 => some v10 else (fX1_scoreAt w 2 (nI l) (nI q)).bind fun v9 => some v9) else some (-5)) else some (-2)) := by
    unfold fX5_entry
    rw [isList_y hl, ob_some, if_neg (by decide)]
  rw [e, if_neg (nI_pos (by omega)), if_neg hz0, if_pos hz]
theorem K_ent0 (K : KW w a) {l q : Nat} (hl : l < 6) (hq : q < a (480 + l)) : fX5_entry w 0 (nI l) (nI q) 0 = some (nI (a (40 * l + q))) := by
  have hz := (K.2.1.1.1 l hl).1
  rw [c5_ent hl (by omega) 0 (by decide) (by decide), C_sizeOf K.1.1 hl, ob_some, if_pos (by rw [nI_lt_ (by omega) (by omega)]; exact hq), if_pos rfl, C_documentAt K.1.1 K.2.1.1 hl hq, ob_some]
theorem K_ent1 (K : KW w a) {l q : Nat} (hl : l < 6) (hq : q < a (480 + l)) : fX5_entry w 0 (nI l) (nI q) 1 = some (nI (a (240 + 40 * l + q))) := by
  have hz := (K.2.1.1.1 l hl).1
  rw [c5_ent hl (by omega) 1 (by decide) (by decide), C_sizeOf K.1.1 hl, ob_some, if_pos (by rw [nI_lt_ (by omega) (by omega)]; exact hq), if_neg (by decide), C_scoreAt K.1.1 K.2.1.1 hl (by omega), if_pos hq, ob_some]
theorem K_entN (K : KW w a) {l : Nat} (hl : l < 6) : fX5_entry w 0 (nI l) (nI (a (480 + l))) 0 = some (-5) := by
  have hz := (K.2.1.1.1 l hl).1
  rw [c5_ent hl (by omega) 0 (by decide) (by decide), C_sizeOf K.1.1 hl, ob_some, if_neg (by rw [nI_lt_ (by omega) (by omega)]; omega)]
theorem c5_doc {d : Nat} (hd : d < 60) (y : Int32) : fX5_document w 0 (nI d) y = (if y = 0 then (fX1_isDeleted w 2 (nI d)).bind fun v4 => (fX5_oneIf w v4).bind fun v5 => some v5 else if y = 1 then (fX1_valueOf w 2 (nI d)).bind fun v7 => some v7 else if y = 2 then (fX1_listsWith w 2 (nI d)).bind fun v9 => some v9 else if y = 3 then (fX1_wantedPlaceOf w 2 (nI d)).bind fun v11 => some v11 else some (-2)) := by
  unfold fX5_document
  rw [isDoc_y hd, ob_some, if_neg (by decide)]
theorem K_doc0 (K : KW w a) {d : Nat} (hd : d < 60) : fX5_document w 0 (nI d) 0 = some (nI (a (498 + d))) := by
  have hg := K.2.1.1.2.2.2.2.1 d hd
  rw [c5_doc hd, if_pos rfl, C_isDeleted K.1.1 K.2.1.1 hd, ob_some]
  obtain h0 | h0 : a (498 + d) = 0 ∨ a (498 + d) = 1 := by omega
  · rw [h0]; rfl
  · rw [h0]; rfl
theorem K_doc1 (K : KW w a) {d : Nat} (hd : d < 60) : fX5_document w 0 (nI d) 1 = some (nI (val a d)) := by
  rw [c5_doc hd, if_neg (by decide), if_pos rfl, C_valueOf K.1.1 K.2.1.1 hd, ob_some]
theorem K_doc2 (K : KW w a) {d : Nat} (hd : d < 60) : fX5_document w 0 (nI d) 2 = some (nI (bs (has a d) 6)) := by
  rw [c5_doc hd, if_neg (by decide), if_neg (by decide), if_pos rfl, C_listsWith K.1.1 K.2.1.1 hd, ob_some]
theorem K_doc3 (K : KW w a) {d : Nat} (hd : d < 60) : (wtd a d → fX5_document w 0 (nI d) 3 = some (nI (wct a d 60))) ∧ (¬ wtd a d → fX5_document w 0 (nI d) 3 = some (-5)) := by
  have c := C_wantedPlaceOf K.1.1 K.2.1.1 hd
  refine ⟨fun h => ?_, fun h => ?_⟩
  · rw [c5_doc hd, if_neg (by decide), if_neg (by decide), if_neg (by decide), if_pos rfl, c.1 h.1 h.2, ob_some]
  · rw [c5_doc hd, if_neg (by decide), if_neg (by decide), if_neg (by decide), if_pos rfl]
    by_cases hm : may a d
    · rw [c.2.1 hm (fun z => h ⟨hm, z⟩), ob_some]
    · rw [c.2.2 hm, ob_some]
theorem c5_wan {q : Nat} (hq : q < 1000) : fX5_wanted w 0 (nI q) = ((fX1_wantedAt w 2 (nI q)).bind fun v2 => some v2) := by
  have e : fX5_wanted w 0 (nI q) = (if 0 ≤ nI q then (fX1_wantedAt w 2 (nI q)).bind fun v2 => some v2 else some (-2)) := rfl
  rw [e, if_pos (by rw [l0, nI_le_ (by omega) (by omega)]; omega)]
theorem K_wanted (K : KW w a) {q : Nat} (hq : q < 1000) : (∀ d, d < 60 → wat a q d → fX5_wanted w 0 (nI q) = some (nI d)) ∧ ((∀ d, d < 60 → ¬ wat a q d) → fX5_wanted w 0 (nI q) = some (-5)) := by
  have c := C_wantedAt K.1.1 K.2.1.1 (p := q) (by omega)
  exact ⟨fun d hd h => by rw [c5_wan hq, c.1 d hd h, ob_some], fun h => by rw [c5_wan hq, c.2 h, ob_some]⟩
theorem c5_cou (x : Int32) : fX5_count w 0 x = (if x = 0 then (fX1_entries w 2).bind fun v2 => some v2 else if x = 1 then (fX1_questionSize w 2).bind fun v4 => some v4 else if x = 2 then some (w.1 2 6) else if x = 3 then (fJ13_bitCount_95d88 w (w.2.1 2)).bind fun v7 => some v7 else if x = 4 then (fX1_wantedSize w 2).bind fun v9 => some v9 else if x = 5 then (fX5_oneIf w (bz (w.1 8 0))).bind fun v11 => some v11 else if x = 6 then some (w.1 1 2) else if x = 7 then some (w.1 1 3) else if x = 8 then some (w.1 17 1) else if x = 9 then some (w.1 99 1) else some (-2)) := rfl
theorem K_cnt1 (K : KW w a) : fX5_count w 0 1 = some (nI (qs a)) := by
  rw [c5_cou, if_neg (by decide), if_pos rfl, C_questionSize K.1.1 K.2.1.1, ob_some]
theorem K_cnt2 (K : KW w a) : fX5_count w 0 2 = some (nI (a 558)) := by
  have e : w.1 2 6 = nI (a 558) := K.1.1.2.2.2.2.2.2
  rw [c5_cou, if_neg (by decide), if_neg (by decide), if_pos rfl, e]
theorem K_cnt4 (K : KW w a) : fX5_count w 0 4 = some (nI (min (wmany a) (a 558))) := by
  rw [c5_cou, if_neg (by decide), if_neg (by decide), if_neg (by decide), if_neg (by decide), if_pos rfl, C_wantedSize K.1.1 K.2.1.1, ob_some]
theorem K_cnt5 (K : KW w a) (ho : a 559 = 0) : fX5_count w 0 5 = some 0 := by
  rw [c5_cou, if_neg (by decide), if_neg (by decide), if_neg (by decide), if_neg (by decide), if_neg (by decide), if_pos rfl, (on_0 K.1 K.2.1.1).1 ho]
  rfl
theorem K_cnt6 (K : KW w a) : fX5_count w 0 6 = some (nI (a 566)) := by
  rw [c5_cou, if_neg (by decide), if_neg (by decide), if_neg (by decide), if_neg (by decide), if_neg (by decide), if_neg (by decide), if_pos rfl, K.1.2.2.1]
theorem K_cnt7 (K : KW w a) : fX5_count w 0 7 = some (nI (a 567)) := by
  rw [c5_cou, if_neg (by decide), if_neg (by decide), if_neg (by decide), if_neg (by decide), if_neg (by decide), if_neg (by decide), if_neg (by decide), if_pos rfl, K.1.2.2.2.1]
/-! a reading -/
theorem K_seen3 (K : KW w a) (ho1 : a 559 = 1) {d : Nat} (hd : d < 60) (hs : sn a d) : fX5_seen w 0 (nI d) 3 = some (nI (fpl a d)) := by
  obtain ⟨f, m, R, F⟩ := K_front K ho1
  have hb0 := ((on_0 K.1 K.2.1.1).2 (by omega)).2
  have e : fX5_seen w 0 (nI d) 3 = (if (3 : Int32) < 0 then some (-2) else if (3 : Int32) ≤ 4 then (if (bz (w.1 8 0)) = 0 then some (-4) else (fX2_isSeen w 8 (nI d)).bind fun v6 => if v6 = 0 then some (-5) else if (3 : Int32) = 0 then (fX5_at w 14 60 (nI d)).bind fun v9 => some v9 else if (3 : Int32) = 1 then (fX2_highOf w 8 2 (nI d)).bind fun v11 => some v11 else if (3 : Int32) = 2 then (fX2_knownListsOf w 8 2 (nI d)).bind fun v13 => some v13 else if (3 : Int32) = 3 then (fX2_frontPlaceOf w 8 (nI d)).bind fun v15 => some v15 else (fX5_at w 15 60 (nI d)).bind fun v16 => some v16) else some (-2)) := by
    unfold fX5_seen
    rw [isDoc_y hd, ob_some, if_neg (by decide)]
  rw [e, if_neg (by decide), if_pos (by decide), if_neg hb0, C_isSeen R (K.2.1.2 ho1).1 hd, ob_some, if_pos hs, if_neg (by decide), if_neg (by decide), if_neg (by decide), if_neg (by decide), if_pos rfl, C_fplq R hd hs, ob_some]
theorem K_told (K : KW w a) (ho1 : a 559 = 1) : ∃ f m, FR a f m ∧ (∀ q, q < min m (a 558) → fX5_told w 0 (nI q) = some (nI (f q))) ∧ fX5_told w 0 (nI (min m (a 558))) = some (-5) := by
  obtain ⟨f, m, R, F⟩ := K_front K ho1
  have I := K.2.1.1
  have hb0 := ((on_0 K.1 I).2 (by omega)).2
  have hm := F.1
  have hc5 : ∀ q, q < 1000 → fX5_told w 0 (nI q) = (if nI (min m (a 558)) ≤ nI q then some (-5) else (fX5_at w 16 60 (nI q)).bind fun v5 => some v5) := fun q hq => by
    have e : fX5_told w 0 (nI q) = (if 0 ≤ nI q then (if (bz (w.1 8 0)) = 0 then some (-4) else (fX2_toldSize w 8 2).bind fun v3 => if v3 ≤ nI q then some (-5) else (fX5_at w 16 60 (nI q)).bind fun v5 => some v5) else some (-2)) := rfl
    rw [e, if_pos (by rw [l0, nI_le_ (by omega) (by omega)]; omega), if_neg hb0, C_toldSize K.1.1 R I, ob_some]
  refine ⟨f, m, F, fun q hq => ?_, ?_⟩
  · rw [hc5 q (by omega), if_neg (by rw [nI_le_ (by omega) (by omega)]; omega), C_front R (by omega), ob_some]
  · rw [hc5 _ (by omega), if_pos (by rw [nI_le_ (by omega) (by omega)]; omega)]
theorem c5_rea {x : Int32} (h0 : ¬ x < 0) (h12 : x ≤ 12) : fX5_reading w 0 x = (if (bz (w.1 8 0)) = 0 then some (-4) else if x = 0 then some (w.1 8 4) else if x = 1 then some (w.1 8 5) else if x = 2 then (fX2_allLookUps w 8).bind fun v7 => some v7 else if x = 3 then (fX2_cost w 8).bind fun v9 => some v9 else if x = 4 then some (w.1 8 15) else if x = 5 then (fX2_toldSize w 8 2).bind fun v12 => some v12 else if x = 6 then (fX2_isOver w 8 2).bind fun v14 => (fX5_oneIf w v14).bind fun v15 => some v15 else if x = 7 then (fX2_isOver w 8 2).bind fun v17 => (if v17 = 0 then (fX2_nextList w 8 2).bind fun v19 => some v19 else some (-5)) else if x = 8 then (fX2_weighedBounds w 8 2).bind fun v21 => some v21 else if x = 9 then (fX2_lowOfLastTold w 8 2).bind fun v23 => some v23 else if x = 10 then (fX2_caughtSize w 8).bind fun v25 => some v25 else if x = 11 then (fX2_toldNotWanted w 8 2).bind fun v27 => some v27 else (fX2_tellingLess w 8 2).bind fun v28 => some v28) := by
  have e : fX5_reading w 0 x = (if x < 0 then some (-2) else if x ≤ 12 then (if (bz (w.1 8 0)) = 0 then some (-4) else if x = 0 then some (w.1 8 4) else if x = 1 then some (w.1 8 5) else if x = 2 then (fX2_allLookUps w 8).bind fun v7 => some v7 else if x = 3 then (fX2_cost w 8).bind fun v9 => some v9 else if x = 4 then some (w.1 8 15) else if x = 5 then (fX2_toldSize w 8 2).bind fun v12 => some v12 else if x = 6 then (fX2_isOver w 8 2).bind fun v14 => (fX5_oneIf w v14).bind fun v15 => some v15 else if x = 7 then (fX2_isOver w 8 2).bind fun v17 => (if v17 = 0 then (fX2_nextList w 8 2).bind fun v19 => some v19 else some (-5)) else if x = 8 then (fX2_weighedBounds w 8 2).bind fun v21 => some v21 else if x = 9 then (fX2_lowOfLastTold w 8 2).bind fun v23 => some v23 else if x = 10 then (fX2_caughtSize w 8).bind fun v25 => some v25 else if x = 11 then (fX2_toldNotWanted w 8 2).bind fun v27 => some v27 else (fX2_tellingLess w 8 2).bind fun v28 => some v28) else some (-2)) := rfl
  rw [e, if_neg h0, if_pos h12]
theorem K_reaOff (K : KW w a) (ho : a 559 = 0) : fX5_reading w 0 0 = some (-4) := by
  rw [c5_rea (by decide) (by decide), if_pos ((on_0 K.1 K.2.1.1).1 ho)]
theorem K_rea (K : KW w a) (ho1 : a 559 = 1) : fX5_reading w 0 0 = some (nI (a 564)) ∧ fX5_reading w 0 2 = some (nI (sums a 580)) ∧ fX5_reading w 0 3 = some (nI (a 564 + 3 * sums a 580)) ∧ fX5_reading w 0 5 = some (nI (min (smany a) (a 558))) ∧ fX5_reading w 0 6 = some (nI (a 562)) ∧ (ov a → fX5_reading w 0 7 = some (-5)) ∧ fX5_reading w 0 10 = some (nI (sums a 574)) ∧ fX5_reading w 0 11 = some (nI (tnw a)) ∧ fX5_reading w 0 12 = some (nI (tls a)) := by
  have I := K.2.1.1
  have O := K.1.1
  have J := K.2.1.2 ho1
  have G : GR a := ⟨I, J⟩
  have hb0 := ((on_0 K.1 I).2 (by omega)).2
  obtain ⟨f, m, R, F⟩ := K_front K ho1
  have hm := FR_m F
  refine ⟨?_, ?_, ?_, ?_, ?_, fun hov => ?_, ?_, ?_, ?_⟩
  · rw [c5_rea (by decide) (by decide), if_neg hb0, if_pos rfl, R.2.2.2.1]
  · rw [c5_rea (by decide) (by decide), if_neg hb0, if_neg (by decide), if_neg (by decide), if_pos rfl, C_allLookUps R, ob_some]
  · rw [c5_rea (by decide) (by decide), if_neg hb0, if_neg (by decide), if_neg (by decide), if_neg (by decide), if_pos rfl, C_cost R, ob_some]
  · rw [c5_rea (by decide) (by decide), if_neg hb0, if_neg (by decide), if_neg (by decide), if_neg (by decide), if_neg (by decide), if_neg (by decide), if_pos rfl, C_toldSize O R I, ob_some, hm]
  · rw [c5_rea (by decide) (by decide), if_neg hb0, if_neg (by decide), if_neg (by decide), if_neg (by decide), if_neg (by decide), if_neg (by decide), if_neg (by decide), if_pos rfl, C_isOver O R I J.1, ob_some, oneIf_ov G, ob_some]
  · rw [c5_rea (by decide) (by decide), if_neg hb0, if_neg (by decide), if_neg (by decide), if_neg (by decide), if_neg (by decide), if_neg (by decide), if_neg (by decide), if_neg (by decide), if_pos rfl, C_isOver O R I J.1, ob_some, if_pos hov, if_neg (by decide)]
  · rw [c5_rea (by decide) (by decide), if_neg hb0, if_neg (by decide), if_neg (by decide), if_neg (by decide), if_neg (by decide), if_neg (by decide), if_neg (by decide), if_neg (by decide), if_neg (by decide), if_neg (by decide), if_neg (by decide), if_pos rfl, C_caughtSize R J.1, ob_some]
  · rw [c5_rea (by decide) (by decide), if_neg hb0, if_neg (by decide), if_neg (by decide), if_neg (by decide), if_neg (by decide), if_neg (by decide), if_neg (by decide), if_neg (by decide), if_neg (by decide), if_neg (by decide), if_neg (by decide), if_neg (by decide), if_pos rfl, C_tnw O R I, ob_some]
  · rw [c5_rea (by decide) (by decide), if_neg hb0, if_neg (by decide), if_neg (by decide), if_neg (by decide), if_neg (by decide), if_neg (by decide), if_neg (by decide), if_neg (by decide), if_neg (by decide), if_neg (by decide), if_neg (by decide), if_neg (by decide), if_neg (by decide), C_tls O R I, ob_some]
end KQRY
