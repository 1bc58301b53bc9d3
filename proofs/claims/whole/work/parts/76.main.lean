/-! PURE PART: class and reference side by side -/
def CRel (w : Wd) (a : Nat → Nat) (h : Nat) (p : Nat → Nat → Nat) (c : Nat) (ks : Nat → Nat) (n : Nat) (t : Nat → Nat) : Prop :=
  Rs w 1 a ∧ HC w h p ∧ bz (w.1 0 3) = nI c ∧ (c = 1 → Rs w 83 ks) ∧ w.1 99 1 = nI n ∧ ∀ i, i < n → w.1 100 i = nI (t i)
def RRel (w : Wd) (a : Nat → Nat) (h : Nat) (p : Nat → Nat → Nat) (c : Nat) (ks : Nat → Nat) (n : Nat) (t : Nat → Nat) : Prop :=
  ZA (w.1 112) a ∧ HM w h p ∧ bz (w.1 111 6) = nI c ∧ (c = 1 → ZA (w.1 114) ks) ∧ w.1 111 8 = nI n ∧ ∀ i, i < n → w.1 117 i = nI (t i)
def PV (a : Nat → Nat) (h : Nat) (p : Nat → Nat → Nat) (c : Nat) (ks : Nat → Nat) (n : Nat) (t : Nat → Nat) : Prop :=
  GD a ∧ h ≤ 4 ∧ (∀ j, j < h → GD (p j)) ∧ c ≤ 1 ∧ (c = 1 → GD ks) ∧ n ≤ 40 ∧ ∀ i, i < n → t i < 65536
def MR (w : Wd) : Prop := ∃ a h p c ks n t, CRel w a h p c ks n t ∧ RRel w a h p c ks n t ∧ PV a h p c ks n t
def Sim (cl rf : Wd → Option (Int32 × Wd)) : Prop := ∀ w, MR w → ∃ v w1 w2, cl w = some (v, w1) ∧ rf w1 = some (v, w2) ∧ MR w2
def SimQ (cl rf : Wd → Option Int32) : Prop := ∀ w, MR w → ∃ v, cl w = some v ∧ rf w = some v
def SimH (cl : Wd → Option Int32) (rf : Wd → Option (Int32 × Wd)) : Prop := ∀ w, MR w → ∃ v w2, cl w = some v ∧ rf w = some (v, w2) ∧ MR w2
section MRS
variable {w w1 w2 : Wd} {a a' : Nat → Nat} {h h' : Nat} {p p' : Nat → Nat → Nat} {c : Nat} {ks : Nat → Nat} {n : Nat} {t : Nat → Nat}
theorem HC_fr (H : HC w h p) (hI : ∀ j, j < h → IO (p j)) {lo hi : Nat} (F : Fr lo hi w w1) (hf : 83 ≤ lo ∨ hi ≤ 17) : HC w1 h p := by
  obtain ⟨H1, H2, P, HR⟩ := H
  have k2 : w1.2.2 18 = w.2.2 18 := F.2.2 18 (by omega)
  refine ⟨by rw [F.1 17 (by omega)]; exact H1, H2, ?_, fun j hj => ?_⟩
  · show (∀ i, i < 4 → ∃ t, t < 4 ∧ w1.2.2 18 i = 19 + 16 * t) ∧ (∀ i j, i < 4 → j < 4 → i ≠ j → w1.2.2 18 i ≠ w1.2.2 18 j)
    rw [k2]
    exact P
  · rw [k2]
    obtain ⟨t', ht', x'⟩ := P.1 j (by omega)
    exact Rs_fr (HR j hj) (hI j hj) F (by omega)
/-- a call that left the state as it was, but for the reference's lows -/
theorem MR_same (C : CRel w a h p c ks n t) (R : RRel w a h p c ks n t) (V : PV a h p c ks n t) (F : Fr 116 117 w w1) : MR w1 := by
  obtain ⟨c1, c2, c3, c4, c5, c6⟩ := C
  obtain ⟨r1, r2, r3, r4, r5, r6⟩ := R
  refine ⟨a, h, p, c, ks, n, t, ⟨Rs_fr c1 V.1.1 F (by omega), HC_fr c2 (fun j hj => (V.2.2.1 j hj).1) F (by omega), by rw [F.1 0 (by omega)]; exact c3, fun hc => Rs_fr (c4 hc) (V.2.2.2.2.1 hc).1 F (by omega), by rw [F.1 99 (by omega)]; exact c5, fun i hi => by rw [F.1 100 (by omega)]; exact c6 i hi⟩, ⟨by rw [F.1 112 (by omega)]; exact r1, ⟨by rw [F.1 111 (by omega)]; exact r2.1, fun j hj => by rw [F.1 113 (by omega)]; exact r2.2 j hj⟩, by rw [F.1 111 (by omega)]; exact r3, fun hc => by rw [F.1 114 (by omega)]; exact r4 hc, by rw [F.1 111 (by omega)]; exact r5, fun i hi => by rw [F.1 117 (by omega)]; exact r6 i hi⟩, V⟩
/-- a call that changed the state -/
theorem MR_upd (C : CRel w a h p c ks n t) (R : RRel w a h p c ks n t) (V : PV a h p c ks n t) (hR : Rs w1 1 a') (hH : HC w1 h' p') (F1 : Fr 1 83 w w1) (Z : ZA (w2.1 112) a') (H2 : HM w2 h' p') (F2 : Fr 111 117 w1 w2) (e114 : w2.1 114 = w1.1 114) (e111 : ∀ j, j ≠ 5 → w2.1 111 j = w1.1 111 j) (G' : GD a') (hv : h' ≤ 4) (hv2 : ∀ j, j < h' → GD (p' j)) : MR w2 := by
  obtain ⟨c1, c2, c3, c4, c5, c6⟩ := C
  obtain ⟨r1, r2, r3, r4, r5, r6⟩ := R
  obtain ⟨v1, v2, v3, v4, v5, v6, v7⟩ := V
  refine ⟨a', h', p', c, ks, n, t, ⟨Rs_fr hR G'.1 F2 (by omega), HC_fr hH (fun j hj => (hv2 j hj).1) F2 (by omega), ?_, fun hc => Rs_fr (Rs_fr (c4 hc) (v5 hc).1 F1 (by omega)) (v5 hc).1 F2 (by omega), ?_, fun i hi => ?_⟩, ⟨Z, H2, ?_, fun hc => ?_, ?_, fun i hi => ?_⟩, G', hv, hv2, v4, v5, v6, v7⟩
  · rw [F2.1 0 (by omega), F1.1 0 (by omega)]; exact c3
  · rw [F2.1 99 (by omega), F1.1 99 (by omega)]; exact c5
  · rw [F2.1 100 (by omega), F1.1 100 (by omega)]; exact c6 i hi
  · rw [e111 6 (by omega), F1.1 111 (by omega)]; exact r3
  · rw [e114, F1.1 114 (by omega)]; exact r4 hc
  · rw [e111 8 (by omega), F1.1 111 (by omega)]; exact r5
  · rw [F2.1 117 (by omega), F1.1 117 (by omega)]; exact r6 i hi
theorem rh_le (h : Nat) (hh : h ≤ 4) : rh h ≤ 4 := by unfold rh; split <;> omega
theorem rp_GD (V1 : GD a) (hh : h ≤ 4) (hp : ∀ j, j < h → GD (p j)) : ∀ j, j < rh h → GD (rp p h a j) := by
  intro j hj
  unfold rh at hj
  unfold rp
  by_cases h4 : h < 4
  · rw [if_pos h4] at hj ⊢
    by_cases hjh : j = h
    · rw [if_pos hjh]; exact V1
    · rw [if_neg hjh]; exact hp j (by omega)
  · rw [if_neg h4] at hj ⊢
    by_cases hj3 : j = 3
    · rw [if_pos hj3]; exact V1
    · rw [if_neg hj3]; exact hp (j + 1) (by omega)
theorem REC_C (C : CRel w a h p c ks n t) (V : PV a h p c ks n t) : ∃ w1, fX0_record LY w 17 1 = some w1 ∧ Rs w1 1 a ∧ HC w1 (rh h) (rp p h a) ∧ Fr 17 83 w w1 := by
  obtain ⟨w1, e, H, F⟩ := C_record C.2.1 (fun j hj => (V.2.2.1 j hj).1) C.1 V.1.1
  exact ⟨w1, e, Rs_fr C.1 V.1.1 F (by omega), H, F⟩
theorem RR_fr (R : RRel w a h p c ks n t) {lo hi : Nat} (F : Fr lo hi w w1) (hf : hi ≤ 111) : RRel w1 a h p c ks n t := by
  obtain ⟨r1, r2, r3, r4, r5, r6⟩ := R
  exact ⟨by rw [F.1 112 (by omega)]; exact r1, ⟨by rw [F.1 111 (by omega)]; exact r2.1, fun j hj => by rw [F.1 113 (by omega)]; exact r2.2 j hj⟩, by rw [F.1 111 (by omega)]; exact r3, fun hc => by rw [F.1 114 (by omega)]; exact r4 hc, by rw [F.1 111 (by omega)]; exact r5, fun i hi => by rw [F.1 117 (by omega)]; exact r6 i hi⟩
/-- the reference records, and then changes its row alone (with the lows and the spare row) -/
theorem MR_rec (C : CRel w a h p c ks n t) (R : RRel w a h p c ks n t) (V : PV a h p c ks n t) {wr wm : Wd} (hR : Rs w1 1 a') (hH : HC w1 (rh h) (rp p h a)) (F1 : Fr 1 83 w w1) (er : Fr 111 114 w1 wr) (e111 : ∀ j, j ≠ 5 → wr.1 111 j = w1.1 111 j) (hm : HM wr (rh h) (rp p h a)) (Fm' : Fm wr wm) (Z : ZA (wm.1 112) a') (G' : GD a') : MR wm := by
  have k111 : wm.1 111 = wr.1 111 := Fm'.1.1 111 (by omega)
  refine MR_upd C R V hR hH F1 Z ⟨?_, fun j hj => ?_⟩ ((er.wide (by omega) (by omega)).trans (Fm'.1.wide (by omega) (by omega))) ?_ (fun j hj => ?_) G' (rh_le h V.2.1) (rp_GD V.1 V.2.1 V.2.2.1)
  · rw [k111]; exact hm.1
  · rw [Fm'.2.1]; exact hm.2 j hj
  · rw [Fm'.2.2.1, er.1 114 (by omega)]
  · rw [k111]; exact e111 j hj
theorem GD_of (I : IO a') (J : a' 559 = 1 → IR a') : GD a' := ⟨I, J⟩
/-! arguments -/
theorem X6_isList (w : Wd) (x : Int32) : fX6_isList w x = fX5_isList w x := rfl
theorem X6_isDoc (w : Wd) (x : Int32) : fX6_isDocument w x = fX5_isDocument w x := rfl
theorem list_cases (x : Int32) : (∃ l, l < 6 ∧ x = nI l) ∨ ∀ l, l < 6 → x ≠ nI l := by
  by_cases h : ∃ l, l < 6 ∧ x = nI l
  · exact Or.inl h
  · exact Or.inr (fun l hl e => h ⟨l, hl, e⟩)
theorem doc_cases (x : Int32) : (∃ l, l < 60 ∧ x = nI l) ∨ ∀ l, l < 60 → x ≠ nI l := by
  by_cases h : ∃ l, l < 60 ∧ x = nI l
  · exact Or.inl h
  · exact Or.inr (fun l hl e => h ⟨l, hl, e⟩)
theorem neg_lt1 {x : Int32} (h : x < 0) : x < 1 := by
  rw [Int32.lt_iff_toInt_lt] at h ⊢
  have h1 : (0 : Int32).toInt = 0 := by decide
  have h2 : (1 : Int32).toInt = 1 := by decide
  omega
/-- a number from 0 to k, or less than 0, or more -/
theorem num_cases (x : Int32) : (x < 0) ∨ ∃ s, s < 2147483648 ∧ x = nI s := by
  by_cases h : x < 0
  · exact Or.inl h
  · obtain ⟨j, hj, e⟩ := nI_of h
    exact Or.inr ⟨j, by omega, e⟩
theorem on_0 (R : Rs w 1 a) (I : IO a) : (a 559 = 0 → bz (w.1 8 0) = 0) ∧ (a 559 ≠ 0 → a 559 = 1 ∧ ¬ bz (w.1 8 0) = 0) := by
  have h := R.2.1
  have h1 := I.2.2.2.2.2.2
  refine ⟨fun z => ?_, fun z => ?_⟩
  · rw [show (8 : Nat) = 1 + 7 from rfl, h, z]; rfl
  · have : a 559 = 1 := by omega
    refine ⟨this, ?_⟩
    rw [show (8 : Nat) = 1 + 7 from rfl, h, this]
    decide
end MRS
/-- what reading a command leaves as it was -/
def FT (w q : Wd) : Prop := (∀ k, k ≠ 99 → k ≠ 101 → k ≠ 111 → k ≠ 118 → q.1 k = w.1 k) ∧ q.2 = w.2 ∧ q.1 99 1 = w.1 99 1 ∧ ∀ j, j ≤ 8 → q.1 111 j = w.1 111 j
def SimT (cl rf : Wd → Option (Int32 × Wd)) : Prop := ∀ w, MR w → ∃ v w1, cl w = some (v, w1) ∧ w1.1 111 = w.1 111 ∧ w1.1 117 = w.1 117 ∧ ∀ q, FT w1 q → ∃ w2, rf q = some (v, w2) ∧ MR w2
section MRT
variable {w w1 w2 q q2 : Wd} {a a' : Nat → Nat} {h h' : Nat} {p p' : Nat → Nat → Nat} {c : Nat} {ks : Nat → Nat} {n : Nat} {t : Nat → Nat}
theorem FT.rfl' : FT w w := ⟨fun _ _ _ _ _ => rfl, rfl, rfl, fun _ _ => rfl⟩
theorem FT.trans (h : FT w q) (h2 : FT q q2) : FT w q2 := ⟨fun k h99 h101 h111 h118 => (h2.1 k h99 h101 h111 h118).trans (h.1 k h99 h101 h111 h118), h2.2.1.trans h.2.1, h2.2.2.1.trans h.2.2.1, fun j hj => (h2.2.2.2 j hj).trans (h.2.2.2 j hj)⟩
theorem SimT.sim {cl rf : Wd → Option (Int32 × Wd)} (h : SimT cl rf) : Sim cl rf := fun w hw => by
  obtain ⟨v, w1, e1, -, -, k⟩ := h w hw
  obtain ⟨w2, e2, m⟩ := k w1 FT.rfl'
  exact ⟨v, w1, w2, e1, e2, m⟩
theorem Rs_ft {s : Nat} (R : Rs w s a) (I : IO a) (F : FT w q) (h : s + 16 ≤ 99) : Rs q s a :=
  Rs_of I (SO_fr (fun k _ _ => F.1 k (by omega) (by omega) (by omega) (by omega)) (by rw [F.2.1])) (SD_fr (fun k _ _ => F.1 k (by omega) (by omega) (by omega) (by omega))) (by rw [F.1 s (by omega) (by omega) (by omega) (by omega)]) (by rw [F.1 s (by omega) (by omega) (by omega) (by omega)]) R
theorem HC_ft (H : HC w h p) (hI : ∀ j, j < h → IO (p j)) (F : FT w q) : HC q h p := by
  obtain ⟨H1, H2, P, HR⟩ := H
  have k2 : q.2.2 18 = w.2.2 18 := by rw [F.2.1]
  refine ⟨by rw [F.1 17 (by omega) (by omega) (by omega) (by omega)]; exact H1, H2, ?_, fun j hj => ?_⟩
  · show (∀ i, i < 4 → ∃ t, t < 4 ∧ q.2.2 18 i = 19 + 16 * t) ∧ (∀ i j, i < 4 → j < 4 → i ≠ j → q.2.2 18 i ≠ q.2.2 18 j)
    rw [k2]
    exact P
  · rw [k2]
    obtain ⟨t', ht', x'⟩ := P.1 j (by omega)
    exact Rs_ft (HR j hj) (hI j hj) F (by omega)
theorem RR_ft (R : RRel w a h p c ks n t) (F : FT w q) : RRel q a h p c ks n t := by
  obtain ⟨r1, r2, r3, r4, r5, r6⟩ := R
  exact ⟨by rw [F.1 112 (by omega) (by omega) (by omega) (by omega)]; exact r1, ⟨by rw [F.2.2.2 5 (by omega)]; exact r2.1, fun j hj => by rw [F.1 113 (by omega) (by omega) (by omega) (by omega)]; exact r2.2 j hj⟩, by rw [F.2.2.2 6 (by omega)]; exact r3, fun hc => by rw [F.1 114 (by omega) (by omega) (by omega) (by omega)]; exact r4 hc, by rw [F.2.2.2 8 (by omega)]; exact r5, fun i hi => by rw [F.1 117 (by omega) (by omega) (by omega) (by omega)]; exact r6 i hi⟩
theorem CR_ft (C : CRel w a h p c ks n t) (V : PV a h p c ks n t) (F : FT w q) : CRel q a h p c ks n t := by
  obtain ⟨c1, c2, c3, c4, c5, c6⟩ := C
  exact ⟨Rs_ft c1 V.1.1 F (by omega), HC_ft c2 (fun j hj => (V.2.2.1 j hj).1) F, by rw [F.1 0 (by omega) (by omega) (by omega) (by omega)]; exact c3, fun hc => Rs_ft (c4 hc) (V.2.2.2.2.1 hc).1 F (by omega), by rw [F.2.2.1]; exact c5, fun i hi => by rw [F.1 100 (by omega) (by omega) (by omega) (by omega)]; exact c6 i hi⟩
theorem MR_ft (H : MR w) (F : FT w q) : MR q := by
  obtain ⟨a, h, p, c, ks, n, t, C, R, V⟩ := H
  exact ⟨a, h, p, c, ks, n, t, CR_ft C V F, RR_ft R F, V⟩
/-- as MR_rec, where reading a command lies between -/
theorem MR_rec2 (hq : FT w1 q) (C : CRel w a h p c ks n t) (R : RRel w a h p c ks n t) (V : PV a h p c ks n t) {wr wm : Wd} (hR : Rs w1 1 a') (hH : HC w1 (rh h) (rp p h a)) (F1 : Fr 1 83 w w1) (er : Fr 111 114 q wr) (e111 : ∀ j, j ≠ 5 → wr.1 111 j = q.1 111 j) (hm : HM wr (rh h) (rp p h a)) (Fm' : Fm wr wm) (Z : ZA (wm.1 112) a') (G' : GD a') : MR wm := by
  have k111 : wm.1 111 = wr.1 111 := Fm'.1.1 111 (by omega)
  have F2 : Fr 111 117 q wm := (er.wide (by omega) (by omega)).trans (Fm'.1.wide (by omega) (by omega))
  obtain ⟨c1, c2, c3, c4, c5, c6⟩ := C
  obtain ⟨r1, r2, r3, r4, r5, r6⟩ := R
  obtain ⟨v1, v2, v3, v4, v5, v6, v7⟩ := V
  have hv2 := rp_GD v1 v2 v3
  refine ⟨a', rh h, rp p h a, c, ks, n, t, ⟨Rs_fr (Rs_ft hR G'.1 hq (by omega)) G'.1 F2 (by omega), HC_fr (HC_ft hH (fun j hj => (hv2 j hj).1) hq) (fun j hj => (hv2 j hj).1) F2 (by omega), ?_, fun hc => Rs_fr (Rs_ft (Rs_fr (c4 hc) (v5 hc).1 F1 (by omega)) (v5 hc).1 hq (by omega)) (v5 hc).1 F2 (by omega), ?_, fun i hi => ?_⟩, ⟨Z, ⟨?_, fun j hj => ?_⟩, ?_, fun hc => ?_, ?_, fun i hi => ?_⟩, G', rh_le h v2, hv2, v4, v5, v6, v7⟩
  · rw [F2.1 0 (by omega), hq.1 0 (by omega) (by omega) (by omega) (by omega), F1.1 0 (by omega)]; exact c3
  · rw [F2.1 99 (by omega), hq.2.2.1, F1.1 99 (by omega)]; exact c5
  · rw [F2.1 100 (by omega), hq.1 100 (by omega) (by omega) (by omega) (by omega), F1.1 100 (by omega)]; exact c6 i hi
  · rw [k111]; exact hm.1
  · rw [Fm'.2.1]; exact hm.2 j hj
  · rw [k111, e111 6 (by omega), hq.2.2.2 6 (by omega), F1.1 111 (by omega)]; exact r3
  · rw [Fm'.2.2.1, er.1 114 (by omega), hq.1 114 (by omega) (by omega) (by omega) (by omega), F1.1 114 (by omega)]; exact r4 hc
  · rw [k111, e111 8 (by omega), hq.2.2.2 8 (by omega), F1.1 111 (by omega)]; exact r5
  · rw [F2.1 117 (by omega), hq.1 117 (by omega) (by omega) (by omega) (by omega), F1.1 117 (by omega)]; exact r6 i hi
end MRT
