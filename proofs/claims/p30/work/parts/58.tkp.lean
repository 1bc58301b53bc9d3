/-! PURE PART: what taking out and putting in leave of a row's promises -/
def SC (a a' : Nat → Nat) (l : Nat) : Prop := ∀ k, k < 706 → k ≠ 480 + l → ¬ (40 * l ≤ k ∧ k < 40 * l + 40) → ¬ (240 + 40 * l ≤ k ∧ k < 240 + 40 * l + 40) → a' k = a k
theorem scr_none {a : Nat → Nat} {l d : Nat} (h : ∀ p, p < a (480 + l) → a (40 * l + p) ≠ d) : scr a l d = 0 := sm_zero (fun i hi => by rw [if_neg (h i hi)])
theorem scr_in {a : Nat → Nat} (I : IO a) {l p d : Nat} (hl : l < 6) (hp : p < a (480 + l)) (h : a (40 * l + p) = d) : scr a l d = a (240 + 40 * l + p) := by rw [← h]; exact scr_at I hl hp
theorem least {P : Nat → Prop} : ∀ n, P n → ∃ m, m ≤ n ∧ P m ∧ ∀ k, k < m → ¬ P k := by
  intro n
  induction n using Nat.strongRecOn with
  | _ n ih =>
    intro h
    by_cases h2 : ∃ k, k < n ∧ P k
    · obtain ⟨k, hk, hp⟩ := h2
      obtain ⟨m, h3, h4⟩ := ih k hk hp
      exact ⟨m, by omega, h4⟩
    · exact ⟨n, Nat.le_refl _, h, fun k hk hp => h2 ⟨k, hk, hp⟩⟩
/-- the place where (d, s) belongs -/
theorem aho_p {a : Nat → Nat} (I : IO a) {l d s : Nat} (hl : l < 6) : ∃ p, p ≤ a (480 + l) ∧ ∀ i, i < a (480 + l) → (aho a l d s i ↔ i < p) := by
  obtain ⟨p, h1, h2, h3⟩ := least (P := fun i => i = a (480 + l) ∨ (i < a (480 + l) ∧ ¬ aho a l d s i)) (a (480 + l)) (Or.inl rfl)
  refine ⟨p, h1, fun i hi => ⟨fun h => ?_, fun h => ?_⟩⟩
  · apply Decidable.byContradiction
    intro hc
    have hpl : p < a (480 + l) := by omega
    have hn : ¬ aho a l d s p := by
      rcases h2 with z | z
      · omega
      · exact z.2
    by_cases hpi : p = i
    · subst hpi; exact hn h
    · apply hn
      have so := I.2.2.1 l p i hl (by omega) hi
      unfold aho at h ⊢
      omega
  · apply Classical.byContradiction
    intro hc
    exact h3 i h (Or.inr ⟨hi, hc⟩)
section OTH
variable {a a' : Nat → Nat} {l : Nat}
theorem SC_size (S : SC a a' l) {m : Nat} (hl : l < 6) (hm : m < 6) (h : m ≠ l) : a' (480 + m) = a (480 + m) := S _ (by omega) (by omega) (by omega) (by omega)
theorem SC_doc (S : SC a a' l) {m p : Nat} (hl : l < 6) (hm : m < 6) (h : m ≠ l) (hp : p < 40) : a' (40 * m + p) = a (40 * m + p) := S _ (by omega) (by omega) (by omega) (by omega)
theorem SC_sco (S : SC a a' l) {m p : Nat} (hl : l < 6) (hm : m < 6) (h : m ≠ l) (hp : p < 40) : a' (240 + 40 * m + p) = a (240 + 40 * m + p) := S _ (by omega) (by omega) (by omega) (by omega)
theorem SC_far (S : SC a a' l) {k : Nat} (hl : l < 6) (hk : k < 706) (h : 486 ≤ k) : a' k = a k := S _ (by omega) (by omega) (by omega) (by omega)
theorem SC_scr (S : SC a a' l) (I : IO a) {m d : Nat} (hl : l < 6) (hm : m < 6) (h : m ≠ l) : scr a' m d = scr a m d := by
  have hz := (I.1 m hm).1
  unfold scr
  rw [SC_size S hl hm h]
  exact sm_cong (fun i hi => by rw [SC_doc S hl hm h (by omega), SC_sco S hl hm h (by omega)])
/-- the promises of a row, when one list is a good list again -/
theorem SC_IO (S : SC a a' l) (I : IO a) (hl : l < 6) (h1 : a' (480 + l) ≤ 40) (h2 : ∀ p, p < a' (480 + l) → a' (40 * l + p) < 60 ∧ 1 ≤ a' (240 + 40 * l + p) ∧ a' (240 + 40 * l + p) ≤ 999) (h3 : ∀ p q, p < q → q < a' (480 + l) → a' (240 + 40 * l + q) < a' (240 + 40 * l + p) ∨ (a' (240 + 40 * l + q) = a' (240 + 40 * l + p) ∧ a' (40 * l + p) < a' (40 * l + q))) (h4 : ∀ p q, p < q → q < a' (480 + l) → a' (40 * l + p) ≠ a' (40 * l + q)) : IO a' := by
  refine ⟨fun m hm => ?_, fun m p hm hp => ?_, fun m p q hm hpq hq => ?_, fun m p q hm hpq hq => ?_, fun d hd => ?_, ?_, ?_⟩
  · rw [SC_far S (k := 486 + m) hl (by omega) (by omega), SC_far S (k := 492 + m) hl (by omega) (by omega)]
    by_cases h : m = l
    · subst h; exact ⟨h1, (I.1 m hm).2⟩
    · rw [SC_size S hl hm h]; exact I.1 m hm
  · by_cases h : m = l
    · subst h; exact h2 p hp
    · have hz := (I.1 m hm).1
      rw [SC_size S hl hm h] at hp
      rw [SC_doc S hl hm h (by omega), SC_sco S hl hm h (by omega)]
      exact I.2.1 m p hm hp
  · by_cases h : m = l
    · subst h; exact h3 p q hpq hq
    · have hz := (I.1 m hm).1
      rw [SC_size S hl hm h] at hq
      rw [SC_doc S hl hm h (by omega), SC_sco S hl hm h (by omega), SC_doc S hl hm h (by omega), SC_sco S hl hm h (by omega)]
      exact I.2.2.1 m p q hm hpq hq
  · by_cases h : m = l
    · subst h; exact h4 p q hpq hq
    · have hz := (I.1 m hm).1
      rw [SC_size S hl hm h] at hq
      rw [SC_doc S hl hm h (by omega), SC_doc S hl hm h (by omega)]
      exact I.2.2.2.1 m p q hm hpq hq
  · rw [SC_far S hl (by omega) (by omega)]; exact I.2.2.2.2.1 d hd
  · rw [SC_far S hl (by omega) (by omega)]; exact I.2.2.2.2.2.1
  · rw [SC_far S hl (by omega) (by omega)]; exact I.2.2.2.2.2.2
theorem TK_IO {p : Nat} (T : TK a a' l p) (I : IO a) (hl : l < 6) (hp : p < a (480 + l)) : IO a' := by
  obtain ⟨t1, t2, t3⟩ := T
  have hz := (I.1 l hl).1
  refine SC_IO t2 I hl (by omega) (fun q hq => ?_) (fun q r hqr hr => ?_) (fun q r hqr hr => ?_)
  · have := t3 q hq
    rw [this.1, this.2]
    exact I.2.1 l _ hl (by split <;> omega)
  · have e1 := t3 q (by omega)
    have e2 := t3 r hr
    rw [e1.1, e1.2, e2.1, e2.2]
    exact I.2.2.1 l _ _ hl (by split <;> split <;> omega) (by split <;> omega)
  · have e1 := t3 q (by omega)
    have e2 := t3 r hr
    rw [e1.1, e2.1]
    exact I.2.2.2.1 l _ _ hl (by split <;> split <;> omega) (by split <;> omega)
theorem TK_scr0 {p : Nat} (T : TK a a' l p) (I : IO a) (hl : l < 6) (hp : p < a (480 + l)) : ∀ i, i < a' (480 + l) → a' (40 * l + i) ≠ a (40 * l + p) := by
  obtain ⟨t1, t2, t3⟩ := T
  intro i hi
  rw [(t3 i hi).1]
  by_cases h : i < p
  · rw [if_pos h]; exact I.2.2.2.1 l i p hl h hp
  · rw [if_neg h]; exact fun e => I.2.2.2.1 l p (i + 1) hl (by omega) (by omega) e.symm
theorem TK_scr {p e : Nat} (T : TK a a' l p) (I : IO a) (hl : l < 6) (hp : p < a (480 + l)) (he : e ≠ a (40 * l + p)) : scr a' l e = scr a l e := by
  have I' := TK_IO T I hl hp
  obtain ⟨t1, t2, t3⟩ := T
  rcases pl_cases I (d := e) hl with ⟨q, hq, e1, -, e2⟩ | ⟨e1, -, e2⟩
  · rw [e2]
    have hqp : q ≠ p := fun z => he (by rw [← e1, z])
    by_cases h : q < p
    · have := t3 q (by omega)
      rw [if_pos h] at this
      rw [scr_in I' hl (p := q) (by omega) (this.1.trans e1), this.2]
    · have := t3 (q - 1) (by omega)
      rw [if_neg (by omega), show q - 1 + 1 = q by omega] at this
      rw [scr_in I' hl (p := q - 1) (by omega) (this.1.trans e1), this.2]
  · rw [e2]
    refine scr_none (fun i hi z => ?_)
    rw [(t3 i hi).1] at z
    exact e1 _ (by split <;> omega) z
theorem PT_IO {p d s : Nat} (T : PT a a' l p d s) (I : IO a) (hl : l < 6) (hd : d < 60) (hs : 1 ≤ s) (hs2 : s ≤ 999) (hz : a (480 + l) < 40) (hp : p ≤ a (480 + l)) (ha : ∀ i, i < a (480 + l) → (aho a l d s i ↔ i < p)) (hn : ∀ i, i < a (480 + l) → a (40 * l + i) ≠ d) : IO a' := by
  obtain ⟨t1, t2, t3⟩ := T
  refine SC_IO t2 I hl (by omega) (fun q hq => ?_) (fun q r hqr hr => ?_) (fun q r hqr hr => ?_)
  · have := t3 q hq
    rw [this.1, this.2]
    by_cases h1 : q < p
    · rw [if_pos h1, if_pos h1]; exact I.2.1 l _ hl (by omega)
    · rw [if_neg h1, if_neg h1]
      by_cases h2 : q = p
      · rw [if_pos h2, if_pos h2]; omega
      · rw [if_neg h2, if_neg h2]; exact I.2.1 l _ hl (by omega)
  · have e1 := t3 q (by omega)
    have e2 := t3 r hr
    rw [e1.1, e1.2, e2.1, e2.2]
    by_cases q1 : q < p
    · rw [if_pos q1, if_pos q1]
      by_cases r1 : r < p
      · rw [if_pos r1, if_pos r1]; exact I.2.2.1 l _ _ hl hqr (by omega)
      · rw [if_neg r1, if_neg r1]
        by_cases r2 : r = p
        · rw [if_pos r2, if_pos r2]
          have := (ha q (by omega)).mpr q1
          unfold aho at this
          omega
        · rw [if_neg r2, if_neg r2]; exact I.2.2.1 l _ _ hl (by omega) (by omega)
    · rw [if_neg q1, if_neg q1, if_neg (show ¬ r < p by omega), if_neg (show ¬ r < p by omega), if_neg (show ¬ r = p by omega), if_neg (show ¬ r = p by omega)]
      by_cases q2 : q = p
      · rw [if_pos q2, if_pos q2]
        have h5 : ¬ aho a l d s (r - 1) := fun z => by have := (ha (r - 1) (by omega)).mp z; omega
        have h6 := hn (r - 1) (by omega)
        unfold aho at h5
        omega
      · rw [if_neg q2, if_neg q2]; exact I.2.2.1 l _ _ hl (by omega) (by omega)
  · have e1 := t3 q (by omega)
    have e2 := t3 r hr
    rw [e1.1, e2.1]
    by_cases q1 : q < p
    · rw [if_pos q1]
      by_cases r1 : r < p
      · rw [if_pos r1]; exact I.2.2.2.1 l _ _ hl hqr (by omega)
      · rw [if_neg r1]
        by_cases r2 : r = p
        · rw [if_pos r2]; exact hn q (by omega)
        · rw [if_neg r2]; exact I.2.2.2.1 l _ _ hl (by omega) (by omega)
    · rw [if_neg q1, if_neg (show ¬ r < p by omega), if_neg (show ¬ r = p by omega)]
      by_cases q2 : q = p
      · rw [if_pos q2]; exact fun e => hn (r - 1) (by omega) e.symm
      · rw [if_neg q2]; exact I.2.2.2.1 l _ _ hl (by omega) (by omega)
theorem PT_scr {p d s : Nat} (T : PT a a' l p d s) (I : IO a) (I' : IO a') (hl : l < 6) (hp : p ≤ a (480 + l)) : scr a' l d = s ∧ ∀ e, e ≠ d → scr a' l e = scr a l e := by
  obtain ⟨t1, t2, t3⟩ := T
  constructor
  · have := t3 p (by omega)
    rw [if_neg (by omega), if_pos rfl, if_neg (by omega), if_pos rfl] at this
    rw [scr_in I' hl (p := p) (by omega) this.1, this.2]
  · intro e he
    rcases pl_cases I (d := e) hl with ⟨q, hq, e1, -, e2⟩ | ⟨e1, -, e2⟩
    · rw [e2]
      by_cases h : q < p
      · have := t3 q (by omega)
        rw [if_pos h, if_pos h] at this
        rw [scr_in I' hl (p := q) (by omega) (this.1.trans e1), this.2]
      · have := t3 (q + 1) (by omega)
        rw [if_neg (by omega), if_neg (by omega), if_neg (by omega), if_neg (by omega), Nat.add_sub_cancel] at this
        rw [scr_in I' hl (p := q + 1) (by omega) (this.1.trans e1), this.2]
    · rw [e2]
      refine scr_none (fun i hi z => ?_)
      rw [(t3 i hi).1] at z
      by_cases h : i < p
      · rw [if_pos h] at z; exact e1 _ (by omega) z
      · rw [if_neg h] at z
        by_cases h2 : i = p
        · rw [if_pos h2] at z; exact he z.symm
        · rw [if_neg h2] at z; exact e1 _ (by omega) z
end OTH
theorem OC_upd {w w' : Wd} {a a' : Nat → Nat} {o l : Nat} (O : OC w o a) (I : IO a) (S : SC a a' l) (hl : l < 6) (F : Fr (o + 1) (o + 4) w w') (h1 : w'.1 (o + 3) l = nI (a' (480 + l))) (h1' : ∀ m, m < 6 → m ≠ l → w'.1 (o + 3) m = w.1 (o + 3) m) (h2 : ∀ q, q < a' (480 + l) → w'.1 (o + 2) (l * 40 + q) = nI (a' (40 * l + q))) (h2' : ∀ m q, m < 6 → m ≠ l → q < 40 → w'.1 (o + 2) (m * 40 + q) = w.1 (o + 2) (m * 40 + q)) (h3 : ∀ d, d < 60 → w'.1 (o + 1) (l * 60 + d) = nI (scr a' l d)) (h3' : ∀ m d, m < 6 → m ≠ l → d < 60 → w'.1 (o + 1) (m * 60 + d) = w.1 (o + 1) (m * 60 + d)) : OC w' o a' := by
  refine ⟨fun m hm => ?_, fun m p hm hp => ?_, fun m d hm hd => ?_, fun m hm => ?_, fun m hm => ?_, ?_, ?_⟩
  · by_cases h : m = l
    · subst h; exact h1
    · rw [h1' m hm h, O.1 m hm, SC_size S hl hm h]
  · by_cases h : m = l
    · subst h; exact h2 p hp
    · have hz := (I.1 m hm).1
      rw [SC_size S hl hm h] at hp
      rw [h2' m p hm h (by omega), O.2.1 m p hm hp, SC_doc S hl hm h (by omega)]
  · by_cases h : m = l
    · subst h; exact h3 d hd
    · rw [h3' m d hm h hd, O.2.2.1 m d hm hd, SC_scr S I hl hm h]
  · rw [F.1 _ (by omega), O.2.2.2.1 m hm, SC_far S hl (by omega) (by omega)]
  · rw [F.1 _ (by omega), O.2.2.2.2.1 m hm, SC_far S hl (by omega) (by omega)]
  · rw [F.2.1 _ (by omega), O.2.2.2.2.2.1]
    congr 1
    unfold gs
    exact sm_cong (fun d hd => by rw [SC_far S hl (by omega) (by omega)])
  · rw [F.1 _ (by omega), O.2.2.2.2.2.2, SC_far S hl (by omega) (by omega)]
