/-! formulas: how long the marks are, and that they can be worked off -/
def yWf (T : Nat → yTk) (n : Nat) (X : yFo) (w : Nat) : Prop := ∀ p un r, p ≤ n → X p un = .ok r → un < r.2.2 ∧ r.2.2 ≤ 30 ∧ r.1.length + 1 ≤ (w + 2) * (r.2.2 - un) ∧ r.2.1 ≤ n ∧ ∀ rest d, d + (r.2.2 - un) ≤ 30 → zval rest (d + 1) → zval (r.1 ++ rest) d
section ZWf
variable {T : Nat → yTk} {n : Nat}
theorem zval_num {v : Int32} {rest : List Int32} {d : Nat} (hv : ¬ v ≤ -7) (hd : d < 30) (h : zval rest (d + 1)) : zval (v :: rest) d := Or.inr (Or.inr ⟨hv, hd, h⟩)
theorem zval_op {v : Int32} {rest : List Int32} {d : Nat} (h7 : v ≤ -7) (h13 : ¬ v = -13) (hd : 1 ≤ d) (h : zval rest d) : zval (v :: rest) (d + 1) := Or.inr (Or.inl ⟨h7, h13, by omega, h⟩)
theorem zval_not {rest : List Int32} {d : Nat} (hd : 1 ≤ d) (h : zval rest d) : zval ((-13) :: rest) d := Or.inl ⟨by decide, rfl, hd, h⟩
theorem ymk_ok : ∀ k, k ≤ 62 → (yopP k = true ∨ yopS k = true ∨ yopR k = true) → -nI k ≤ -7 ∧ ¬ -nI k = -13 := by decide +kernel
theorem yask_ok : ∀ k, k ≤ 26 → 21 ≤ k → ¬ ((-1 : Int32) - nI (k - 21) ≤ -7) := by decide +kernel
theorem ynum_ok {k : Nat} (h : k < 10000) : ¬ nI k ≤ -7 := by
  have h1 : (nI k).toInt = k := nI_toInt (by omega)
  rw [Int32.le_iff_toInt_le, h1]
  have : (-7 : Int32).toInt = -7 := by decide
  omega
theorem ywf_U (hn : ∀ p, p ≤ n → (T p).2.2.2.2 ≤ n ∧ yTo (T p)) {re : Option yFo} {w : Nat} (hre : ∀ e, re = some e → ∃ w', w = w' + 1 ∧ yWf T n e w') : yWf T n (yfU T re) w := by
  intro p un r hp h
  unfold yfU at h
  by_cases h30 : un < 30
  · rw [if_pos h30] at h
    by_cases h40 : (T p).1 = 40
    · rw [if_pos h40] at h
      cases re with
      | none => cases h
      | some e =>
        obtain ⟨w', rfl, he⟩ := hre e rfl
        simp only at h
        cases hx : e (T p).2.2.2.2 (un + 1) with
        | error cp_ => obtain ⟨c, pl⟩ := cp_; rw [hx] at h; cases h
        | ok r1 =>
          rw [hx] at h
          simp only at h
          split at h
          · cases h
            obtain ⟨a1, a2, a3, a4, a5⟩ := he _ _ _ (hn p hp).1 hx
            refine ⟨by simp only; omega, a2, ?_, (hn _ a4).1, fun rest d h1 h2 => a5 rest d (by simp only at h1; omega) h2⟩
            simp only
            have h1 : (w' + 2) * (r1.2.2 - (un + 1)) ≤ (w' + 1 + 2) * (r1.2.2 - un) := Nat.mul_le_mul (by omega) (by omega)
            omega
          · cases h
    · rw [if_neg h40] at h
      by_cases h2 : (T p).1 = 2
      · rw [if_pos h2] at h
        cases h
        refine ⟨Nat.lt_succ_self _, h30, ?_, (hn p hp).1, fun rest d h1 h3 => zval_num (ynum_ok ((hn p hp).2.2.1 h2)) (by simp only at h1; omega) h3⟩
        simp only [List.length_singleton]
        rw [show un + 1 - un = 1 by omega]
        omega
      · rw [if_neg h2] at h
        by_cases h3 : 21 ≤ (T p).1 ∧ (T p).1 ≤ 26
        · rw [if_pos h3] at h
          cases h
          refine ⟨Nat.lt_succ_self _, h30, ?_, (hn p hp).1, fun rest d h1 h4 => zval_num (yask_ok _ h3.2 h3.1) (by simp only at h1; omega) h4⟩
          simp only [List.length_singleton]
          rw [show un + 1 - un = 1 by omega]
          omega
        · rw [if_neg h3] at h
          cases h
  · rw [if_neg h30] at h
    cases h
theorem ywf_L {item : yFo} {op : Nat → Bool} {mk : Nat → Int32} {w : Nat} (hn : ∀ p, p ≤ n → (T p).2.2.2.2 ≤ n ∧ yTo (T p)) (hi : yWf T n item w) (hmk : ∀ k, k ≤ 62 → op k = true → mk k ≤ -7 ∧ ¬ mk k = -13) : ∀ (d p un : Nat) (r : yFr), p ≤ n → un ≤ 30 → yfL T item op mk d p un = .ok r → un ≤ r.2.2 ∧ r.2.2 ≤ 30 ∧ r.1.length ≤ (w + 2) * (r.2.2 - un) ∧ r.2.1 ≤ n ∧ ∀ rest d, 1 ≤ d → d + (r.2.2 - un) ≤ 30 → zval rest d → zval (r.1 ++ rest) d := by
  intro d
  induction d with
  | zero =>
    intro p un r hp hu h
    cases h
    exact ⟨Nat.le_refl _, hu, Nat.zero_le _, hp, fun rest d _ _ h => h⟩
  | succ d ih =>
    intro p un r hp hu h
    unfold yfL at h
    cases hop : op (T p).1 with
    | false =>
      rw [hop] at h
      cases h
      exact ⟨Nat.le_refl _, hu, Nat.zero_le _, hp, fun rest d _ _ h => h⟩
    | true =>
      rw [hop] at h
      simp only [if_true] at h
      cases hx : item (T p).2.2.2.2 un with
      | error cp_ => obtain ⟨c, pl⟩ := cp_; rw [hx] at h; cases h
      | ok r1 =>
        rw [hx] at h
        simp only at h
        cases hy : yfL T item op mk d r1.2.1 r1.2.2 with
        | error cp_ => obtain ⟨c, pl⟩ := cp_; rw [hy] at h; cases h
        | ok r2 =>
          rw [hy] at h
          cases h
          obtain ⟨a1, a2, a3, a4, a5⟩ := hi _ _ _ (hn p hp).1 hx
          obtain ⟨b1, b2, b3, b4, b5⟩ := ih _ _ _ a4 a2 hy
          obtain ⟨m1, m2⟩ := hmk _ (hn p hp).2.1 hop
          refine ⟨by simp only; omega, b2, ?_, b4, fun rest d h1 h2 h3 => ?_⟩
          · simp only [List.length_append, List.length_cons]
            have e : r2.2.2 - un = (r1.2.2 - un) + (r2.2.2 - r1.2.2) := by omega
            rw [e, Nat.mul_add]
            omega
          · simp only at h2 ⊢
            rw [List.append_assoc]
            refine a5 _ d (by omega) ?_
            exact zval_op m1 m2 h1 (b5 rest d h1 (by omega) h3)
theorem ywf_C {item : yFo} {op : Nat → Bool} {mk : Nat → Int32} {w : Nat} (hn : ∀ p, p ≤ n → (T p).2.2.2.2 ≤ n ∧ yTo (T p)) (hi : yWf T n item w) (hmk : ∀ k, k ≤ 62 → op k = true → mk k ≤ -7 ∧ ¬ mk k = -13) : yWf T n (yfC T item op mk) w := by
  intro p un r hp h
  unfold yfC at h
  cases hx : item p un with
  | error cp_ => obtain ⟨c, pl⟩ := cp_; rw [hx] at h; cases h
  | ok r1 =>
    rw [hx] at h
    simp only at h
    cases hy : yfL T item op mk 30 r1.2.1 r1.2.2 with
    | error cp_ => obtain ⟨c, pl⟩ := cp_; rw [hy] at h; cases h
    | ok r2 =>
      rw [hy] at h
      cases h
      obtain ⟨a1, a2, a3, a4, a5⟩ := hi _ _ _ hp hx
      obtain ⟨b1, b2, b3, b4, b5⟩ := ywf_L hn hi hmk _ _ _ _ a4 a2 hy
      refine ⟨by simp only; omega, b2, ?_, b4, fun rest d h1 h2 => ?_⟩
      · simp only [List.length_append]
        have e : r2.2.2 - un = (r1.2.2 - un) + (r2.2.2 - r1.2.2) := by omega
        rw [e, Nat.mul_add]
        omega
      · simp only at h1 ⊢
        rw [List.append_assoc]
        exact a5 _ d (by omega) (b5 rest (d + 1) (by omega) (by omega) h2)
theorem ywf_P (hn : ∀ p, p ≤ n → (T p).2.2.2.2 ≤ n ∧ yTo (T p)) {re : Option yFo} {w : Nat} (hre : ∀ e, re = some e → ∃ w', w = w' + 1 ∧ yWf T n e w') : yWf T n (yfP T re) w := ywf_C hn (ywf_U hn hre) (fun k h1 h2 => ymk_ok k h1 (Or.inl h2))
theorem ywf_S (hn : ∀ p, p ≤ n → (T p).2.2.2.2 ≤ n ∧ yTo (T p)) {re : Option yFo} {w : Nat} (hre : ∀ e, re = some e → ∃ w', w = w' + 1 ∧ yWf T n e w') : yWf T n (yfS T re) w := ywf_C hn (ywf_P hn hre) (fun k h1 h2 => ymk_ok k h1 (Or.inr (Or.inl h2)))
theorem ywf_1 (hn : ∀ p, p ≤ n → (T p).2.2.2.2 ≤ n ∧ yTo (T p)) {re rs : Option yFo} {w : Nat} (hre : ∀ e, re = some e → ∃ w', w = w' + 1 ∧ yWf T n e w') (hrs : ∀ e, rs = some e → ∃ w', w = w' + 1 ∧ yWf T n e w') : yWf T n (yf1 T re rs) w := by
  intro p un r hp h
  unfold yf1 at h
  by_cases h20 : (T p).1 = 20
  · rw [if_pos h20] at h
    cases rs with
    | none => cases h
    | some e =>
      obtain ⟨w', rfl, he⟩ := hrs e rfl
      simp only at h
      cases hx : e (T p).2.2.2.2 un with
      | error cp_ => obtain ⟨c, pl⟩ := cp_; rw [hx] at h; cases h
      | ok r1 =>
        rw [hx] at h
        cases h
        obtain ⟨a1, a2, a3, a4, a5⟩ := he _ _ _ (hn p hp).1 hx
        refine ⟨a1, a2, ?_, a4, fun rest d h1 h2 => ?_⟩
        · simp only [List.length_append, List.length_singleton]
          have e : (w' + 1 + 2) * (r1.2.2 - un) = (w' + 2) * (r1.2.2 - un) + (r1.2.2 - un) := by rw [show w' + 1 + 2 = (w' + 2) + 1 by omega, Nat.add_mul, Nat.one_mul]
          rw [e]
          omega
        · simp only at h1 ⊢
          rw [List.append_assoc]
          exact a5 _ d h1 (zval_not (by omega) h2)
  · rw [if_neg h20] at h
    cases hx : yfS T re p un with
    | error cp_ => obtain ⟨c, pl⟩ := cp_; rw [hx] at h; cases h
    | ok r1 =>
      rw [hx] at h
      simp only at h
      obtain ⟨a1, a2, a3, a4, a5⟩ := ywf_S hn hre _ _ _ hp hx
      cases hr : yopR (T r1.2.1).1 with
      | false =>
        rw [hr] at h
        cases h
        exact ⟨a1, a2, a3, a4, a5⟩
      | true =>
        rw [hr] at h
        simp only [if_true] at h
        cases hy : yfS T re (T r1.2.1).2.2.2.2 r1.2.2 with
        | error cp_ => obtain ⟨c, pl⟩ := cp_; rw [hy] at h; cases h
        | ok r2 =>
          rw [hy] at h
          cases h
          obtain ⟨b1, b2, b3, b4, b5⟩ := ywf_S hn hre _ _ _ (hn _ a4).1 hy
          obtain ⟨m1, m2⟩ := ymk_ok _ (hn _ a4).2.1 (Or.inr (Or.inr hr))
          refine ⟨by simp only; omega, b2, ?_, b4, fun rest d h1 h2 => ?_⟩
          · simp only [List.length_append, List.length_singleton]
            have e : r2.2.2 - un = (r1.2.2 - un) + (r2.2.2 - r1.2.2) := by omega
            rw [e, Nat.mul_add]
            omega
          · simp only at h1 ⊢
            rw [List.append_assoc, List.append_assoc]
            exact a5 _ d (by omega) (b5 _ (d + 1) (by omega) (zval_op m1 m2 (by omega) h2))
theorem ywf_B (hn : ∀ p, p ≤ n → (T p).2.2.2.2 ≤ n ∧ yTo (T p)) {re rs : Option yFo} {w : Nat} (h1 : yWf T n (yf1 T re rs) w) : yWf T n (yfB T re rs) w := ywf_C hn h1 (fun k _ _ => by decide)
theorem ywf_E (hn : ∀ p, p ≤ n → (T p).2.2.2.2 ≤ n ∧ yTo (T p)) {re rs : Option yFo} {w : Nat} (h1 : yWf T n (yf1 T re rs) w) : yWf T n (yfE T re rs) w := ywf_C hn (ywf_B hn h1) (fun k _ _ => by decide)
theorem ywf_lv (hn : ∀ p, p ≤ n → (T p).2.2.2.2 ≤ n ∧ yTo (T p)) : ∀ w, yWf T n (ylv T w).1 w ∧ yWf T n (ylv T w).2 w := by
  intro w
  induction w with
  | zero =>
    have h1 : yWf T n (yf1 T none none) 0 := ywf_1 hn (fun e h => by cases h) (fun e h => by cases h)
    exact ⟨ywf_E hn h1, h1⟩
  | succ w ih =>
    have h1 : yWf T n (yf1 T (some (ylv T w).1) (some (ylv T w).2)) (w + 1) := ywf_1 hn (fun e h => by cases h; exact ⟨w, rfl, ih.1⟩) (fun e h => by cases h; exact ⟨w, rfl, ih.2⟩)
    exact ⟨ywf_E hn h1, h1⟩
end ZWf
