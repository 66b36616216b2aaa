/-! the reference's signs that wait: what holds of them, pure -/
def ysg : List Nat := [38, 124, 60, 62, 61, 43, 45, 42, 47, 37]
theorem ysc_in {k : Nat} (h : ¬ ysc k = 0) : ysc k ∈ ysg := by
  unfold ysc at h ⊢
  by_cases h1 : k = 19
  · rw [if_pos h1]; decide
  · rw [if_neg h1] at h ⊢
    by_cases h2 : k = 18
    · rw [if_pos h2]; decide
    · rw [if_neg h2] at h ⊢
      by_cases h3 : k = 60 ∨ k = 62 ∨ k = 61 ∨ k = 43 ∨ k = 45 ∨ k = 42 ∨ k = 47 ∨ k = 37
      · rw [if_pos h3]
        rcases h3 with rfl | rfl | rfl | rfl | rfl | rfl | rfl | rfl <;> decide
      · rw [if_neg h3] at h
        exact absurd rfl h
theorem ysg_b : ∀ s ∈ ysg, s < 128 ∧ s ≠ 20 ∧ s ≠ 21 ∧ zenc 3 (nI s) (ymkc s) := by
  intro s hs
  refine ⟨?_, ?_, ?_, Or.inr (Or.inr (Or.inr ⟨rfl, ?_⟩))⟩
  · revert s; decide
  · revert s; decide
  · revert s; decide
  · revert s; decide
def yW1 (s : Nat) : Prop := s = 20 ∨ s = 21 ∨ s ∈ ysg
theorem yW1_lt {s : Nat} (h : yW1 s) : s < 128 := by
  rcases h with rfl | rfl | h
  · decide
  · decide
  · exact (ysg_b s h).1
/-- what the machine keeps to -/
def yMi (s : yMc) : Prop := (∀ q ∈ s.2.2.1, yW1 q) ∧ ydp s.2.2.1 ≤ 7 ∧ s.2.2.2.2 ≤ 30 ∧ (s.1 = true → s.2.2.1.length ≤ s.2.2.2.2 + ydp s.2.2.1 ∧ s.2.2.2.1.length + s.2.2.1.length ≤ 9 * s.2.2.2.2 + ydp s.2.2.1) ∧ (s.1 = false → s.2.2.1.length + 1 ≤ s.2.2.2.2 + ydp s.2.2.1 ∧ s.2.2.2.1.length + s.2.2.1.length + 1 ≤ 9 * s.2.2.2.2)
theorem yMi_b {s : yMc} (h : yMi s) : s.2.2.1.length ≤ 37 ∧ s.2.2.2.1.length ≤ 277 := by
  obtain ⟨h1, h2, h3, h4, h5⟩ := h
  cases hb : s.1 with
  | true => have := h4 hb; omega
  | false => have := h5 hb; omega
theorem ydp_le (S : List Nat) : ydp S ≤ S.length := by
  induction S with
  | nil => exact Nat.le_refl _
  | cons q S ih =>
    unfold ydp
    split <;> simp <;> omega
theorem ycl_len {l : Nat} : ∀ (S : List Nat) (M : List Int32), (ycl l S M).2.length + (ycl l S M).1.length = M.length + S.length ∧ (ycl l S M).1.length + ydp S ≤ S.length + ydp (ycl l S M).1 ∧ ydp (ycl l S M).1 ≤ ydp S ∧ (∀ q ∈ (ycl l S M).1, q ∈ S) := by
  intro S
  induction S with
  | nil => intro M; exact ⟨rfl, Nat.le_refl _, Nat.le_refl _, fun _ h => h⟩
  | cons q S ih =>
    intro M
    unfold ycl
    by_cases h : q = 20 ∨ ytgt q < l
    · rw [if_pos h]; exact ⟨rfl, Nat.le_refl _, Nat.le_refl _, fun _ h => h⟩
    · rw [if_neg h]
      have := ih (M ++ [ymkc q])
      have e : ydp (q :: S) = if q = 20 ∨ q = 21 then ydp S + 1 else ydp S := rfl
      rw [e]
      simp only [List.length_append, List.length_cons, List.length_nil] at this ⊢
      refine ⟨by omega, ?_, ?_, fun r hr => List.mem_cons_of_mem _ (this.2.2.2 r hr)⟩
      · split <;> omega
      · split <;> omega
/-- down to a bracket -/
theorem ycl_br {S : List Nat} : ∀ (M : List Int32), 20 ∈ S → ∃ R, (ycl 0 S M).1 = 20 :: R ∧ ydp R + 1 ≤ ydp S := by
  induction S with
  | nil => intro M h; cases h
  | cons q S ih =>
    intro M h
    unfold ycl
    by_cases hq : q = 20
    · rw [if_pos (Or.inl hq)]
      refine ⟨S, by rw [hq], ?_⟩
      rw [hq]
      exact Nat.le_refl _
    · rw [if_neg (by rintro (h1 | h1); exact hq h1; omega)]
      have h2 : 20 ∈ S := by
        rcases List.mem_cons.mp h with h1 | h1
        · exact absurd h1.symm hq
        · exact h1
      obtain ⟨R, e1, e2⟩ := ih (M ++ [ymkc q]) h2
      refine ⟨R, e1, ?_⟩
      have e : ydp (q :: S) = if q = 20 ∨ q = 21 then ydp S + 1 else ydp S := rfl
      rw [e]
      split <;> omega
theorem yMi_step {T : Nat → yTk} {s s' : yMc} (hi : yMi s) (h : ymst T s = .inl s') : yMi s' ∧ s'.2.1 = (T s.2.1).2.2.2.2 ∧ ¬ (T s.2.1).1 = 0 ∧ ¬ (T s.2.1).1 = 1 := by
  obtain ⟨i1, i2, i3, i4, i5⟩ := hi
  unfold ymst at h
  cases hb : s.1 with
  | true =>
    obtain ⟨j1, j2⟩ := i4 hb
    rw [hb] at h
    simp only [if_true] at h
    by_cases c1 : (T s.2.1).1 = 20 ∧ ymn s.2.2.1 = true
    · rw [if_pos c1] at h
      by_cases c2 : ydp s.2.2.1 ≤ 6
      · rw [if_pos c2] at h
        cases h
        have e : ydp (21 :: s.2.2.1) = ydp s.2.2.1 + 1 := rfl
        refine ⟨⟨?_, ?_, i3, fun _ => ?_, fun h => by cases h⟩, rfl, by omega, by omega⟩
        · intro q hq
          rcases List.mem_cons.mp hq with rfl | hq
          · exact Or.inr (Or.inl rfl)
          · exact i1 q hq
        · show ydp (21 :: s.2.2.1) ≤ 7
          omega
        · show (21 :: s.2.2.1).length ≤ s.2.2.2.2 + ydp (21 :: s.2.2.1) ∧ s.2.2.2.1.length + (21 :: s.2.2.1).length ≤ 9 * s.2.2.2.2 + ydp (21 :: s.2.2.1)
          rw [e, List.length_cons]
          omega
      · rw [if_neg c2] at h; cases h
    · rw [if_neg c1] at h
      by_cases c3 : (T s.2.1).1 = 40
      · rw [if_pos c3] at h
        by_cases c2 : s.2.2.2.2 < 30 ∧ ydp s.2.2.1 ≤ 6
        · rw [if_pos c2] at h
          cases h
          have e : ydp (20 :: s.2.2.1) = ydp s.2.2.1 + 1 := rfl
          refine ⟨⟨?_, ?_, ?_, fun _ => ?_, fun h => by cases h⟩, rfl, by omega, by omega⟩
          · intro q hq
            rcases List.mem_cons.mp hq with rfl | hq
            · exact Or.inl rfl
            · exact i1 q hq
          · show ydp (20 :: s.2.2.1) ≤ 7
            omega
          · show s.2.2.2.2 + 1 ≤ 30
            omega
          · show (20 :: s.2.2.1).length ≤ s.2.2.2.2 + 1 + ydp (20 :: s.2.2.1) ∧ s.2.2.2.1.length + (20 :: s.2.2.1).length ≤ 9 * (s.2.2.2.2 + 1) + ydp (20 :: s.2.2.1)
            rw [e, List.length_cons]
            omega
        · rw [if_neg c2] at h; cases h
      · rw [if_neg c3] at h
        by_cases c4 : (T s.2.1).1 = 2 ∧ s.2.2.2.2 < 30
        · rw [if_pos c4] at h
          cases h
          refine ⟨⟨i1, i2, ?_, (fun h => by cases h), fun _ => ?_⟩, rfl, by omega, by omega⟩
          · show s.2.2.2.2 + 1 ≤ 30
            omega
          · show s.2.2.1.length + 1 ≤ s.2.2.2.2 + 1 + ydp s.2.2.1 ∧ (s.2.2.2.1 ++ [_]).length + s.2.2.1.length + 1 ≤ 9 * (s.2.2.2.2 + 1)
            rw [List.length_append, List.length_singleton]
            omega
        · rw [if_neg c4] at h
          by_cases c5 : (21 ≤ (T s.2.1).1 ∧ (T s.2.1).1 ≤ 26) ∧ s.2.2.2.2 < 30
          · rw [if_pos c5] at h
            cases h
            refine ⟨⟨i1, i2, ?_, (fun h => by cases h), fun _ => ?_⟩, rfl, by omega, by omega⟩
            · show s.2.2.2.2 + 1 ≤ 30
              omega
            · show s.2.2.1.length + 1 ≤ s.2.2.2.2 + 1 + ydp s.2.2.1 ∧ (s.2.2.2.1 ++ [_]).length + s.2.2.1.length + 1 ≤ 9 * (s.2.2.2.2 + 1)
              rw [List.length_append, List.length_singleton]
              omega
          · rw [if_neg c5] at h; cases h
  | false =>
    obtain ⟨j1, j2⟩ := i5 hb
    rw [hb] at h
    simp only [Bool.false_eq_true, if_false] at h
    by_cases c1 : (T s.2.1).1 = 41 ∧ 20 ∈ s.2.2.1
    · rw [if_pos c1] at h
      cases h
      have L := ycl_len (l := 0) s.2.2.1 s.2.2.2.1
      obtain ⟨R, e1, e2⟩ := ycl_br s.2.2.2.1 c1.2
      refine ⟨⟨?_, ?_, i3, (fun h => by cases h), fun _ => ?_⟩, rfl, by omega, by omega⟩
      · intro q hq
        exact i1 q (L.2.2.2 q (List.mem_of_mem_tail hq))
      · show ydp (ycl 0 s.2.2.1 s.2.2.2.1).1.tail ≤ 7
        rw [e1, List.tail_cons]
        omega
      · show (ycl 0 s.2.2.1 s.2.2.2.1).1.tail.length + 1 ≤ s.2.2.2.2 + ydp (ycl 0 s.2.2.1 s.2.2.2.1).1.tail ∧ (ycl 0 s.2.2.1 s.2.2.2.1).2.length + (ycl 0 s.2.2.1 s.2.2.2.1).1.tail.length + 1 ≤ 9 * s.2.2.2.2
        rw [e1] at L ⊢
        have e : ydp (20 :: R) = ydp R + 1 := rfl
        rw [e, List.length_cons] at L
        rw [List.tail_cons]
        omega
    · rw [if_neg c1] at h
      by_cases c2 : ¬ ysc (T s.2.1).1 = 0 ∧ ¬ (ytgt (ysc (T s.2.1).1) = 4 ∧ yhr s.2.2.1 = true)
      · rw [if_pos c2] at h
        cases h
        have L := ycl_len (l := ytgt (ysc (T s.2.1).1)) s.2.2.1 s.2.2.2.1
        have hin := ysc_in c2.1
        have hb2 := ysg_b _ hin
        have e : ∀ R, ydp (ysc (T s.2.1).1 :: R) = ydp R := fun R => if_neg (by rintro (h | h); exact hb2.2.1 h; exact hb2.2.2.1 h)
        have nz : ∀ k, ysc k ≠ 0 → ¬ k = 0 ∧ ¬ k = 1 := fun k hk => by
          constructor
          · rintro rfl; exact hk rfl
          · rintro rfl; exact hk rfl
        refine ⟨⟨?_, ?_, i3, fun _ => ?_, fun h => by cases h⟩, rfl, (nz _ c2.1).1, (nz _ c2.1).2⟩
        · intro q hq
          rcases List.mem_cons.mp hq with rfl | hq
          · exact Or.inr (Or.inr hin)
          · exact i1 q (L.2.2.2 q hq)
        · show ydp (ysc (T s.2.1).1 :: (ycl (ytgt (ysc (T s.2.1).1)) s.2.2.1 s.2.2.2.1).1) ≤ 7
          rw [e]
          omega
        · show (ysc (T s.2.1).1 :: (ycl (ytgt (ysc (T s.2.1).1)) s.2.2.1 s.2.2.2.1).1).length ≤ s.2.2.2.2 + ydp (ysc (T s.2.1).1 :: (ycl (ytgt (ysc (T s.2.1).1)) s.2.2.1 s.2.2.2.1).1) ∧ (ycl (ytgt (ysc (T s.2.1).1)) s.2.2.1 s.2.2.2.1).2.length + (ysc (T s.2.1).1 :: (ycl (ytgt (ysc (T s.2.1).1)) s.2.2.1 s.2.2.2.1).1).length ≤ 9 * s.2.2.2.2 + ydp (ysc (T s.2.1).1 :: (ycl (ytgt (ysc (T s.2.1).1)) s.2.2.1 s.2.2.2.1).1)
          rw [e, List.length_cons]
          omega
      · rw [if_neg c2] at h
        by_cases c3 : 20 ∈ s.2.2.1
        · rw [if_pos c3] at h; cases h
        · rw [if_neg c3] at h; cases h
