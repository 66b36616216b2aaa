/-! hide: orders told apart, and counted -/
def zE (c : Nat → Nat) : Nat → List Nat
  | 0 => []
  | n + 1 => if (zE c n).any (fun r => c r == c n) then zE c n else zE c n ++ [n]
theorem zE_succ (c : Nat → Nat) (n : Nat) : zE c (n + 1) = if (zE c n).any (fun r => c r == c n) then zE c n else zE c n ++ [n] := rfl
def zcnt (c : Nat → Nat) (n v : Nat) : Nat := (List.range n).countP (fun r => c r == v)
theorem zcnt_succ (c : Nat → Nat) (n v : Nat) : zcnt c (n + 1) v = zcnt c n v + if c n = v then 1 else 0 := by
  unfold zcnt
  rw [List.range_succ, List.countP_append, List.countP_singleton]
  by_cases h : c n = v
  · simp [h]
  · simp [h]
theorem zcnt_le (c : Nat → Nat) (n v : Nat) : zcnt c n v ≤ n := by
  have := List.countP_le_length (p := fun r => c r == v) (l := List.range n)
  rw [List.length_range] at this
  exact this
theorem zcnt_pos {c : Nat → Nat} {n r : Nat} (h : r < n) : 0 < zcnt c n (c r) := by
  unfold zcnt
  rw [List.countP_pos_iff]
  exact ⟨r, List.mem_range.mpr h, by simp⟩
theorem zE_mem (c : Nat → Nat) : ∀ n r, r ∈ zE c n → r < n := by
  intro n
  induction n with
  | zero => intro r h; simp [zE] at h
  | succ n ih =>
    intro r h
    rw [zE_succ] at h
    split at h
    · have := ih r h; omega
    · rcases List.mem_append.mp h with h | h
      · have := ih r h; omega
      · have : r = n := by simpa using h
        omega
theorem zE_len (c : Nat → Nat) : ∀ n, (zE c n).length ≤ n := by
  intro n
  induction n with
  | zero => simp [zE]
  | succ n ih =>
    rw [zE_succ]
    split
    · omega
    · rw [List.length_append, List.length_singleton]; omega
theorem zE_all (c : Nat → Nat) : ∀ n r, r < n → ∃ r', r' ∈ zE c n ∧ c r' = c r := by
  intro n
  induction n with
  | zero => intro r h; omega
  | succ n ih =>
    intro r h
    by_cases hr : r = n
    · subst hr
      rw [zE_succ]
      by_cases ha : (zE c r).any (fun r' => c r' == c r) = true
      · rw [if_pos ha]
        obtain ⟨r', h1, h2⟩ := List.any_eq_true.mp ha
        exact ⟨r', h1, by simpa using h2⟩
      · rw [if_neg ha]
        exact ⟨r, by simp, rfl⟩
    · obtain ⟨r', h1, h2⟩ := ih r (by omega)
      rw [zE_succ]
      split
      · exact ⟨r', h1, h2⟩
      · exact ⟨r', List.mem_append.mpr (Or.inl h1), h2⟩
theorem zE_nd (c : Nat → Nat) : ∀ (n i j r r' : Nat), (zE c n)[i]? = some r → (zE c n)[j]? = some r' → c r = c r' → i = j := by
  intro n
  induction n with
  | zero => intro i j r r' h; simp [zE] at h
  | succ n ih =>
    intro i j r r' h1 h2 h3
    rw [zE_succ] at h1 h2
    split at h1
    · exact ih i j r r' (by assumption) (by rw [if_pos (by assumption)] at h2; exact h2) h3
    · rename_i ha
      rw [if_neg ha] at h2
      have ha' : ∀ r, r ∈ zE c n → c r ≠ c n := by
        intro r hr e
        exact ha (List.any_eq_true.mpr ⟨r, hr, by simpa using e⟩)
      have one : ∀ i r, (zE c n ++ [n])[i]? = some r → (zE c n)[i]? = some r ∨ (i = (zE c n).length ∧ r = n) := by
        intro i r h
        by_cases hi : i < (zE c n).length
        · rw [List.getElem?_append_left hi] at h
          exact Or.inl h
        · rw [List.getElem?_append_right (by omega)] at h
          by_cases h0 : i - (zE c n).length = 0
          · rw [h0] at h
            exact Or.inr ⟨by omega, by simpa using h.symm⟩
          · rw [List.getElem?_eq_none (by rw [List.length_singleton]; omega)] at h
            cases h
      rcases one i r h1 with g1 | ⟨g1, g1'⟩
      · rcases one j r' h2 with g2 | ⟨g2, g2'⟩
        · exact ih i j r r' g1 g2 h3
        · subst g2'
          exact absurd h3 (ha' r (List.mem_of_getElem? g1))
      · rcases one j r' h2 with g2 | ⟨g2, g2'⟩
        · subst g1'
          exact absurd h3.symm (ha' r' (List.mem_of_getElem? g2))
        · omega
/-- the one most had: (row, count) -/
def zhs (g : Nat → Bool) (C : Nat → Nat) (p : Nat × Nat) (r : Nat) : Nat × Nat := if g r = true ∧ p.2 < C r then (r, C r) else p
theorem zhs_max {g : Nat → Bool} {C : Nat → Nat} : ∀ (l : List Nat) (p : Nat × Nat), p.2 ≤ (l.foldl (zhs g C) p).2 ∧ ∀ r, r ∈ l → g r = true → C r ≤ (l.foldl (zhs g C) p).2 := by
  intro l
  induction l with
  | nil => intro p; exact ⟨Nat.le_refl _, fun r h => by simp at h⟩
  | cons a l ih =>
    intro p
    obtain ⟨h1, h2⟩ := ih (zhs g C p a)
    have h3 : p.2 ≤ (zhs g C p a).2 := by
      unfold zhs
      split
      · dsimp only; omega
      · omega
    have h4 : g a = true → C a ≤ (zhs g C p a).2 := by
      intro hg
      unfold zhs
      by_cases hc : p.2 < C a
      · rw [if_pos ⟨hg, hc⟩]; exact Nat.le_refl _
      · rw [if_neg (by intro h; exact hc h.2)]; omega
    refine ⟨by rw [List.foldl_cons]; omega, fun r hr hg => ?_⟩
    rw [List.foldl_cons]
    rcases List.mem_cons.mp hr with rfl | hr
    · have := h4 hg; omega
    · exact h2 r hr hg
/-- one may skip those had before -/
theorem zhs_E {c : Nat → Nat} {g : Nat → Bool} {C : Nat → Nat} (hg : ∀ r r', c r = c r' → g r = g r') (hC : ∀ r r', c r = c r' → C r = C r') : ∀ n, (List.range n).foldl (zhs g C) (0, 0) = (zE c n).foldl (zhs g C) (0, 0) := by
  intro n
  induction n with
  | zero => rfl
  | succ n ih =>
    rw [List.range_succ, List.foldl_append, ih]
    rw [zE_succ]
    by_cases ha : (zE c n).any (fun r' => c r' == c n) = true
    · rw [if_pos ha]
      obtain ⟨r', h1, h2⟩ := List.any_eq_true.mp ha
      have h2 : c r' = c n := by simpa using h2
      have h3 := (zhs_max (g := g) (C := C) (zE c n) (0, 0)).2 r' h1
      show zhs g C _ n = _
      generalize (zE c n).foldl (zhs g C) (0, 0) = p at h3
      unfold zhs
      rw [if_neg]
      rintro ⟨g1, g2⟩
      have := h3 (by rw [hg r' n h2]; exact g1)
      rw [hC r' n h2] at this
      omega
    · rw [if_neg ha, List.foldl_append]
/-- the class's orders: n rows counted -/
def zOe (I : Nat → Nat → Int32) (J : Nat → Nat → Int64) (c : Nat → Nat) (n : Nat) : Prop :=
  I 60 3 = nI (zE c n).length ∧ ∀ k r, (zE c n)[k]? = some r → J 61 k = nJ (c r) ∧ I 62 k = nI r ∧ I 63 k = nI (zcnt c n (c r))
