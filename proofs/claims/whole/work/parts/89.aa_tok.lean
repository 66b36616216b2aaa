/-! the text: tokens, pure -/
/-- how far a run of such bytes goes from p -/
def ysp (q : Nat → Bool) (B : Nat → Nat) (n : Nat) : Nat → Nat → Nat
  | 0, p => p
  | d + 1, p => if p < n then (if q (B p) = true then ysp q B n d (p + 1) else p) else p
def yblk (c : Nat) : Bool := c == 32 || c == 10
def yltr (c : Nat) : Bool := Nat.ble 97 c && Nat.ble c 122
def ydig (c : Nat) : Bool := Nat.ble 48 c && Nat.ble c 57
def ysgn (c : Nat) : Bool := [59, 40, 41, 60, 62, 61, 43, 45, 42, 47, 37].contains c
theorem ysp_ge {q : Nat → Bool} {B : Nat → Nat} {n : Nat} : ∀ d p, p ≤ ysp q B n d p := by
  intro d
  induction d with
  | zero => intro p; exact Nat.le_refl _
  | succ d ih =>
    intro p
    unfold ysp
    split
    · split
      · exact Nat.le_trans (Nat.le_succ p) (ih (p + 1))
      · exact Nat.le_refl _
    · exact Nat.le_refl _
theorem ysp_le {q : Nat → Bool} {B : Nat → Nat} {n : Nat} : ∀ d p, p ≤ n → ysp q B n d p ≤ n := by
  intro d
  induction d with
  | zero => intro p h; exact h
  | succ d ih =>
    intro p h
    unfold ysp
    split
    · split
      · exact ih (p + 1) (by omega)
      · exact h
    · exact h
/-- where a run ends -/
theorem ysp_end {q : Nat → Bool} {B : Nat → Nat} {n : Nat} : ∀ d p, n - p ≤ d → ysp q B n d p < n → q (B (ysp q B n d p)) = false := by
  intro d
  induction d with
  | zero => intro p h h2; exfalso; unfold ysp at h2; omega
  | succ d ih =>
    intro p h
    unfold ysp
    by_cases h1 : p < n
    · rw [if_pos h1]
      cases hq : q (B p) with
      | true => rw [if_pos rfl]; exact ih (p + 1) (by omega)
      | false => rw [if_neg (by decide)]; exact fun _ => hq
    · rw [if_neg h1]; exact fun h2 => absurd h2 h1
theorem ysp_in {q : Nat → Bool} {B : Nat → Nat} {n : Nat} : ∀ d p k, p ≤ k → k < ysp q B n d p → q (B k) = true ∧ k < n := by
  intro d
  induction d with
  | zero => intro p k h h2; exfalso; unfold ysp at h2; omega
  | succ d ih =>
    intro p k h
    unfold ysp
    split
    · split
      · intro h2
        by_cases hk : k = p
        · subst hk; exact ⟨by assumption, by assumption⟩
        · exact ih (p + 1) k (by omega) h2
      · intro h2; omega
    · intro h2; omega
/-- it is the only place where such a run can end -/
theorem ysp_eq {q : Nat → Bool} {B : Nat → Nat} {n e : Nat} : ∀ d p, p ≤ e → e ≤ n → e - p ≤ d → (∀ k, p ≤ k → k < e → q (B k) = true) → (e < n → q (B e) = false) → ysp q B n d p = e := by
  intro d
  induction d with
  | zero => intro p h1 h2 h3 h4 h5; unfold ysp; omega
  | succ d ih =>
    intro p h1 h2 h3 h4 h5
    unfold ysp
    by_cases hpe : p = e
    · subst hpe
      by_cases hn : p < n
      · rw [if_pos hn, if_neg (by rw [h5 hn]; decide)]
      · rw [if_neg hn]
    · rw [if_pos (by omega), if_pos (h4 p (Nat.le_refl _) (by omega))]
      exact ih (p + 1) (by omega) h2 (by omega) (fun k hk hk2 => h4 k (by omega) hk2) h5
theorem ymulmod {a b c : Nat} (h : c < b) : (a * b + c) % b = c := by rw [Nat.mul_comm, Nat.mul_add_mod, Nat.mod_eq_of_lt h]
/-- the letters of a word -/
def ywd (B : Nat → Nat) (p e : Nat) : List Nat := (List.range (e - p)).map (fun k => B (p + k))
/-- a word or a numeral as a number -/
def ybs (b : Nat) (l : List Nat) : Nat := l.foldl (fun a c => a * b + c) 0
theorem ybs_snoc (b : Nat) (l : List Nat) (c : Nat) : ybs b (l ++ [c]) = ybs b l * b + c := by
  unfold ybs
  rw [List.foldl_append]
  rfl
theorem ybs_inj {b : Nat} : ∀ (n : Nat) (l l' : List Nat), l.length = n → (∀ c ∈ l, 0 < c ∧ c < b) → (∀ c ∈ l', 0 < c ∧ c < b) → ybs b l = ybs b l' → l = l' := by
  intro n
  induction n with
  | zero =>
    intro l l' hl h h' e
    have : l = [] := List.eq_nil_of_length_eq_zero hl
    subst this
    rcases List.eq_nil_or_concat l' with rfl | ⟨m, c, rfl⟩
    · rfl
    · exfalso
      rw [List.concat_eq_append, ybs_snoc] at e
      have hc := (h' c (by simp)).1
      have : ybs b [] = 0 := rfl
      omega
  | succ n ih =>
    intro l l' hl h h' e
    rcases List.eq_nil_or_concat l with rfl | ⟨m, c, rfl⟩
    · simp at hl
    · rcases List.eq_nil_or_concat l' with rfl | ⟨m', c', rfl⟩
      · exfalso
        rw [List.concat_eq_append, ybs_snoc] at e
        have hc := (h c (by simp)).1
        have : ybs b [] = 0 := rfl
        omega
      · rw [List.concat_eq_append] at hl h e ⊢
        rw [List.concat_eq_append] at h' e ⊢
        rw [ybs_snoc, ybs_snoc] at e
        have hc := (h c (by simp)).2
        have hc' := (h' c' (by simp)).2
        have e1 : (ybs b m * b + c) % b = (ybs b m' * b + c') % b := by rw [e]
        rw [ymulmod hc, ymulmod hc'] at e1
        subst e1
        have e2 : ybs b m * b = ybs b m' * b := by omega
        have hb : 0 < b := by omega
        have e3 := Nat.eq_of_mul_eq_mul_right hb e2
        rw [ih m m' (by simpa using hl) (fun x hx => h x (by simp [hx])) (fun x hx => h' x (by simp [hx])) e3]
/-- the words that stand for themselves; the kind of the first is 4 -/
def yWL : List (List Nat) := [[116, 111, 112, 105, 99], [98, 111, 111, 107], [114, 101, 97, 100, 101, 114], [108, 97, 119], [98, 101, 110, 100], [113, 117, 97, 114, 114, 101, 108], [115, 104, 101, 108, 102], [109, 111, 111, 100], [111, 100, 100, 115], [119, 97, 110, 116, 115], [115, 117, 109], [108, 101, 97, 115, 116], [109, 111, 115, 116], [116, 117, 114, 110, 115], [111, 114], [97, 110, 100], [110, 111, 116], [119, 97, 110, 116], [111, 117, 103, 104, 116], [111, 108, 100], [119, 101, 105, 103, 104, 116], [114, 101, 97, 100, 115], [110, 117, 109, 98, 101, 114]]
def yfw (w : List Nat) : List (List Nat) → Nat → Nat
  | [], _ => 3
  | a :: r, k => if w = a then k else yfw w r (k + 1)
def ywk (w : List Nat) : Nat := yfw w yWL 4
/-- a token: its kind, its place, its number, its letters, where it ends -/
abbrev yTk : Type := Nat × Nat × Nat × List Nat × Nat
/-- the token that begins at a -/
def ytkA (B : Nat → Nat) (n a : Nat) : yTk :=
  if a < n then
    (if yltr (B a) = true then ⟨if 8 < ysp yltr B n n a - a then 1 else ywk (ywd B a (ysp yltr B n n a)), a, 0, ywd B a (ysp yltr B n n a), ysp yltr B n n a⟩
     else if ydig (B a) = true then ⟨if 4 < ysp ydig B n n a - a ∨ (ysp ydig B n n a < n ∧ yltr (B (ysp ydig B n n a)) = true) then 1 else 2, a, ybs 10 ((ywd B a (ysp ydig B n n a)).map (fun c => c - 48)), [], ysp ydig B n n a⟩
     else ⟨if ysgn (B a) = true then B a else 1, a, 0, [], a + 1⟩)
  else ⟨0, n, 0, [], n⟩
/-- the token at p or behind the blanks there -/
def ytok (B : Nat → Nat) (n p : Nat) : yTk := ytkA B n (ysp yblk B n n p)
