/-! formulas, pure: by levels, as the class reads them; by signs that wait, as the reference does -/
abbrev yRs (α : Type) : Type := Except (Nat × Nat) α
def yer {α : Type} (τ : yTk) : yRs α := .error ((if τ.1 = 1 then 1 else 2), τ.2.1)
abbrev yFr := List Int32 × Nat × Nat
abbrev yFo := Nat → Nat → yRs yFr
section ZForm
variable (T : Nat → yTk)
def yfU (re : Option yFo) : yFo := fun p un =>
  if un < 30 then
    (if (T p).1 = 40 then
      (match re with
       | none => yer (T p)
       | some e => match e (T p).2.2.2.2 (un + 1) with
         | .error (c, l) => .error (c, l)
         | .ok r => if (T r.2.1).1 = 41 then .ok (r.1, (T r.2.1).2.2.2.2, r.2.2) else yer (T r.2.1))
     else if (T p).1 = 2 then .ok ([nI (T p).2.2.1], (T p).2.2.2.2, un + 1)
     else if 21 ≤ (T p).1 ∧ (T p).1 ≤ 26 then .ok ([(-1) - nI ((T p).1 - 21)], (T p).2.2.2.2, un + 1)
     else yer (T p))
  else yer (T p)
def yfL (item : yFo) (op : Nat → Bool) (mk : Nat → Int32) : Nat → yFo
  | 0 => fun p un => .ok ([], p, un)
  | d + 1 => fun p un => if op (T p).1 = true then
      (match item (T p).2.2.2.2 un with
       | .error (c, l) => .error (c, l)
       | .ok r => match yfL item op mk d r.2.1 r.2.2 with
         | .error (c, l) => .error (c, l)
         | .ok r2 => .ok (r.1 ++ (mk (T p).1 :: r2.1), r2.2))
      else .ok ([], p, un)
def yfC (item : yFo) (op : Nat → Bool) (mk : Nat → Int32) : yFo := fun p un => match item p un with
  | .error (c, l) => .error (c, l)
  | .ok r => match yfL T item op mk 30 r.2.1 r.2.2 with
    | .error (c, l) => .error (c, l)
    | .ok r2 => .ok (r.1 ++ r2.1, r2.2)
def yopP (k : Nat) : Bool := k == 42 || k == 47 || k == 37
def yopS (k : Nat) : Bool := k == 43 || k == 45
def yopR (k : Nat) : Bool := k == 60 || k == 62 || k == 61
def yopA (k : Nat) : Bool := k == 19
def yopO (k : Nat) : Bool := k == 18
def yfP (re : Option yFo) : yFo := yfC T (yfU T re) yopP (fun k => -nI k)
def yfS (re : Option yFo) : yFo := yfC T (yfP T re) yopS (fun k => -nI k)
def yf1 (re rs : Option yFo) : yFo := fun p un =>
  if (T p).1 = 20 then
    (match rs with
     | none => yer (T p)
     | some s => match s (T p).2.2.2.2 un with
       | .error (c, l) => .error (c, l)
       | .ok r => .ok (r.1 ++ [-13], r.2))
  else match yfS T re p un with
    | .error (c, l) => .error (c, l)
    | .ok r => if yopR (T r.2.1).1 = true then
        (match yfS T re (T r.2.1).2.2.2.2 r.2.2 with
         | .error (c, l) => .error (c, l)
         | .ok r2 => .ok (r.1 ++ (r2.1 ++ [-nI (T r.2.1).1]), r2.2))
        else .ok r
def yfB (re rs : Option yFo) : yFo := yfC T (yf1 T re rs) yopA (fun _ => -12)
def yfE (re rs : Option yFo) : yFo := yfC T (yfB T re rs) yopO (fun _ => -11)
def ylv : Nat → yFo × yFo
  | 0 => (yfE T none none, yf1 T none none)
  | d + 1 => (yfE T (some (ylv d).1) (some (ylv d).2), yf1 T (some (ylv d).1) (some (ylv d).2))
/-- signs that wait: how tightly they bind, which mark they become -/
def ytgt (s : Nat) : Nat := if s = 21 then 3 else if s = 38 then 2 else if s = 43 then 5 else if s = 45 then 5 else if s = 60 then 4 else if s = 61 then 4 else if s = 62 then 4 else if s = 124 then 1 else 6
def ymkc (s : Nat) : Int32 := if s = 21 then -13 else if s = 38 then -12 else if s = 124 then -11 else -nI s
def ydp : List Nat → Nat
  | [] => 0
  | s :: S => if s = 20 ∨ s = 21 then ydp S + 1 else ydp S
def ycl (least : Nat) : List Nat → List Int32 → List Nat × List Int32
  | [], M => ([], M)
  | s :: S, M => if s = 20 ∨ ytgt s < least then (s :: S, M) else ycl least S (M ++ [ymkc s])
def ymn : List Nat → Bool
  | [] => true
  | s :: _ => s == 20 || decide (ytgt s < 4)
def yhr : List Nat → Bool
  | [] => false
  | s :: S => if s = 20 then false else if ytgt s ≤ 4 then decide (ytgt s = 4) else yhr S
def ysc (k : Nat) : Nat := if k = 19 then 38 else if k = 18 then 124 else if k = 60 ∨ k = 62 ∨ k = 61 ∨ k = 43 ∨ k = 45 ∨ k = 42 ∨ k = 47 ∨ k = 37 then k else 0
/-- whether a unit is due, the place, the signs that wait, the marks, the units -/
abbrev yMc : Type := Bool × Nat × List Nat × List Int32 × Nat
abbrev ySp : Type := yMc ⊕ yRs yFr
def yerS (τ : yTk) : ySp := .inr (yer τ)
def ymst (s : yMc) : ySp :=
  if s.1 = true then
    (if (T s.2.1).1 = 20 ∧ ymn s.2.2.1 = true then (if ydp s.2.2.1 ≤ 6 then .inl ⟨true, (T s.2.1).2.2.2.2, 21 :: s.2.2.1, s.2.2.2.1, s.2.2.2.2⟩ else yerS (T s.2.1))
     else if (T s.2.1).1 = 40 then (if s.2.2.2.2 < 30 ∧ ydp s.2.2.1 ≤ 6 then .inl ⟨true, (T s.2.1).2.2.2.2, 20 :: s.2.2.1, s.2.2.2.1, s.2.2.2.2 + 1⟩ else yerS (T s.2.1))
     else if (T s.2.1).1 = 2 ∧ s.2.2.2.2 < 30 then .inl ⟨false, (T s.2.1).2.2.2.2, s.2.2.1, s.2.2.2.1 ++ [nI (T s.2.1).2.2.1], s.2.2.2.2 + 1⟩
     else if (21 ≤ (T s.2.1).1 ∧ (T s.2.1).1 ≤ 26) ∧ s.2.2.2.2 < 30 then .inl ⟨false, (T s.2.1).2.2.2.2, s.2.2.1, s.2.2.2.1 ++ [(-1) - nI ((T s.2.1).1 - 21)], s.2.2.2.2 + 1⟩
     else yerS (T s.2.1))
  else
    (if (T s.2.1).1 = 41 ∧ 20 ∈ s.2.2.1 then .inl ⟨false, (T s.2.1).2.2.2.2, (ycl 0 s.2.2.1 s.2.2.2.1).1.tail, (ycl 0 s.2.2.1 s.2.2.2.1).2, s.2.2.2.2⟩
     else if ¬ ysc (T s.2.1).1 = 0 ∧ ¬ (ytgt (ysc (T s.2.1).1) = 4 ∧ yhr s.2.2.1 = true) then .inl ⟨true, (T s.2.1).2.2.2.2, ysc (T s.2.1).1 :: (ycl (ytgt (ysc (T s.2.1).1)) s.2.2.1 s.2.2.2.1).1, (ycl (ytgt (ysc (T s.2.1).1)) s.2.2.1 s.2.2.2.1).2, s.2.2.2.2⟩
     else if 20 ∈ s.2.2.1 then yerS (T s.2.1) else .inr (.ok ((ycl 0 s.2.2.1 s.2.2.2.1).2, s.2.1, s.2.2.2.2)))
def yRunN : Nat → yMc → yRs yFr → Prop
  | 0, _, _ => False
  | d + 1, s, r => match ymst T s with
    | .inl s' => yRunN d s' r
    | .inr x => r = x
def yRun (s : yMc) (r : yRs yFr) : Prop := ∃ d, yRunN T d s r
theorem yRunN_l {T : Nat → yTk} {d : Nat} {s s' : yMc} {r : yRs yFr} (h : ymst T s = .inl s') : yRunN T (d + 1) s r = yRunN T d s' r := by
  rw [yRunN, h]
theorem yRunN_r {T : Nat → yTk} {d : Nat} {s : yMc} {r x : yRs yFr} (h : ymst T s = .inr x) : yRunN T (d + 1) s r = (r = x) := by
  rw [yRunN, h]
theorem yRun.er {T : Nat → yTk} {s : yMc} {x : yRs yFr} (h : ymst T s = .inr x) : yRun T s x := ⟨1, by rw [yRunN_r h]⟩
theorem yRun.go {T : Nat → yTk} {s s' : yMc} {r : yRs yFr} (h : ymst T s = .inl s') (h2 : yRun T s' r) : yRun T s r := by
  obtain ⟨d, hd⟩ := h2
  exact ⟨d + 1, by rw [yRunN_l h]; exact hd⟩
/-- from s on as from s' on -/
def yRch (s s' : yMc) : Prop := ∀ r, yRun T s' r → yRun T s r
variable {T}
theorem yRch_refl (s : yMc) : yRch T s s := fun _ h => h
theorem yRch_trans {a b c : yMc} (h : yRch T a b) (h2 : yRch T b c) : yRch T a c := fun r hr => h r (h2 r hr)
theorem yRch_step {a b : yMc} (h : ymst T a = .inl b) : yRch T a b := fun _ hr => .go h hr
/-- what stands on the stack binds less tightly than l -/
def ypre (l : Nat) : List Nat → Prop
  | [] => True
  | s :: _ => s = 20 ∨ ytgt s < l
theorem ypre_mono {l l' : Nat} (h : l ≤ l') {S : List Nat} (hp : ypre l S) : ypre l' S := by
  cases S with
  | nil => trivial
  | cons s S => rcases hp with h1 | h1
                · exact Or.inl h1
                · exact Or.inr (by omega)
theorem ycl_stop {l : Nat} {S : List Nat} {M : List Int32} (h : ypre l S) : ycl l S M = (S, M) := by
  cases S with
  | nil => rfl
  | cons s S => exact if_pos h
theorem ycl_app {l : Nat} : ∀ (Q S : List Nat) (M : List Int32), (∀ q ∈ Q, q ≠ 20 ∧ l ≤ ytgt q) → ycl l (Q ++ S) M = ycl l S (M ++ Q.map ymkc) := by
  intro Q
  induction Q with
  | nil => intro S M _; simp
  | cons q Q ih =>
    intro S M h
    have h1 := h q (by simp)
    have e : ycl l (q :: (Q ++ S)) M = ycl l (Q ++ S) (M ++ [ymkc q]) := if_neg (by rintro (h2 | h2); exact h1.1 h2; omega)
    show ycl l (q :: (Q ++ S)) M = _
    rw [e, ih S _ (fun x hx => h x (by simp [hx]))]
    simp
theorem ycl_20 {Q S : List Nat} {M : List Int32} (h : ∀ q ∈ Q, q ≠ 20) : ycl 0 (Q ++ 20 :: S) M = (20 :: S, M ++ Q.map ymkc) := by
  rw [ycl_app Q _ M (fun q hq => ⟨h q hq, Nat.zero_le _⟩)]
  unfold ycl
  rw [if_pos (Or.inl rfl)]
theorem yhr_app {Q : List Nat} : ∀ {S : List Nat}, (∀ q ∈ Q, q ≠ 20 ∧ 4 < ytgt q) → yhr (Q ++ S) = yhr S := by
  induction Q with
  | nil => intro S _; rfl
  | cons q Q ih =>
    intro S h
    have h1 := h q (by simp)
    show yhr (q :: (Q ++ S)) = _
    rw [yhr, if_neg h1.1, if_neg (by omega)]
    exact ih (fun x hx => h x (by simp [hx]))
theorem yhr_pre {S : List Nat} (h : ypre 4 S) : yhr S = false := by
  cases S with
  | nil => rfl
  | cons s S =>
    unfold yhr
    rcases h with h | h
    · rw [if_pos h]
    · split
      · rfl
      · rw [if_pos (by omega)]; simp; omega
theorem ymn_pre {S : List Nat} (h : ypre 4 S) : ymn S = true := by
  cases S with
  | nil => rfl
  | cons s S => unfold ymn; rcases h with h | h <;> simp [h]
theorem ydp_app (Q S : List Nat) : ydp (Q ++ S) = ydp Q + ydp S := by
  induction Q with
  | nil => simp [ydp]
  | cons q Q ih =>
    have e : ∀ R, ydp (q :: R) = if q = 20 ∨ q = 21 then ydp R + 1 else ydp R := fun _ => rfl
    show ydp (q :: (Q ++ S)) = _
    rw [e, e]
    split <;> omega
/-- where a level ends: which tokens can't stand there -/
def ystp (l : Nat) (Q : List Nat) (k : Nat) : Prop :=
  (l ≤ 6 → yopP k = false) ∧ (l ≤ 5 → yopS k = false) ∧ (l ≤ 3 → yopR k = true → ∃ a r b, Q = a ++ r :: b ∧ (∀ q ∈ a, q ≠ 20 ∧ 4 < ytgt q) ∧ r ≠ 20 ∧ ytgt r = 4) ∧ (l ≤ 2 → yopA k = false) ∧ (l ≤ 1 → yopO k = false)
variable (T)
def yOkk (l : Nat) (S : List Nat) (s : yMc) (r : yFr) : Prop := ∃ Q M1, yRch T s ⟨false, r.2.1, Q ++ S, M1, r.2.2⟩ ∧ (∀ q ∈ Q, q ≠ 20 ∧ l ≤ ytgt q) ∧ M1 ++ Q.map ymkc = s.2.2.2.1 ++ r.1 ∧ s.2.2.2.2 < r.2.2 ∧ r.2.2 ≤ 30 ∧ ystp l Q (T r.2.1).1
/-- a level of the class's, as the reference goes through it; a: what may stand ahead, l: what is left waiting; w: how deep it may go within; c: no not that could stand is met there -/
def ySim (X : yFo) (a l w : Nat) (c : Bool) : Prop := ∀ p un S M, ypre a S → ydp S + w = 7 → un ≤ 30 → (c = true → ¬ ((T p).1 = 20 ∧ ymn S = true)) → match X p un with
  | .error (c, pl) => yRun T ⟨true, p, S, M, un⟩ (.error (c, pl))
  | .ok r => yOkk T l S ⟨true, p, S, M, un⟩ r
end ZForm
