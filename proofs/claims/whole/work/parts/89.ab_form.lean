/-! formulas, pure: by levels, as the class reads them; by signs that wait, as the reference does -/
inductive yRs (α : Type) where
  | er (c pl : Nat) : yRs α
  | ok (a : α) : yRs α
def yer {α : Type} (τ : yTk) : yRs α := .er (if τ.kd = 1 then 1 else 2) τ.pl
abbrev yFr := List Int32 × Nat × Nat
abbrev yFo := Nat → Nat → yRs yFr
section ZForm
variable (T : Nat → yTk)
def yfU (re : Option yFo) : yFo := fun p un =>
  if un < 30 then
    (if (T p).kd = 40 then
      (match re with
       | none => yer (T p)
       | some e => match e (T p).nx (un + 1) with
         | .er c l => .er c l
         | .ok r => if (T r.2.1).kd = 41 then .ok (r.1, (T r.2.1).nx, r.2.2) else yer (T r.2.1))
     else if (T p).kd = 2 then .ok ([nI (T p).nu], (T p).nx, un + 1)
     else if 21 ≤ (T p).kd ∧ (T p).kd ≤ 26 then .ok ([(-1) - nI ((T p).kd - 21)], (T p).nx, un + 1)
     else yer (T p))
  else yer (T p)
def yfL (item : yFo) (op : Nat → Bool) (mk : Nat → Int32) : Nat → yFo
  | 0 => fun p un => .ok ([], p, un)
  | d + 1 => fun p un => if op (T p).kd = true then
      (match item (T p).nx un with
       | .er c l => .er c l
       | .ok r => match yfL item op mk d r.2.1 r.2.2 with
         | .er c l => .er c l
         | .ok r2 => .ok (r.1 ++ (mk (T p).kd :: r2.1), r2.2))
      else .ok ([], p, un)
def yfC (item : yFo) (op : Nat → Bool) (mk : Nat → Int32) : yFo := fun p un => match item p un with
  | .er c l => .er c l
  | .ok r => match yfL T item op mk 30 r.2.1 r.2.2 with
    | .er c l => .er c l
    | .ok r2 => .ok (r.1 ++ r2.1, r2.2)
def yopP (k : Nat) : Bool := k == 42 || k == 47 || k == 37
def yopS (k : Nat) : Bool := k == 43 || k == 45
def yopR (k : Nat) : Bool := k == 60 || k == 62 || k == 61
def yopA (k : Nat) : Bool := k == 19
def yopO (k : Nat) : Bool := k == 18
def yfP (re : Option yFo) : yFo := yfC T (yfU T re) yopP (fun k => -nI k)
def yfS (re : Option yFo) : yFo := yfC T (yfP T re) yopS (fun k => -nI k)
def yf1 (re rs : Option yFo) : yFo := fun p un =>
  if (T p).kd = 20 then
    (match rs with
     | none => yer (T p)
     | some s => match s (T p).nx un with
       | .er c l => .er c l
       | .ok r => .ok (r.1 ++ [-13], r.2))
  else match yfS T re p un with
    | .er c l => .er c l
    | .ok r => if yopR (T r.2.1).kd = true then
        (match yfS T re (T r.2.1).nx r.2.2 with
         | .er c l => .er c l
         | .ok r2 => .ok (r.1 ++ (r2.1 ++ [-nI (T r.2.1).kd]), r2.2))
        else .ok r
def yfB (re rs : Option yFo) : yFo := yfC T (yf1 T re rs) yopA (fun _ => -12)
def yfE (re rs : Option yFo) : yFo := yfC T (yfB T re rs) yopO (fun _ => -11)
def ylv : Nat → yFo × yFo
  | 0 => (yfE T none none, yf1 T none none)
  | d + 1 => (yfE T (some (ylv d).1) (some (ylv d).2), yf1 T (some (ylv d).1) (some (ylv d).2))
/-- signs that wait: how tightly they bind, which mark they become -/
def ytgt (s : Nat) : Nat := if s = 21 then 3 else if s = 38 then 2 else if s = 43 then 5 else if s = 45 then 5 else if s = 60 then 4 else if s = 61 then 4 else if s = 62 then 4 else if s = 124 then 1 else 6
def ymkc (s : Nat) : Int32 := if s = 21 then -13 else if s = 38 then -12 else if s = 124 then -11 else -nI s
def ydp : List Nat → Nat
  | [] => 0
  | s :: S => if s = 20 ∨ s = 21 then ydp S + 1 else ydp S
def ycl (least : Nat) : List Nat → List Int32 → List Nat × List Int32
  | [], M => ([], M)
  | s :: S, M => if s = 20 ∨ ytgt s < least then (s :: S, M) else ycl least S (M ++ [ymkc s])
def ymn : List Nat → Bool
  | [] => true
  | s :: _ => s == 20 || decide (ytgt s < 4)
def yhr : List Nat → Bool
  | [] => false
  | s :: S => if s = 20 then false else if ytgt s ≤ 4 then decide (ytgt s = 4) else yhr S
def ysc (k : Nat) : Nat := if k = 19 then 38 else if k = 18 then 124 else if k = 60 ∨ k = 62 ∨ k = 61 ∨ k = 43 ∨ k = 45 ∨ k = 42 ∨ k = 47 ∨ k = 37 then k else 0
structure yMc where
  nd : Bool
  p : Nat
  S : List Nat
  M : List Int32
  un : Nat
inductive ySp where
  | go (s : yMc) : ySp
  | er (c pl : Nat) : ySp
  | fin (r : yFr) : ySp
def yerS (τ : yTk) : ySp := .er (if τ.kd = 1 then 1 else 2) τ.pl
def ymst (s : yMc) : ySp :=
  if s.nd = true then
    (if (T s.p).kd = 20 ∧ ymn s.S = true then (if ydp s.S ≤ 6 then .go ⟨true, (T s.p).nx, 21 :: s.S, s.M, s.un⟩ else yerS (T s.p))
     else if (T s.p).kd = 40 then (if s.un < 30 ∧ ydp s.S ≤ 6 then .go ⟨true, (T s.p).nx, 20 :: s.S, s.M, s.un + 1⟩ else yerS (T s.p))
     else if (T s.p).kd = 2 ∧ s.un < 30 then .go ⟨false, (T s.p).nx, s.S, s.M ++ [nI (T s.p).nu], s.un + 1⟩
     else if (21 ≤ (T s.p).kd ∧ (T s.p).kd ≤ 26) ∧ s.un < 30 then .go ⟨false, (T s.p).nx, s.S, s.M ++ [(-1) - nI ((T s.p).kd - 21)], s.un + 1⟩
     else yerS (T s.p))
  else
    (if (T s.p).kd = 41 ∧ 20 ∈ s.S then .go ⟨false, (T s.p).nx, (ycl 0 s.S s.M).1.tail, (ycl 0 s.S s.M).2, s.un⟩
     else if ¬ ysc (T s.p).kd = 0 ∧ ¬ (ytgt (ysc (T s.p).kd) = 4 ∧ yhr s.S = true) then .go ⟨true, (T s.p).nx, ysc (T s.p).kd :: (ycl (ytgt (ysc (T s.p).kd)) s.S s.M).1, (ycl (ytgt (ysc (T s.p).kd)) s.S s.M).2, s.un⟩
     else if 20 ∈ s.S then yerS (T s.p) else .fin ((ycl 0 s.S s.M).2, s.p, s.un))
inductive yRun : yMc → yRs yFr → Prop where
  | er {s : yMc} {c pl : Nat} : ymst T s = .er c pl → yRun s (.er c pl)
  | fin {s : yMc} {r : yFr} : ymst T s = .fin r → yRun s (.ok r)
  | go {s s' : yMc} {r : yRs yFr} : ymst T s = .go s' → yRun s' r → yRun s r
theorem yRun_det {s : yMc} {r r' : yRs yFr} (h : yRun T s r) : yRun T s r' → r = r' := by
  induction h with
  | er h => intro h'; cases h' with
    | er h2 => rw [h] at h2; cases h2; rfl
    | fin h2 => rw [h] at h2; cases h2
    | go h2 _ => rw [h] at h2; cases h2
  | fin h => intro h'; cases h' with
    | er h2 => rw [h] at h2; cases h2
    | fin h2 => rw [h] at h2; cases h2; rfl
    | go h2 _ => rw [h] at h2; cases h2
  | go h _ ih => intro h'; cases h' with
    | er h2 => rw [h] at h2; cases h2
    | fin h2 => rw [h] at h2; cases h2
    | go h2 h3 => rw [h] at h2; cases h2; exact ih h3
/-- from s on as from s' on -/
def yRch (s s' : yMc) : Prop := ∀ r, yRun T s' r → yRun T s r
variable {T}
theorem yRch_refl (s : yMc) : yRch T s s := fun _ h => h
theorem yRch_trans {a b c : yMc} (h : yRch T a b) (h2 : yRch T b c) : yRch T a c := fun r hr => h r (h2 r hr)
theorem yRch_step {a b : yMc} (h : ymst T a = .go b) : yRch T a b := fun _ hr => .go h hr
/-- what stands on the stack binds less tightly than l -/
def ypre (l : Nat) : List Nat → Prop
  | [] => True
  | s :: _ => s = 20 ∨ ytgt s < l
theorem ypre_mono {l l' : Nat} (h : l ≤ l') {S : List Nat} (hp : ypre l S) : ypre l' S := by
  cases S with
  | nil => trivial
  | cons s S => rcases hp with h1 | h1
                · exact Or.inl h1
                · exact Or.inr (by omega)
theorem ycl_stop {l : Nat} {S : List Nat} {M : List Int32} (h : ypre l S) : ycl l S M = (S, M) := by
  cases S with
  | nil => rfl
  | cons s S => exact if_pos h
theorem ycl_app {l : Nat} : ∀ (Q S : List Nat) (M : List Int32), (∀ q ∈ Q, q ≠ 20 ∧ l ≤ ytgt q) → ycl l (Q ++ S) M = ycl l S (M ++ Q.map ymkc) := by
  intro Q
  induction Q with
  | nil => intro S M _; simp
  | cons q Q ih =>
    intro S M h
    have h1 := h q (by simp)
    have e : ycl l (q :: (Q ++ S)) M = ycl l (Q ++ S) (M ++ [ymkc q]) := if_neg (by rintro (h2 | h2); exact h1.1 h2; omega)
    show ycl l (q :: (Q ++ S)) M = _
    rw [e, ih S _ (fun x hx => h x (by simp [hx]))]
    simp
theorem ycl_20 {Q S : List Nat} {M : List Int32} (h : ∀ q ∈ Q, q ≠ 20) : ycl 0 (Q ++ 20 :: S) M = (20 :: S, M ++ Q.map ymkc) := by
  rw [ycl_app Q _ M (fun q hq => ⟨h q hq, Nat.zero_le _⟩)]
  unfold ycl
  rw [if_pos (Or.inl rfl)]
theorem yhr_app {Q : List Nat} : ∀ {S : List Nat}, (∀ q ∈ Q, q ≠ 20 ∧ 4 < ytgt q) → yhr (Q ++ S) = yhr S := by
  induction Q with
  | nil => intro S _; rfl
  | cons q Q ih =>
    intro S h
    have h1 := h q (by simp)
    show yhr (q :: (Q ++ S)) = _
    rw [yhr, if_neg h1.1, if_neg (by omega)]
    exact ih (fun x hx => h x (by simp [hx]))
theorem yhr_pre {S : List Nat} (h : ypre 4 S) : yhr S = false := by
  cases S with
  | nil => rfl
  | cons s S =>
    unfold yhr
    rcases h with h | h
    · rw [if_pos h]
    · split
      · rfl
      · rw [if_pos (by omega)]; simp; omega
theorem ymn_pre {S : List Nat} (h : ypre 4 S) : ymn S = true := by
  cases S with
  | nil => rfl
  | cons s S => unfold ymn; rcases h with h | h <;> simp [h]
theorem ydp_app (Q S : List Nat) : ydp (Q ++ S) = ydp Q + ydp S := by
  induction Q with
  | nil => simp [ydp]
  | cons q Q ih =>
    have e : ∀ R, ydp (q :: R) = if q = 20 ∨ q = 21 then ydp R + 1 else ydp R := fun _ => rfl
    show ydp (q :: (Q ++ S)) = _
    rw [e, e]
    split <;> omega
/-- where a level ends: which tokens can't stand there -/
def ystp (l : Nat) (Q : List Nat) (k : Nat) : Prop :=
  (l ≤ 6 → yopP k = false) ∧ (l ≤ 5 → yopS k = false) ∧ (l ≤ 3 → yopR k = true → ∃ a r b, Q = a ++ r :: b ∧ (∀ q ∈ a, q ≠ 20 ∧ 4 < ytgt q) ∧ r ≠ 20 ∧ ytgt r = 4) ∧ (l ≤ 2 → yopA k = false) ∧ (l ≤ 1 → yopO k = false)
variable (T)
def yOkk (l : Nat) (S : List Nat) (s : yMc) (r : yFr) : Prop := ∃ Q M1, yRch T s ⟨false, r.2.1, Q ++ S, M1, r.2.2⟩ ∧ (∀ q ∈ Q, q ≠ 20 ∧ l ≤ ytgt q) ∧ M1 ++ Q.map ymkc = s.M ++ r.1 ∧ s.un < r.2.2 ∧ r.2.2 ≤ 30 ∧ ystp l Q (T r.2.1).kd
/-- a level of the class's, as the reference goes through it; a: what may stand ahead, l: what is left waiting; w: how deep it may go within; c: no not that could stand is met there -/
def ySim (X : yFo) (a l w : Nat) (c : Bool) : Prop := ∀ p un S M, ypre a S → ydp S + w = 7 → un ≤ 30 → (c = true → ¬ ((T p).kd = 20 ∧ ymn S = true)) → match X p un with
  | .er c pl => yRun T ⟨true, p, S, M, un⟩ (.er c pl)
  | .ok r => yOkk T l S ⟨true, p, S, M, un⟩ r
end ZForm
