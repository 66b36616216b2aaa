/-- an instruction at a place, its length, and where the next one stands -/
def zDD (cc : ByteArray) (pc : Nat) (i : Instr) (len pc' : Nat) : Prop := decode cc pc = .ok (i, len) ∧ pc + len = pc'
def zchk1 (cc : ByteArray) (q : Nat × Instr × Nat × Nat) : Bool := match decode cc q.1 with
  | .ok (i, len) => decide (i = q.2.1) && (decide (len = q.2.2.1) && decide (q.1 + len = q.2.2.2))
  | .error _ => false
def zchk (cc : ByteArray) (t : List (Nat × Instr × Nat × Nat)) : Bool := t.all (zchk1 cc)
theorem zdd {cc : ByteArray} {t : List (Nat × Instr × Nat × Nat)} (h : zchk cc t = true) (k : Nat) {pc len pc' : Nat} {i : Instr} (hk : t[k]? = some (pc, i, len, pc')) : zDD cc pc i len pc' := by
  have h1 := List.all_eq_true.mp h _ (List.mem_of_getElem? hk)
  unfold zchk1 at h1
  cases hd : decode cc pc with
  | error e => simp [hd] at h1
  | ok v =>
    obtain ⟨j, len⟩ := v
    simp only [hd, Bool.and_eq_true, decide_eq_true_eq] at h1
    obtain ⟨h1, h2, h3⟩ := h1
    subst h1; subst h2
    exact ⟨hd, h3⟩
