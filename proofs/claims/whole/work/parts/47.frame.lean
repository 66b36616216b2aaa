/-! frames: what a run may have changed -/
def zfr (S : Nat → Nat → Bool) (I I' : Nat → Nat → Int32) : Prop := ∀ a k, S a k = false → I' a k = I a k
def zSl (l : List Nat) : Nat → Nat → Bool := fun a _ => l.contains a
section ZFr
variable {S S' : Nat → Nat → Bool} {I I' I'' : Nat → Nat → Int32} {a k : Nat} {v : Int32}
theorem zfr_refl (S : Nat → Nat → Bool) (I : Nat → Nat → Int32) : zfr S I I := fun _ _ _ => rfl
theorem zfr_trans (h : zfr S I I') (h2 : zfr S I' I'') : zfr S I I'' := fun a k hs => (h2 a k hs).trans (h a k hs)
theorem zfr_mono (h : zfr S I I') (hm : ∀ a k, S a k = true → S' a k = true) : zfr S' I I' := fun a k hs => h a k (by
  cases hq : S a k with
  | false => rfl
  | true => rw [hm a k hq] at hs; cases hs)
theorem zfr_up (h : zfr S I I') (hs : S a k = true) : zfr S I (zup I' a k v) := fun b j hb => by
  by_cases h1 : b = a
  · subst h1
    by_cases h2 : j = k
    · subst h2; rw [hs] at hb; cases hb
    · rw [zup_k _ _ h2]; exact h b j hb
  · rw [zup_ne _ _ _ h1]; exact h b j hb
theorem zfr_ro {r : Nat → Int32} (h : zfr S I I') (hs : ∀ k, S a k = true) : zfr S I (zro I' a r) := fun b j hb => by
  by_cases h1 : b = a
  · subst h1; rw [hs j] at hb; cases hb
  · rw [zro_ne _ _ h1]; exact h b j hb
theorem zfr_row (h : zfr S I I') (a : Nat) (hs : ∀ k, S a k = false) : I' a = I a := funext fun k => h a k (hs k)
theorem zfr_sl {l : List Nat} (h : zfr (zSl l) I I') (a : Nat) (hs : l.contains a = false) : I' a = I a := funext fun k => h a k hs
theorem zfr_slm {l l' : List Nat} (h : zfr (zSl l) I I') (hm : l.all (fun a => l'.contains a) = true) : zfr (zSl l') I I' := zfr_mono h (fun a _ ha => by
  have h1 : a ∈ l := List.contains_iff_mem.mp ha
  exact List.all_eq_true.mp hm a h1)
theorem zfr_slS {l : List Nat} (h : zfr (zSl l) I I') (hm : ∀ a ∈ l, ∀ k, S' a k = true) : zfr S' I I' := zfr_mono h (fun a k ha => hm a (List.contains_iff_mem.mp ha) k)
end ZFr
/-- a truth -/
def zB (c : Bool) : Int32 := if c = true then 1 else 0
theorem zB_0 (c : Bool) : (zB c = 0) = (c = false) := by cases c <;> simp [zB]
theorem zB_1 (c : Bool) : (zB c = 1) = (c = true) := by cases c <;> simp [zB]
theorem zB_b (c : Bool) : zbool (zB c) = some (zB c) := by cases c <;> simp [zB, zbool]
theorem zbool_0 : zbool 0 = some 0 := by simp [zbool]
theorem zbool_1 : zbool 1 = some 1 := by simp [zbool]
/-- an argument is one of n, or none of them -/
theorem zarg2 (x : Int32) {n : Nat} (hn : n < 2 ^ 31) : (∃ k, k < n ∧ x = nI k) ∨ (x < 0 ∨ nI n ≤ x) := by
  rcases pk_ix x hn with h | h | h
  · exact Or.inr (Or.inl h)
  · exact Or.inr (Or.inr h)
  · exact Or.inl h
theorem zrn_prod {α β : Type} (f : Nat → α → α) (g : Nat → β → β) : ∀ (d k : Nat) (a : α) (b : β), zrn (fun k (s : α × β) => (f k s.1, g k s.2)) d k (a, b) = (zrn f d k a, zrn g d k b) := by
  intro d
  induction d with
  | zero => intro k a b; rfl
  | succ d ih => intro k a b; exact ih (k + 1) (f k a) (g k b)
/-- h 0 * w 0 + .. -/
def zsm (h w : Nat → Int32) (n : Nat) : Int32 := zrn (fun t s => s + h t * w t) n 0 0
theorem zsm_congr {h h' w w' : Nat → Int32} {n : Nat} (hh : ∀ t, t < n → h t = h' t) (hw : ∀ t, t < n → w t = w' t) : zsm h w n = zsm h' w' n :=
  zrn_congr _ _ n (fun k s hk => by rw [hh k hk, hw k hk]) n 0 0 (by omega)
def zwrd (want ought reads num : Int32) : Nat → Int32 := fun j => if j = 0 then want else if j = 1 then ought else if j = 4 then reads else if j = 5 then num else 0
theorem zstep_congr {wd wd' : Nat → Int32} (h : ∀ j, j < 6 → wd j = wd' j) (m : Int32) (st : List Int32) : zstep wd m st = zstep wd' m st := by
  unfold zstep
  by_cases h7 : m ≤ -7
  · simp only [if_pos h7]
  · simp only [if_neg h7]
    by_cases h0 : m < 0
    · simp only [if_pos h0]
      obtain ⟨j, hj, hjm⟩ := zword h7 h0
      rw [hjm, nI_clamp (by omega), h j hj]
    · simp only [if_neg h0]
theorem zevl_congr {wd wd' : Nat → Int32} (h : ∀ j, j < 6 → wd j = wd' j) : ∀ (ms st : List Int32), zevl wd ms st = zevl wd' ms st := by
  intro ms
  induction ms with
  | nil => intro st; rfl
  | cons m ms ih =>
    intro st
    show zevl wd ms (zstep wd m st) = zevl wd' ms (zstep wd' m st)
    rw [zstep_congr h, ih]
theorem zev_congr {wd wd' : Nat → Int32} (h : ∀ j, j < 6 → wd j = wd' j) (ms : List Int32) : zev wd ms = zev wd' ms := by
  unfold zev
  rw [zevl_congr h]
/-- the key, by what is wanted, owed, read, and the book's number -/
def zky (LW : List Int32) (want ought reads : Int32) (b : Nat) : Int32 := zev (zwrd want ought reads (nI b)) LW
theorem zky_1 (want ought reads : Int32) (b : Nat) : zky [-1] want ought reads b = want := by
  unfold zky zev zevl zevl zstep
  rfl
