/-! the constructors: no other references -/
def zbdP (σ : zSt) : Prop := ∀ a k, (100 ≤ k ∨ ∀ q, σ.1[a]? = some q → q.1 ≠ 0 ∧ q.1 ≠ 5) → σ.2.2.2 a k = none
def zHh (o : Option zSt) : Prop := ∀ σ', o = some σ' → zbdP σ'
theorem zHh_some {σ : zSt} (h : zbdP σ) : zHh (some σ) := fun σ' e => by cases e; exact h
theorem zHh_g {σ : zSt} {c a : Nat} {o : Option zSt} (h : zHh o) : zHh (zg σ c a o) := fun σ' e => by
  unfold zg at e
  split at e
  · exact h σ' e
  · cases e
theorem zHh_nat {o : Option Nat} {g : Nat → Option zSt} (h : ∀ n, zHh (g n)) : zHh (o.bind g) := fun σ' e => by
  cases o with
  | none => cases e
  | some n => exact h n σ' e
theorem zHh_int {o : Option Int32} {g : Int32 → Option zSt} (h : ∀ n, zHh (g n)) : zHh (o.bind g) := fun σ' e => by
  cases o with
  | none => cases e
  | some n => exact h n σ' e
theorem zHh_f {o : Option zSt} {g : zSt → Option zSt} (h : zHh o) (hg : ∀ σ1, zbdP σ1 → zHh (g σ1)) : zHh (o.bind g) := fun σ' e => by
  cases o with
  | none => cases e
  | some n => exact hg n (h n rfl) σ' e
theorem zHh_if {c : Prop} [Decidable c] {o p : Option zSt} (h : zHh o) (h2 : zHh p) : zHh (if c then o else p) := by
  split
  · exact h
  · exact h2
theorem zbdP_new {σ : zSt} (q : Nat × Nat) (h : zbdP σ) : zbdP (znew σ q) := fun a k hk => by
  show zro σ.2.2.2 σ.1.length (fun _ => none) a k = none
  by_cases e : a = σ.1.length
  · rw [e, zro_self]
  · rw [zro_ne _ _ e]
    refine h a k (hk.imp id (fun h2 q' hq => h2 q' ?_))
    show (σ.1 ++ [q])[a]? = some q'
    have : a < σ.1.length := (List.getElem?_eq_some_iff.mp hq).1
    rw [List.getElem?_append_left this]
    exact hq
theorem zHh_new {σ : zSt} {q : Nat × Nat} {g : zSt → Option zSt} (h : zbdP σ) (hg : ∀ σ1, zbdP σ1 → zHh (g σ1)) : zHh ((some (znew σ q)).bind g) := zHh_f (zHh_some (zbdP_new q h)) hg
theorem zHh_sP {σ : zSt} {c a k v : Nat} (hk : k < 100) (h : zbdP σ) : zHh (zsP σ c a k v) := fun σ' e => by
  unfold zsP at e
  split at e
  · rename_i hl
    cases e
    intro b j hj
    show zup σ.2.2.2 a k (some v) b j = none
    by_cases eb : b = a
    · subst eb
      have hjk : j ≠ k := fun e => by
        rcases hj with hj | hj
        · omega
        · exact (hj _ hl).1 rfl
      rw [zup_k _ _ hjk]
      exact h b j hj
    · rw [zup_ne _ _ _ eb]; exact h b j hj
  · cases e
theorem zHh_sI {σ : zSt} {c a k : Nat} {v : Int32} (h : zbdP σ) : zHh (zsI σ c a k v) := fun σ' e => by
  unfold zsI at e
  split at e
  · cases e; exact h
  · cases e
theorem zHh_wI {σ : zSt} {c a : Nat} {i v : Int32} (h : zbdP σ) : zHh (zwI σ c a i v) := fun σ' e => by
  unfold zwI at e
  split at e
  · cases e; exact h
  · cases e
theorem zHh_cpy {σ : zSt} {a a2 : Nat} {sp dp n : Int32} (h : zbdP σ) : zHh (zcpy σ a sp a2 dp n) := fun σ' e => by
  unfold zcpy at e
  split at e
  · split at e
    · cases e; exact h
    · cases e
  · cases e
theorem zHh_wP {σ : zSt} {c a v : Nat} {i : Int32} (hi : i.toNatClampNeg < 100) (h : zbdP σ) : zHh (zwP σ c a i v) := fun σ' e => by
  unfold zwP at e
  split at e
  · rename_i hl
    cases e
    intro b j hj
    show zup σ.2.2.2 a i.toNatClampNeg (some v) b j = none
    by_cases eb : b = a
    · subst eb
      have hjk : j ≠ i.toNatClampNeg := fun e => by
        rcases hj with hj | hj
        · omega
        · have hz := hl.1
          unfold zok at hz
          split at hz
          · rename_i q hq
            have := (hj q hq).2
            simp at hz
            exact this hz.1
          · cases hz
      rw [zup_k _ _ hjk]
      exact h b j hj
    · rw [zup_ne _ _ _ eb]; exact h b j hj
  · cases e
theorem zHh_fillL : ∀ (fuel : Nat) (σ : zSt) (a : Nat) (v i n : Int32), zbdP σ → zHh (f_J_fill_5L fuel σ a v i n) := by
  intro fuel
  induction fuel with
  | zero => intro σ a v i n _ σ' e; cases e
  | succ m ih =>
    intro σ a v i n h
    rw [f_J_fill_5L, f_J_fill_5]
    exact zHh_if (zHh_some h) (zHh_f (zHh_wI h) (fun σ1 h1 => ih σ1 a v _ n h1))
theorem zHh_fill {σ : zSt} {a : Nat} {v : Int32} (h : zbdP σ) : zHh (f_J_fill σ a v) := by
  unfold f_J_fill
  exact zHh_int (fun _ => zHh_fillL _ _ _ _ _ _ h)
theorem zHh_Fclear {σ : zSt} {a : Nat} (h : zbdP σ) : zHh (f_F_clear σ a) := by
  unfold f_F_clear
  exact zHh_g (zHh_f (zHh_sI h) (fun _ h1 => zHh_some h1))
theorem zHh_Fadd {σ : zSt} {a : Nat} {v : Int32} (h : zbdP σ) : zHh (f_F_add σ a v) := by
  unfold f_F_add
  exact zHh_g (zHh_int (fun _ => zHh_if (zHh_some h) (zHh_nat (fun _ => zHh_int (fun _ => zHh_f (zHh_wI h) (fun _ h1 => zHh_int (fun _ => zHh_f (zHh_sI h1) (fun _ h2 => zHh_some h2))))))))
theorem zHh_FaddW {σ : zSt} {a : Nat} {v : Int32} (h : zbdP σ) : zHh (f_F_addWord σ a v) := by
  unfold f_F_addWord
  exact zHh_g (zHh_f (zHh_Fadd h) (fun _ h1 => zHh_some h1))
theorem zHh_forget {σ : zSt} {a : Nat} (h : zbdP σ) : zHh (f_D_forget σ a) := by
  unfold f_D_forget
  refine zHh_g ?_
  repeat (first
    | exact zHh_some (by assumption)
    | (refine zHh_f (zHh_sI (by assumption)) ?_; intro _ _)
    | (refine zHh_nat ?_; intro _)
    | (refine zHh_f (zHh_fill (by assumption)) ?_; intro _ _)
    | (refine zHh_f (zHh_Fclear (by assumption)) ?_; intro _ _)
    | (refine zHh_f (zHh_FaddW (by assumption)) ?_; intro _ _))
theorem zHh_begin {σ : zSt} {a b : Nat} (h : zbdP σ) : zHh (f_N_begin σ a b) := by
  unfold f_N_begin
  refine zHh_g ?_
  repeat (first
    | exact zHh_some (by assumption)
    | (refine zHh_f (zHh_sI (by assumption)) ?_; intro _ _)
    | (refine zHh_nat ?_; intro _)
    | (refine zHh_int ?_; intro _)
    | (refine zHh_f (zHh_cpy (by assumption)) ?_; intro _ _)
    | (refine zHh_f (zHh_fill (by assumption)) ?_; intro _ _))
theorem zHh_Fi {σ : zSt} {a : Nat} (h : zbdP σ) : zHh (f_F_init σ a) := by
  unfold f_F_init
  refine zHh_g ?_
  repeat (first
    | exact zHh_some (by assumption)
    | (refine zHh_new (by assumption) ?_; intro _ _)
    | (refine zHh_nat ?_; intro _)
    | (refine zHh_f (zHh_sP (by decide) (by assumption)) ?_; intro _ _)
    | (refine zHh_f (zHh_sI (by assumption)) ?_; intro _ _))
theorem zHh_Li {σ : zSt} {a : Nat} (h : zbdP σ) : zHh (f_L_init σ a) := by
  unfold f_L_init
  refine zHh_g ?_
  repeat (first
    | exact zHh_some (by assumption)
    | (refine zHh_new (by assumption) ?_; intro _ _)
    | (refine zHh_nat ?_; intro _)
    | (refine zHh_f (zHh_sP (by decide) (by assumption)) ?_; intro _ _)
    | (refine zHh_f (zHh_sI (by assumption)) ?_; intro _ _))
theorem zHh_Ci {σ : zSt} {a : Nat} (h : zbdP σ) : zHh (f_C_init σ a) := by
  unfold f_C_init
  refine zHh_g ?_
  repeat (first
    | exact zHh_some (by assumption)
    | (refine zHh_new (by assumption) ?_; intro _ _)
    | (refine zHh_nat ?_; intro _)
    | (refine zHh_f (zHh_sP (by decide) (by assumption)) ?_; intro _ _)
    | (refine zHh_f (zHh_sI (by assumption)) ?_; intro _ _))
theorem zHh_Di {σ : zSt} {a : Nat} (h : zbdP σ) : zHh (f_D_init σ a) := by
  unfold f_D_init
  refine zHh_g ?_
  repeat (first
    | exact zHh_some (by assumption)
    | (refine zHh_new (by assumption) ?_; intro _ _)
    | (refine zHh_nat ?_; intro _)
    | (refine zHh_f (zHh_sP (by decide) (by assumption)) ?_; intro _ _)
    | (refine zHh_f (zHh_sI (by assumption)) ?_; intro _ _)
    | (refine zHh_f (zHh_Fi (by assumption)) ?_; intro _ _)
    | (refine zHh_f (zHh_forget (by assumption)) ?_; intro _ _))
theorem zHh_Ni {σ : zSt} {a : Nat} (h : zbdP σ) : zHh (f_N_init σ a) := by
  unfold f_N_init
  refine zHh_g ?_
  repeat (first
    | exact zHh_some (by assumption)
    | (refine zHh_new (by assumption) ?_; intro _ _)
    | (refine zHh_nat ?_; intro _)
    | (refine zHh_f (zHh_sP (by decide) (by assumption)) ?_; intro _ _)
    | (refine zHh_f (zHh_sI (by assumption)) ?_; intro _ _))
theorem zHh_Si {σ : zSt} {a b : Nat} (h : zbdP σ) : zHh (f_S_init σ a b) := by
  unfold f_S_init
  refine zHh_g ?_
  repeat (first
    | exact zHh_some (by assumption)
    | (refine zHh_new (by assumption) ?_; intro _ _)
    | (refine zHh_nat ?_; intro _)
    | (refine zHh_f (zHh_sP (by decide) (by assumption)) ?_; intro _ _)
    | (refine zHh_f (zHh_sI (by assumption)) ?_; intro _ _))
theorem zHh_Ai {σ : zSt} {a : Nat} (h : zbdP σ) : zHh (f_A_init σ a) := by
  unfold f_A_init
  refine zHh_g ?_
  repeat (first
    | exact zHh_some (by assumption)
    | (refine zHh_new (by assumption) ?_; intro _ _)
    | (refine zHh_nat ?_; intro _)
    | (refine zHh_f (zHh_sP (by decide) (by assumption)) ?_; intro _ _)
    | (refine zHh_f (zHh_sI (by assumption)) ?_; intro _ _))
theorem zHh_Ei {σ : zSt} {a : Nat} (h : zbdP σ) : zHh (f_E_init σ a) := by
  unfold f_E_init
  refine zHh_g ?_
  repeat (first
    | exact zHh_some (by assumption)
    | (refine zHh_new (by assumption) ?_; intro _ _)
    | (refine zHh_nat ?_; intro _)
    | (refine zHh_f (zHh_sP (by decide) (by assumption)) ?_; intro _ _)
    | (refine zHh_f (zHh_sI (by assumption)) ?_; intro _ _))
theorem zHh_Ri {σ : zSt} {a : Nat} (h : zbdP σ) : zHh (f_R_init σ a) := by
  unfold f_R_init
  refine zHh_g ?_
  repeat (first
    | exact zHh_some (by assumption)
    | (refine zHh_new (by assumption) ?_; intro _ _)
    | (refine zHh_nat ?_; intro _)
    | (refine zHh_f (zHh_sP (by decide) (by assumption)) ?_; intro _ _)
    | (refine zHh_f (zHh_sI (by assumption)) ?_; intro _ _))
theorem zHh_Oi {σ : zSt} {a : Nat} (h : zbdP σ) : zHh (f_O_init σ a) := by
  unfold f_O_init
  refine zHh_g ?_
  repeat (first
    | exact zHh_some (by assumption)
    | (refine zHh_new (by assumption) ?_; intro _ _)
    | (refine zHh_nat ?_; intro _)
    | (refine zHh_f (zHh_sP (by decide) (by assumption)) ?_; intro _ _)
    | (refine zHh_f (zHh_sI (by assumption)) ?_; intro _ _))
theorem zHh_Ti {σ : zSt} {a b : Nat} (h : zbdP σ) : zHh (f_T_init σ a b) := by
  unfold f_T_init
  refine zHh_g ?_
  repeat (first
    | exact zHh_some (by assumption)
    | (refine zHh_new (by assumption) ?_; intro _ _)
    | (refine zHh_nat ?_; intro _)
    | (refine zHh_f (zHh_sP (by decide) (by assumption)) ?_; intro _ _)
    | (refine zHh_f (zHh_sI (by assumption)) ?_; intro _ _)
    | (refine zHh_f (zHh_Ci (by assumption)) ?_; intro _ _))
theorem zHh_Wi {σ : zSt} {a : Nat} (h : zbdP σ) : zHh (f_W_init σ a) := by
  unfold f_W_init
  refine zHh_g ?_
  repeat (first
    | exact zHh_some (by assumption)
    | (refine zHh_new (by assumption) ?_; intro _ _)
    | (refine zHh_nat ?_; intro _)
    | (refine zHh_f (zHh_sP (by decide) (by assumption)) ?_; intro _ _)
    | (refine zHh_f (zHh_sI (by assumption)) ?_; intro _ _)
    | (refine zHh_f (zHh_Di (by assumption)) ?_; intro _ _)
    | (refine zHh_f (zHh_Ti (by assumption)) ?_; intro _ _)
    | (refine zHh_f (zHh_Ni (by assumption)) ?_; intro _ _)
    | (refine zHh_f (zHh_Ai (by assumption)) ?_; intro _ _)
    | (refine zHh_f (zHh_Si (by assumption)) ?_; intro _ _)
    | (refine zHh_f (zHh_Ri (by assumption)) ?_; intro _ _)
    | (refine zHh_f (zHh_Oi (by assumption)) ?_; intro _ _)
    | (refine zHh_f (zHh_Ei (by assumption)) ?_; intro _ _)
    | (refine zHh_f (zHh_Li (by assumption)) ?_; intro _ _)
    | (refine zHh_f (zHh_wP (by decide) (by assumption)) ?_; intro _ _)
    | (refine zHh_f (zHh_begin (by assumption)) ?_; intro _ _))
theorem zHh_Mi {σ : zSt} {a : Nat} (h : zbdP σ) : zHh (f_M_init σ a) := by
  unfold f_M_init
  refine zHh_g ?_
  repeat (first
    | exact zHh_some (by assumption)
    | (refine zHh_new (by assumption) ?_; intro _ _)
    | (refine zHh_nat ?_; intro _)
    | (refine zHh_f (zHh_sP (by decide) (by assumption)) ?_; intro _ _)
    | (refine zHh_f (zHh_sI (by assumption)) ?_; intro _ _)
    | (refine zHh_f (zHh_wI (by assumption)) ?_; intro _ _))
