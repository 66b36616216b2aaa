/-! the class reads a text: tokens taken -/
def yNa (J : Nat → Nat → Int64) (a : Nat) (L : List (List Nat)) : Prop := ∀ k w, L[k]? = some w → J a k = nJ (ybs 32 (w.map (fun c => c - 96)))
def yXq (I : Nat → Nat → Int32) (J : Nat → Nat → Int64) (B : Nat → Nat) (n p : Nat) : Prop := yTp I B n ∧ yXt I J n (ytok B n p) ∧ p ≤ n
def yfX (u : Nat) (I : Nat → Nat → Int32) (J : Nat → Nat → Int64) (I' : Nat → Nat → Int32) (J' : Nat → Nat → Int64) : Prop := (∀ a, a ≠ 24 → a ≠ 25 → (a < u ∨ u + 10 < a) → I' a = I a) ∧ (∀ a, a ≠ 25 → a ≠ 27 → a ≠ 28 → a ≠ 29 → J' a = J a)
theorem yfX_refl (u : Nat) (I : Nat → Nat → Int32) (J : Nat → Nat → Int64) : yfX u I J I J := ⟨fun _ _ _ _ => rfl, fun _ _ _ _ _ => rfl⟩
theorem yfX_trans {u : Nat} {I I' I'' : Nat → Nat → Int32} {J J' J'' : Nat → Nat → Int64} (h : yfX u I J I' J') (h2 : yfX u I' J' I'' J'') : yfX u I J I'' J'' := ⟨fun a h1 h3 h4 => (h2.1 a h1 h3 h4).trans (h.1 a h1 h3 h4), fun a h1 h3 h4 h5 => (h2.2 a h1 h3 h4 h5).trans (h.2 a h1 h3 h4 h5)⟩
theorem yfX_fs {u : Nat} {I I' : Nat → Nat → Int32} {J J' : Nat → Nat → Int64} (h : yfs I J I' J') : yfX u I J I' J' := ⟨fun a _ h2 _ => h.1 a h2, fun a h1 _ _ _ => h.2 a h1⟩
theorem yfX_ff {u F : Nat} {I I' : Nat → Nat → Int32} {J J' : Nat → Nat → Int64} (hF : F = u + 5 ∨ F = u + 8) (h : yff F I J I' J') : yfX u I J I' J' := ⟨fun a h1 h2 h3 => h.1 a h1 h2 (by omega) (by omega), fun a h1 _ _ _ => h.2.2 a h1⟩
theorem yfX_24 {u k : Nat} {v : Int32} {I I' : Nat → Nat → Int32} {J J' : Nat → Nat → Int64} (h : yfX u I J I' J') : yfX u I J (zup I' 24 k v) J' := ⟨fun a h1 h2 h3 => (zup_ne _ _ _ h1).trans (h.1 a h1 h2 h3), h.2⟩
theorem yfX_up {u a k : Nat} {v : Int32} {I I' : Nat → Nat → Int32} {J J' : Nat → Nat → Int64} (h : yfX u I J I' J') (ha : u ≤ a ∧ a ≤ u + 10) : yfX u I J (zup I' a k v) J' := ⟨fun b h1 h2 h3 => (zup_ne _ _ _ (by omega)).trans (h.1 b h1 h2 h3), h.2⟩
theorem yfX_J {u a k : Nat} {v : Int64} {I I' : Nat → Nat → Int32} {J J' : Nat → Nat → Int64} (h : yfX u I J I' J') (ha : a = 27 ∨ a = 28 ∨ a = 29) : yfX u I J I' (zup J' a k v) := ⟨h.1, fun b h1 h2 h3 h4 => (zup_ne _ _ _ (by omega)).trans (h.2 b h1 h2 h3 h4)⟩
section ZXl
variable {I : Nat → Nat → Int32} {J : Nat → Nat → Int64} {t u i f s : Nat} {B : Nat → Nat} {n : Nat}
theorem yXq_fr {I' : Nat → Nat → Int32} {J' : Nat → Nat → Int64} {p : Nat} (h : yXq I J B n p) (h1 : I' 1 = I 1) (h2 : I' 25 = I 25) (h3 : J' 25 = J 25) : yXq I' J' B n p := by
  refine ⟨⟨h.1.1, h.1.2.1, fun k hk => by rw [h1]; exact h.1.2.2 k hk⟩, ?_, h.2.2⟩
  unfold yXt
  rw [h2, h3]
  exact h.2.1
theorem x_adv {p : Nat} (h : yXq I J B n p) (h1 : ¬ (ytok B n p).1 = 1) : ∃ I' J', f_C_advance (zs I J (zPt t u i f s 1)) 25 = some (zs I' J' (zPt t u i f s 1)) ∧ yfs I J I' J' ∧ yXq I' J' B n (ytok B n p).2.2.2.2 := by
  obtain ⟨hT, hX, hp⟩ := h
  obtain ⟨I', J', e1, e2, e3⟩ := x_advance (J := J) (t := t) (u := u) (i := i) (f := f) (s := s) hT ⟨hX.2.2.2.2.2, hX.2.2.2.2.1 h1⟩ (ytok_b hp).2.1
  exact ⟨I', J', e1, e2, yTp_fs hT e2, e3, (ytok_b hp).2.1⟩
/-- a fault has been told -/
def yEX (u t s : Nat) (I : Nat → Nat → Int32) (J : Nat → Nat → Int64) (σ : zSt) (c pl : Nat) : Prop := ∃ I' J' f', σ = zs I' J' (zPt t u u f' s 1) ∧ yfX u I J I' J' ∧ I' 24 0 = nI c ∧ I' 24 1 = nI pl
theorem yEX_fr {I' : Nat → Nat → Int32} {J' : Nat → Nat → Int64} {σ : zSt} {c pl : Nat} (hf : yfX u I J I' J') (h : yEX u t s I' J' σ c pl) : yEX u t s I J σ c pl := by
  obtain ⟨I2, J2, f2, e1, e2, e3⟩ := h
  exact ⟨I2, J2, f2, e1, yfX_trans hf e2, e3⟩
theorem yEX_bl (c pl : Nat) : yEX u t s I J (zs (zup (zup I 24 0 (nI c)) 24 1 (nI pl)) J (zPt t u u f s 1)) c pl := ⟨_, _, _, rfl, yfX_24 (yfX_24 (yfX_refl _ _ _)), (zup_k _ _ (by decide)).trans (zup_s _ _ _ _), zup_s _ _ _ _⟩
/-- refused at p -/
theorem x_ref {α : Type} {p : Nat} (h : yXq I J B n p) : ∃ σ' c pl, f_T_refuse (zs I J (zPt t u u f s 1)) 24 = some (0, σ') ∧ (yer (ytok B n p) : yRs α) = .error (c, pl) ∧ yEX u t s I J σ' c pl :=
  ⟨_, _, _, g_T_refuse (J := J) (t := t) (u := u) (i := u) (f := f) (s := s) (x := 1) h.2.1 (ytok_To h.2.2), rfl, yEX_bl _ _⟩
def yTR {α : Type} (u t f s : Nat) (I : Nat → Nat → Int32) (J : Nat → Nat → Int64) (res : Option (Int32 × zSt)) (r : yRs α) (Q : α → Int32 → (Nat → Nat → Int32) → (Nat → Nat → Int64) → Prop) : Prop := match r with
  | .error (c, pl) => ∃ v σ', res = some (v, σ') ∧ (v = 0 ∨ v = -1) ∧ yEX u t s I J σ' c pl
  | .ok a => ∃ v I' J', res = some (v, zs I' J' (zPt t u u f s 1)) ∧ Q a v I' J'
theorem x_tak {k p : Nat} (hk : k ≤ 62) (hk1 : k ≠ 1) (h : yXq I J B n p) : match ytake (ytok B n) k p with
    | .error (c, pl) => ∃ σ', f_T_take (zs I J (zPt t u u f s 1)) 24 (nI k) = some (0, σ') ∧ yEX u t s I J σ' c pl
    | .ok p' => ∃ I' J', f_T_take (zs I J (zPt t u u f s 1)) 24 (nI k) = some (1, zs I' J' (zPt t u u f s 1)) ∧ yfs I J I' J' ∧ yXq I' J' B n p' := by
  have h0 := h.2.1.1
  have hkb := (ytok_To (B := B) h.2.2).1
  unfold ytake
  by_cases hq : (ytok B n p).1 = k
  · rw [if_pos hq]
    obtain ⟨I', J', e1, e2, e3⟩ := x_adv (t := t) (u := u) (i := u) (f := f) (s := s) h (by omega)
    refine ⟨I', J', ?_, e2, e3⟩
    rw [hq] at h0
    simp (disch := (first | omega | assumption)) only [f_T_take, zg_9, gi_7, gp_9_2, zbs, nI_add, pk_mul, znI_add1, znI_sub1, znI_subm, zle_nI, zlt_nI, zeq_nI, zle_0, zeq_0, zlt_0, zeq_m, zeq_1, zge_0, zbt0, zbt1, zB_0, zB_1, zB_b, zbool_0, zbool_1, ↓reduceIte, h0, e1]
  · rw [if_neg hq]
    obtain ⟨σ', c, pl, e1, e2, e3⟩ := x_ref (α := Nat) (u := u) (t := t) (f := f) (s := s) h
    rw [e2]
    refine ⟨σ', ?_, e3⟩
    have e4 : ¬ (nI (ytok B n p).1 = nI k) := by rw [zeq_nI (by omega) (by omega)]; exact hq
    simp (disch := (first | omega | assumption)) only [f_T_take, zg_9, gi_7, gp_9_2, zbs, nI_add, pk_mul, znI_add1, znI_sub1, znI_subm, zle_nI, zlt_nI, zeq_nI, zle_0, zeq_0, zlt_0, zeq_m, zeq_1, zge_0, zbt0, zbt1, zB_0, zB_1, zB_b, zbool_0, zbool_1, ↓reduceIte, h0, e4, e1]
theorem x_num {lo hi p : Nat} (hlo : lo ≤ 100) (hhi : hi ≤ 100) (h : yXq I J B n p) : match ynum (ytok B n) lo hi p with
    | .error (c, pl) => ∃ σ', f_T_takeNumber (zs I J (zPt t u u f s 1)) 24 (nI lo) (nI hi) = some (0, σ') ∧ yEX u t s I J σ' c pl
    | .ok a => ∃ I' J', f_T_takeNumber (zs I J (zPt t u u f s 1)) 24 (nI lo) (nI hi) = some (1, zs I' J' (zPt t u u f s 1)) ∧ yfs (zup I 24 10 (nI a.1)) J I' J' ∧ yXq I' J' B n a.2 := by
  have h0 := h.2.1.1
  have hτ := ytok_To (B := B) h.2.2
  have hkb := hτ.1
  unfold ynum
  by_cases hq : (ytok B n p).1 = 2
  · rw [if_pos hq]
    have hnu := hτ.2.1 hq
    have h2 := h.2.1.2.2.1 hq
    have hpl := h.2.1.2.1
    rw [hq] at h0
    have e2 : (nI 2 : Int32) = 2 := rfl
    by_cases hr : (ytok B n p).2.2.1 < lo ∨ hi < (ytok B n p).2.2.1
    · rw [if_pos hr]
      have b := g_T_blame (I := I) (J := J) (t := t) (u := u) (i := u) (f := f) (s := s) (x := 1) 4 (nI (ytok B n p).2.1)
      refine ⟨_, ?_, yEX_bl (f := f) 4 (ytok B n p).2.1⟩
      by_cases h1 : (ytok B n p).2.2.1 < lo
      · simp (disch := (first | omega | assumption)) only [f_T_takeNumber, zg_9, gi_7, si_9, gp_9_2, eq2, zbs, nI_add, pk_mul, znI_add1, znI_sub1, znI_subm, zle_nI, zlt_nI, zeq_nI, zle_0, zeq_0, zlt_0, zeq_m, zeq_1, zge_0, zbt0, zbt1, zB_0, zB_1, zB_b, zbool_0, zbool_1, ↓reduceIte, h0, e2, h2, h1, f_T_takeNumber_38, hpl, b, gi_7, gp_9_2]
        rfl
      · have h3 : ¬ (ytok B n p).2.2.1 ≤ hi := by omega
        simp (disch := (first | omega | assumption)) only [f_T_takeNumber, zg_9, gi_7, si_9, gp_9_2, eq2, zbs, nI_add, pk_mul, znI_add1, znI_sub1, znI_subm, zle_nI, zlt_nI, zeq_nI, zle_0, zeq_0, zlt_0, zeq_m, zeq_1, zge_0, zbt0, zbt1, zB_0, zB_1, zB_b, zbool_0, zbool_1, ↓reduceIte, h0, e2, h2, h1, h3, f_T_takeNumber_38, hpl, b, gi_7, gp_9_2]
        rfl
    · rw [if_neg hr]
      have h1 : ¬ (ytok B n p).2.2.1 < lo := by omega
      have h3 : (ytok B n p).2.2.1 ≤ hi := by omega
      have h' : yXq (zup I 24 10 (nI (ytok B n p).2.2.1)) J B n p := yXq_fr h (zup_ne _ _ _ (by decide)) (zup_ne _ _ _ (by decide)) rfl
      obtain ⟨I', J', e1, e3, e4⟩ := x_adv (t := t) (u := u) (i := u) (f := f) (s := s) h' (by omega)
      refine ⟨I', J', ?_, e3, e4⟩
      simp (disch := (first | omega | assumption)) only [f_T_takeNumber, zg_9, gi_7, si_9, gp_9_2, eq2, zbs, nI_add, pk_mul, znI_add1, znI_sub1, znI_subm, zle_nI, zlt_nI, zeq_nI, zle_0, zeq_0, zlt_0, zeq_m, zeq_1, zge_0, zbt0, zbt1, zB_0, zB_1, zB_b, zbool_0, zbool_1, ↓reduceIte, h0, e2, h2, h1, h3, e1]
  · rw [if_neg hq]
    obtain ⟨σ', c, pl, e1, e2, e3⟩ := x_ref (α := Nat × Nat) (u := u) (t := t) (f := f) (s := s) h
    rw [e2]
    refine ⟨σ', ?_, e3⟩
    have e4 : ¬ (nI (ytok B n p).1 = 2) := by rw [eq2 (by omega)]; exact hq
    simp (disch := (first | omega | assumption)) only [f_T_takeNumber, zg_9, gi_7, si_9, gp_9_2, eq2, zbs, nI_add, pk_mul, znI_add1, znI_sub1, znI_subm, zle_nI, zlt_nI, zeq_nI, zle_0, zeq_0, zlt_0, zeq_m, zeq_1, zge_0, zbt0, zbt1, zB_0, zB_1, zB_b, zbool_0, zbool_1, ↓reduceIte, h0, e4, e1]
theorem x_sgd2 {bl : Bool} {fr p : Nat} (h : yXq I J B n p) : match ysgd2 (ytok B n) bl fr p with
    | .error (c, pl) => ∃ σ', f_T_takeSigned_37 (zs I J (zPt t u u f s 1)) 24 (nI fr) (zB bl) = some (0, σ') ∧ yEX u t s I J σ' c pl
    | .ok a => ∃ I' J', f_T_takeSigned_37 (zs I J (zPt t u u f s 1)) 24 (nI fr) (zB bl) = some (1, zs I' J' (zPt t u u f s 1)) ∧ yfs (zup I 24 10 a.1) J I' J' ∧ yXq I' J' B n a.2 := by
  have h0 := h.2.1.1
  have hτ := ytok_To (B := B) h.2.2
  have hkb := hτ.1
  unfold ysgd2
  by_cases hq : (ytok B n p).1 = 2
  · rw [if_pos hq]
    have hnu := hτ.2.1 hq
    have h2 := h.2.1.2.2.1 hq
    rw [hq] at h0
    have e2 : (nI 2 : Int32) = 2 := rfl
    by_cases hr : 9 < (ytok B n p).2.2.1
    · rw [if_pos hr]
      have b := g_T_blame (I := I) (J := J) (t := t) (u := u) (i := u) (f := f) (s := s) (x := 1) 4 (nI fr)
      refine ⟨_, ?_, yEX_bl (f := f) 4 fr⟩
      have h3 : ¬ (ytok B n p).2.2.1 ≤ 9 := by omega
      simp (disch := (first | omega | assumption)) only [f_T_takeSigned_37, gi_7, gp_9_2, eq2, le9, zbs, nI_add, pk_mul, znI_add1, znI_sub1, znI_subm, zle_nI, zlt_nI, zeq_nI, zle_0, zeq_0, zlt_0, zeq_m, zeq_1, zge_0, zbt0, zbt1, zB_0, zB_1, zB_b, zbool_0, zbool_1, ↓reduceIte, h0, e2, h2, h3, b]
      rfl
    · rw [if_neg hr]
      have h3 : (ytok B n p).2.2.1 ≤ 9 := by omega
      have h' : ∀ v, yXq (zup I 24 10 v) J B n p := fun v => yXq_fr h (zup_ne _ _ _ (by decide)) (zup_ne _ _ _ (by decide)) rfl
      cases bl with
      | true =>
        obtain ⟨I', J', e1, e3, e4⟩ := x_adv (t := t) (u := u) (i := u) (f := f) (s := s) (h' (-nI (ytok B n p).2.2.1)) (by omega)
        refine ⟨I', J', ?_, e3, e4⟩
        simp (disch := (first | omega | assumption)) only [f_T_takeSigned_37, gi_7, gp_9_2, eq2, le9, zbs, nI_add, pk_mul, znI_add1, znI_sub1, znI_subm, zle_nI, zlt_nI, zeq_nI, zle_0, zeq_0, zlt_0, zeq_m, zeq_1, zge_0, zbt0, zbt1, zB_0, zB_1, zB_b, zbool_0, zbool_1, ↓reduceIte, h0, e2, h2, h3, f_T_takeSigned_95, e1, Bool.true_eq_false, si_9, gp_9_2]
      | false =>
        obtain ⟨I', J', e1, e3, e4⟩ := x_adv (t := t) (u := u) (i := u) (f := f) (s := s) (h' (nI (ytok B n p).2.2.1)) (by omega)
        refine ⟨I', J', ?_, e3, e4⟩
        simp (disch := (first | omega | assumption)) only [f_T_takeSigned_37, gi_7, gp_9_2, eq2, le9, zbs, nI_add, pk_mul, znI_add1, znI_sub1, znI_subm, zle_nI, zlt_nI, zeq_nI, zle_0, zeq_0, zlt_0, zeq_m, zeq_1, zge_0, zbt0, zbt1, zB_0, zB_1, zB_b, zbool_0, zbool_1, ↓reduceIte, h0, e2, h2, h3, f_T_takeSigned_95, e1, si_9, gp_9_2]
  · rw [if_neg hq]
    obtain ⟨σ', c, pl, e1, e2, e3⟩ := x_ref (α := Int32 × Nat) (u := u) (t := t) (f := f) (s := s) h
    rw [e2]
    refine ⟨σ', ?_, e3⟩
    have e4 : ¬ (nI (ytok B n p).1 = 2) := by rw [eq2 (by omega)]; exact hq
    simp (disch := (first | omega | assumption)) only [f_T_takeSigned_37, gi_7, gp_9_2, eq2, le9, zbs, nI_add, pk_mul, znI_add1, znI_sub1, znI_subm, zle_nI, zlt_nI, zeq_nI, zle_0, zeq_0, zlt_0, zeq_m, zeq_1, zge_0, zbt0, zbt1, zB_0, zB_1, zB_b, zbool_0, zbool_1, ↓reduceIte, h0, e4, e1]
theorem x_sgd {p : Nat} (h : yXq I J B n p) : match ysgd (ytok B n) p with
    | .error (c, pl) => ∃ σ', f_T_takeSigned (zs I J (zPt t u u f s 1)) 24 = some (0, σ') ∧ yEX u t s I J σ' c pl
    | .ok a => ∃ I1 J1 I' J', f_T_takeSigned (zs I J (zPt t u u f s 1)) 24 = some (1, zs I' J' (zPt t u u f s 1)) ∧ yfs I J I1 J1 ∧ yfs (zup I1 24 10 a.1) J1 I' J' ∧ yXq I' J' B n a.2 := by
  have h0 := h.2.1.1
  have hpl := h.2.1.2.1
  have hkb := (ytok_To (B := B) h.2.2).1
  unfold ysgd
  by_cases hq : (ytok B n p).1 = 45
  · rw [if_pos hq]
    have e45 : nI (ytok B n p).1 = 45 := by rw [hq]; rfl
    obtain ⟨I1, J1, a1, a2, a3⟩ := x_adv (t := t) (u := u) (i := u) (f := f) (s := s) h (by omega)
    have it := x_sgd2 (t := t) (u := u) (f := f) (s := s) (bl := true) (fr := (ytok B n p).2.1) a3
    cases hx : ysgd2 (ytok B n) true (ytok B n p).2.1 (ytok B n p).2.2.2.2 with
    | error cp_ =>
      obtain ⟨c, pl⟩ := cp_
      rw [hx] at it
      obtain ⟨σ', b1, b2⟩ := it
      have b1 : f_T_takeSigned_37 (zs I1 J1 (zPt t u u f s 1)) 24 (nI (ytok B n p).2.1) 1 = _ := b1
      refine ⟨σ', ?_, yEX_fr (yfX_fs a2) b2⟩
      have n1 : ¬ (1 : Int32) = 0 := by decide
      simp (disch := (first | omega | assumption)) only [f_T_takeSigned, zg_9, gi_7, gp_9_2, zbs, nI_add, pk_mul, znI_add1, znI_sub1, znI_subm, zle_nI, zlt_nI, zeq_nI, zle_0, zeq_0, zlt_0, zeq_m, zeq_1, zge_0, zbt0, zbt1, zB_0, zB_1, zB_b, zbool_0, zbool_1, ↓reduceIte, h0, hpl, e45, f_T_takeSigned_25, n1, a1, b1, gp_9_2]
    | ok a =>
      rw [hx] at it
      obtain ⟨I', J', b1, b2, b3⟩ := it
      have b1 : f_T_takeSigned_37 (zs I1 J1 (zPt t u u f s 1)) 24 (nI (ytok B n p).2.1) 1 = _ := b1
      refine ⟨I1, J1, I', J', ?_, a2, b2, b3⟩
      have n1 : ¬ (1 : Int32) = 0 := by decide
      simp (disch := (first | omega | assumption)) only [f_T_takeSigned, zg_9, gi_7, gp_9_2, zbs, nI_add, pk_mul, znI_add1, znI_sub1, znI_subm, zle_nI, zlt_nI, zeq_nI, zle_0, zeq_0, zlt_0, zeq_m, zeq_1, zge_0, zbt0, zbt1, zB_0, zB_1, zB_b, zbool_0, zbool_1, ↓reduceIte, h0, hpl, e45, f_T_takeSigned_25, n1, a1, b1, gp_9_2]
  · rw [if_neg hq]
    have e45 : ¬ nI (ytok B n p).1 = 45 := by rw [show (45 : Int32) = nI 45 from rfl, zeq_nI (by omega) (by decide)]; exact hq
    have it := x_sgd2 (t := t) (u := u) (f := f) (s := s) (bl := false) (fr := (ytok B n p).2.1) h
    cases hx : ysgd2 (ytok B n) false (ytok B n p).2.1 p with
    | error cp_ =>
      obtain ⟨c, pl⟩ := cp_
      rw [hx] at it
      obtain ⟨σ', b1, b2⟩ := it
      have b1 : f_T_takeSigned_37 (zs I J (zPt t u u f s 1)) 24 (nI (ytok B n p).2.1) 0 = _ := b1
      refine ⟨σ', ?_, b2⟩
      simp (disch := (first | omega | assumption)) only [f_T_takeSigned, zg_9, gi_7, gp_9_2, zbs, nI_add, pk_mul, znI_add1, znI_sub1, znI_subm, zle_nI, zlt_nI, zeq_nI, zle_0, zeq_0, zlt_0, zeq_m, zeq_1, zge_0, zbt0, zbt1, zB_0, zB_1, zB_b, zbool_0, zbool_1, ↓reduceIte, h0, hpl, e45, f_T_takeSigned_25, b1]
    | ok a =>
      rw [hx] at it
      obtain ⟨I', J', b1, b2, b3⟩ := it
      have b1 : f_T_takeSigned_37 (zs I J (zPt t u u f s 1)) 24 (nI (ytok B n p).2.1) 0 = _ := b1
      refine ⟨I, J, I', J', ?_, yfs_refl _ _, b2, b3⟩
      simp (disch := (first | omega | assumption)) only [f_T_takeSigned, zg_9, gi_7, gp_9_2, zbs, nI_add, pk_mul, znI_add1, znI_sub1, znI_subm, zle_nI, zlt_nI, zeq_nI, zle_0, zeq_0, zlt_0, zeq_m, zeq_1, zge_0, zbt0, zbt1, zB_0, zB_1, zB_b, zbool_0, zbool_1, ↓reduceIte, h0, hpl, e45, f_T_takeSigned_25, b1]
end ZXl
