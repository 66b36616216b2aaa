/-! formulas in the class -/
def yFm (I : Nat → Nat → Int32) (F : Nat) (M : List Int32) : Prop := I F 2 = nI M.length ∧ ∀ k, k < M.length → M[k]? = some (I (F + 1) k)
def yXf (I : Nat → Nat → Int32) (J : Nat → Nat → Int64) (B : Nat → Nat) (n F : Nat) (A : List Int32) (p un : Nat) : Prop := yTp I B n ∧ yXt I J n (ytok B n p) ∧ p ≤ n ∧ yFm I F A ∧ I 24 8 = nI un ∧ I 24 0 = 0 ∧ I 24 1 = -1
def yff (F : Nat) (I : Nat → Nat → Int32) (J : Nat → Nat → Int64) (I' : Nat → Nat → Int32) (J' : Nat → Nat → Int64) : Prop := (∀ a, a ≠ 24 → a ≠ 25 → a ≠ F → a ≠ F + 1 → I' a = I a) ∧ (∀ k, k ≠ 0 → k ≠ 1 → k ≠ 8 → I' 24 k = I 24 k) ∧ (∀ a, a ≠ 25 → J' a = J a)
theorem yff_refl (F : Nat) (I : Nat → Nat → Int32) (J : Nat → Nat → Int64) : yff F I J I J := ⟨fun _ _ _ _ _ => rfl, fun _ _ _ _ => rfl, fun _ _ => rfl⟩
theorem yff_trans {F : Nat} {I I' I'' : Nat → Nat → Int32} {J J' J'' : Nat → Nat → Int64} (h : yff F I J I' J') (h2 : yff F I' J' I'' J'') : yff F I J I'' J'' := ⟨fun a h1 h3 h4 h5 => (h2.1 a h1 h3 h4 h5).trans (h.1 a h1 h3 h4 h5), fun k h1 h3 h4 => (h2.2.1 k h1 h3 h4).trans (h.2.1 k h1 h3 h4), fun a ha => (h2.2.2 a ha).trans (h.2.2 a ha)⟩
theorem yff_fs {F : Nat} {I I' : Nat → Nat → Int32} {J J' : Nat → Nat → Int64} (h : yfs I J I' J') : yff F I J I' J' := ⟨fun a _ h2 _ _ => h.1 a h2, fun k _ _ _ => by rw [h.1 24 (by decide)], h.2⟩
def yRm (M : List Int32) : yRs yFr → yRs yFr
  | .error (c, pl) => .error (c, pl)
  | .ok r => .ok (M ++ r.1, r.2)
theorem yzb0 {σ : zSt} : ((some ((0 : Int32), σ)).bind fun q => (zbool q.1).bind fun x => some (x, q.2)) = some (0, σ) := by simp only [zbs, zbool_0]
theorem yzb1 {σ : zSt} : ((some ((1 : Int32), σ)).bind fun q => (zbool q.1).bind fun x => some (x, q.2)) = some (1, σ) := by simp only [zbs, zbool_1]
section ZXf
variable {I : Nat → Nat → Int32} {J : Nat → Nat → Int64} {t u i f s x : Nat} {B : Nat → Nat} {n F : Nat} {τ : yTk}
theorem g_T_blame (c pl : Int32) : f_T_blame (zs I J (zPt t u i f s x)) 24 c pl = some (0, (zs (zup (zup I 24 0 c) 24 1 pl) J (zPt t u i f s x))) := by
  simp (disch := (first | omega | assumption)) only [f_T_blame, zg_9, si_9, zbs, nI_add, pk_mul, znI_add1, znI_sub1, znI_subm, zle_nI, zlt_nI, zeq_nI, zle_0, zeq_0, zlt_0, zeq_m, zeq_1, zge_0, zbt0, zbt1, zB_0, zB_1, zB_b, zbool_0, zbool_1, ↓reduceIte]
theorem g_T_refuse (h : yXt I J n τ) (hτ : yTo τ) : f_T_refuse (zs I J (zPt t u i f s x)) 24 = some (0, (zs (zup (zup I 24 0 (nI (if τ.1 = 1 then 1 else 2))) 24 1 (nI τ.2.1)) J (zPt t u i f s x))) := by
  have hb := hτ.1
  by_cases h1 : τ.1 = 1
  · rw [if_pos h1]
    have e : I 25 0 = 1 := by rw [h.1, h1]; rfl
    have := g_T_blame (I := I) (J := J) (t := t) (u := u) (i := i) (f := f) (s := s) (x := x) 1 (nI τ.2.1)
    simp (disch := (first | omega | assumption)) only [f_T_refuse, zg_9, gi_7, gp_9_2, zbs, nI_add, pk_mul, znI_add1, znI_sub1, znI_subm, zle_nI, zlt_nI, zeq_nI, zle_0, zeq_0, zlt_0, zeq_m, zeq_1, zge_0, zbt0, zbt1, zB_0, zB_1, zB_b, zbool_0, zbool_1, ↓reduceIte, e, f_T_refuse_17, gp_9_2, gi_7, h.2.1, this]
    rfl
  · rw [if_neg h1]
    have e : ¬ I 25 0 = 1 := by rw [h.1, zeq_1 (by omega)]; exact h1
    have := g_T_blame (I := I) (J := J) (t := t) (u := u) (i := i) (f := f) (s := s) (x := x) 2 (nI τ.2.1)
    simp (disch := (first | omega | assumption)) only [f_T_refuse, zg_9, gi_7, gp_9_2, zbs, nI_add, pk_mul, znI_add1, znI_sub1, znI_subm, zle_nI, zlt_nI, zeq_nI, zle_0, zeq_0, zlt_0, zeq_m, zeq_1, zge_0, zbt0, zbt1, zB_0, zB_1, zB_b, zbool_0, zbool_1, ↓reduceIte, e, f_T_refuse_17, gp_9_2, gi_7, h.2.1, this]
    rfl
theorem yff_bl (c pl : Int32) : yff F I J (zup (zup I 24 0 c) 24 1 pl) J := ⟨fun a h _ _ _ => (zup_ne _ _ _ h).trans (zup_ne _ _ _ h), fun k h0 h1 _ => (zup_k _ _ h1).trans (zup_k _ _ h0), fun _ _ => rfl⟩
theorem yfm_app {A : List Int32} {v : Int32} (h : yFm I F A) : yFm (zup (zup I (F + 1) A.length v) F 2 (nI (A.length + 1))) F (A ++ [v]) := by
  refine ⟨by rw [zup_s]; simp, fun k hk => ?_⟩
  simp only [List.length_append, List.length_singleton] at hk
  rw [zup_ne _ _ _ (by omega), zup_at]
  by_cases hkA : k = A.length
  · subst hkA; simp
  · rw [if_neg hkA, List.getElem?_append_left (by omega)]
    exact h.2 k (by omega)
theorem g_F_add (hF : F = 7 ∨ F = 10 ∨ F = 18 ∨ F = 21) {A : List Int32} (h : yFm I F A) (hl : A.length < 270) (v : Int32) : f_F_add (zs I J (zPt t u i f s x)) F v = some (zs (zup (zup I (F + 1) A.length v) F 2 (nI (A.length + 1))) J (zPt t u i f s x)) := by
  have h0 := h.1
  have c : ¬ (270 : Int32) ≤ nI A.length := nI_ge (b := 270) hl (by decide)
  have h2 : zup I (F + 1) A.length v F 2 = nI A.length := by rw [zup_ne _ _ _ (by omega)]; exact h0
  simp (disch := (first | omega | assumption)) only [f_F_add, zg_2, gi_2, si_2, gp_2_0, wi_2_0, zbs, nI_add, pk_mul, znI_add1, znI_sub1, znI_subm, zle_nI, zlt_nI, zeq_nI, zle_0, zeq_0, zlt_0, zeq_m, zeq_1, zge_0, zbt0, zbt1, zB_0, zB_1, zB_b, zbool_0, zbool_1, ↓reduceIte, h0, c, h2]
def yXR (B : Nat → Nat) (n F t u i s : Nat) (I : Nat → Nat → Int32) (J : Nat → Nat → Int64) (A : List Int32) (res : Option (Int32 × zSt)) (q : yRs yFr) : Prop := match q with
  | .error (c, pl) => ∃ I' J', res = some (0, zs I' J' (zPt t u i F s 1)) ∧ yff F I J I' J' ∧ I' 24 0 = nI c ∧ I' 24 1 = nI pl
  | .ok r => ∃ I' J', res = some (1, zs I' J' (zPt t u i F s 1)) ∧ yff F I J I' J' ∧ yXf I' J' B n F (A ++ r.1) r.2.1 r.2.2
def yXS (B : Nat → Nat) (n F t u i s : Nat) (g : zSt → Nat → Int32 → Option (Int32 × zSt)) (X : yFo) (w : Nat) : Prop := ∀ I J A p un, yXf I J B n F A p un → A.length ≤ 9 * un → un ≤ 30 → yXR B n F t u i s I J A (g (zs I J (zPt t u i F s 1)) 24 (nI w)) (X p un)
theorem yXR_er {A : List Int32} {res : Option (Int32 × zSt)} (h : yXt I J n τ) (hτ : yTo τ) (hr : res = f_T_refuse (zs I J (zPt t u i F s 1)) 24) : yXR B n F t u i s I J A res (yer τ) := by
  rw [g_T_refuse h hτ] at hr
  exact ⟨_, _, hr, yff_bl _ _, (zup_k _ _ (by decide)).trans (zup_s _ _ _ _), zup_s _ _ _ _⟩
theorem yXR_fr {I' : Nat → Nat → Int32} {J' : Nat → Nat → Int64} {A A' : List Int32} {res : Option (Int32 × zSt)} {q : yRs yFr} {M : List Int32} {q' : yRs yFr} (hA : A' = A ++ M) (hf : yff F I J I' J') (h : yXR B n F t u i s I' J' A' res q) (hq : q' = yRm M q) : yXR B n F t u i s I J A res q' := by
  subst hq
  subst hA
  cases q with
  | error cp_ =>
    obtain ⟨c, pl⟩ := cp_
    obtain ⟨I2, J2, e1, e2, e3⟩ := h
    exact ⟨I2, J2, e1, yff_trans hf e2, e3⟩
  | ok r =>
    obtain ⟨I2, J2, e1, e2, e3⟩ := h
    refine ⟨I2, J2, e1, yff_trans hf e2, ?_⟩
    rw [← List.append_assoc]
    exact e3
/-- to the next token, within a formula -/
theorem x_fadv {A : List Int32} {p un : Nat} (h : yXf I J B n F A p un) (hF : F = 7 ∨ F = 10 ∨ F = 18 ∨ F = 21) (h1 : ¬ (ytok B n p).1 = 1) : ∃ I' J', f_C_advance (zs I J (zPt t u i f s 1)) 25 = some (zs I' J' (zPt t u i f s 1)) ∧ yfs I J I' J' ∧ yXf I' J' B n F A (ytok B n p).2.2.2.2 un := by
  obtain ⟨hT, hX, hp, hm, hu⟩ := h
  obtain ⟨I', J', e1, e2, e3⟩ := x_advance (J := J) (t := t) (u := u) (i := i) (f := f) (s := s) hT ⟨hX.2.2.2.2.2, hX.2.2.2.2.1 h1⟩ (ytok_b hp).2.1
  refine ⟨I', J', e1, e2, yTp_fs hT e2, e3, (ytok_b hp).2.1, ?_, ?_⟩
  · unfold yFm
    rw [e2.1 F (by omega), e2.1 (F + 1) (by omega)]
    exact hm
  · rw [e2.1 24 (by decide)]; exact hu
theorem x_unit (hF : F = 7 ∨ F = 10 ∨ F = 18 ∨ F = 21) {re rs : zSt → Nat → Int32 → Option (Int32 × zSt)} {reO : Option yFo} {w : Nat} (hw : w ≤ 7) (hre : match reO with
    | none => w = 7
    | some e => w ≤ 6 ∧ yXS B n F t u i s re e (w + 1)) : yXS B n F t u i s (f_T_unit re rs) (yfU (ytok B n) reO) w := by
  intro I J A p un h hA hu
  have h2 := h
  obtain ⟨hT, hX, hp, hm, hun, hu01⟩ := h
  have hτ := ytok_To (B := B) hp
  have hkb := hτ.1
  unfold yfU
  by_cases h30 : un < 30
  · rw [if_pos h30]
    have i1 : ¬ (nI un) < 30 ↔ False := by rw [lt30 (by omega)]; simp [h30]
    -- the state with one unit more
    have hff : yff F I J (zup I 24 8 (nI (un + 1))) J := ⟨fun a h _ _ _ => zup_ne _ _ _ h, fun k _ _ h8 => zup_k _ _ h8, fun _ _ => rfl⟩
    have hX3 : yXt (zup I 24 8 (nI (un + 1))) J n (ytok B n p) := by
      unfold yXt
      rw [zup_ne _ _ _ (show 25 ≠ 24 by decide)]
      exact hX
    have h3 : yXf (zup I 24 8 (nI (un + 1))) J B n F A p (un + 1) := by
      refine ⟨⟨hT.1, hT.2.1, fun k hk => by rw [zup_ne _ _ _ (by decide)]; exact hT.2.2 k hk⟩, hX3, hp, ?_, zup_s _ _ _ _, (zup_k _ _ (by decide)).trans hu01.1, (zup_k _ _ (by decide)).trans hu01.2⟩
      unfold yFm
      rw [zup_ne _ _ _ (show F ≠ 24 by omega), zup_ne _ _ _ (show F + 1 ≠ 24 by omega)]
      exact hm
    have k0 : zup I 24 8 (nI (un + 1)) 25 0 = nI (ytok B n p).1 := hX3.1
    by_cases h40 : (ytok B n p).1 = 40
    · rw [if_pos h40]
      have e40 : nI (ytok B n p).1 = 40 := by rw [h40]; rfl
      cases reO with
      | none =>
        have hw7 : w = 7 := hre
        subst hw7
        refine yXR_fr (M := []) (by simp) hff (yXR_er (A := A) hX3 hτ ?_) (by rfl)
        have hr := g_T_refuse (J := J) (t := t) (u := u) (i := i) (f := F) (s := s) (x := 1) hX3 hτ
        rw [hr]
        have n7 : ¬ (nI 7) ≤ 6 := by decide
        simp (disch := (first | omega | assumption)) only [f_T_unit, zg_9, gi_9, gi_7, si_9, gp_9_2, gp_9_7, eq2, le6, lt30, eq40, zbs, nI_add, pk_mul, znI_add1, znI_sub1, znI_subm, zle_nI, zlt_nI, zeq_nI, zle_0, zeq_0, zlt_0, zeq_m, zeq_1, zge_0, zbt0, zbt1, zB_0, zB_1, zB_b, zbool_0, zbool_1, ↓reduceIte, hun, h30, k0, e40, n7, hr]
      | some e =>
        obtain ⟨hw6, he⟩ := hre
        obtain ⟨I4, J4, a1, a2, a3⟩ := x_fadv (t := t) (u := u) (i := i) (f := F) (s := s) h3 hF (by omega)
        have it := he I4 J4 A _ _ a3 (by omega) (by omega)
        have hf4 : yff F I J I4 J4 := yff_trans hff (yff_fs a2)
        have w6 : nI w ≤ 6 := by rw [le6 (by omega)]; exact hw6
        simp only
        cases hx : e (ytok B n p).2.2.2.2 (un + 1) with
        | error cp_ =>
          obtain ⟨c, pl⟩ := cp_
          rw [hx] at it
          obtain ⟨I5, J5, b1, b2, b3⟩ := it
          refine ⟨I5, J5, ?_, yff_trans hf4 b2, b3⟩
          simp (disch := (first | omega | assumption)) only [f_T_unit, zg_9, gi_9, gi_7, si_9, gp_9_2, gp_9_7, eq2, le6, lt30, eq40, zbs, nI_add, pk_mul, znI_add1, znI_sub1, znI_subm, zle_nI, zlt_nI, zeq_nI, zle_0, zeq_0, zlt_0, zeq_m, zeq_1, zge_0, zbt0, zbt1, zB_0, zB_1, zB_b, zbool_0, zbool_1, ↓reduceIte, hun, h30, k0, e40, w6, a1, b1]
        | ok r =>
          rw [hx] at it
          obtain ⟨I5, J5, b1, b2, b3⟩ := it
          have b3' := b3
          obtain ⟨hT5, hX5, hp5, hm5, hun5⟩ := b3
          have hτ5 := ytok_To (B := B) hp5
          have hkb5 := hτ5.1
          have k5 := hX5.1
          simp only
          by_cases h41 : (ytok B n r.2.1).1 = 41
          · rw [if_pos h41]
            obtain ⟨I6, J6, c1, c2, c3⟩ := x_fadv (t := t) (u := u) (i := i) (f := F) (s := s) b3' hF (by omega)
            refine ⟨I6, J6, ?_, yff_trans hf4 (yff_trans b2 (yff_fs c2)), c3⟩
            have e41 : nI (ytok B n r.2.1).1 = 41 := by rw [h41]; rfl
            have n1 : ¬ (1 : Int32) = 0 := by decide
            simp (disch := (first | omega | assumption)) only [f_T_unit, f_T_take, zg_9, gi_9, gi_7, si_9, gp_9_2, gp_9_7, eq2, le6, lt30, eq40, zbs, nI_add, pk_mul, znI_add1, znI_sub1, znI_subm, zle_nI, zlt_nI, zeq_nI, zle_0, zeq_0, zlt_0, zeq_m, zeq_1, zge_0, zbt0, zbt1, zB_0, zB_1, zB_b, zbool_0, zbool_1, ↓reduceIte, hun, h30, k0, e40, w6, a1, b1, k5, e41, c1, n1]
          · rw [if_neg h41]
            have hr := g_T_refuse (J := J5) (t := t) (u := u) (i := i) (f := F) (s := s) (x := 1) hX5 hτ5
            refine yXR_fr (M := []) (by simp) (yff_trans hf4 b2) (yXR_er (A := A) hX5 hτ5 ?_) (by rfl)
            rw [hr]
            have e41 : ¬ nI (ytok B n r.2.1).1 = 41 := by rw [show (41 : Int32) = nI 41 from rfl, zeq_nI (by omega) (by decide)]; exact h41
            have n1 : ¬ (1 : Int32) = 0 := by decide
            simp (disch := (first | omega | assumption)) only [f_T_unit, f_T_take, zg_9, gi_9, gi_7, si_9, gp_9_2, gp_9_7, eq2, le6, lt30, eq40, zbs, nI_add, pk_mul, znI_add1, znI_sub1, znI_subm, zle_nI, zlt_nI, zeq_nI, zle_0, zeq_0, zlt_0, zeq_m, zeq_1, zge_0, zbt0, zbt1, zB_0, zB_1, zB_b, zbool_0, zbool_1, ↓reduceIte, hun, h30, k0, e40, w6, a1, b1, k5, e41, hr, n1]
    · rw [if_neg h40]
      have e40 : ¬ nI (ytok B n p).1 = 40 := by rw [eq40 (by omega)]; exact h40
      have hl : A.length < 270 := by omega
      have fin : ∀ v : Int32, ¬ (ytok B n p).1 = 1 → ∃ I' J', ((f_F_add (zs (zup I 24 8 (nI (un + 1))) J (zPt t u i F s 1)) F v).bind fun σ19 => f_T_unit_156 re rs σ19 24) = some (1, zs I' J' (zPt t u i F s 1)) ∧ yff F I J I' J' ∧ yXf I' J' B n F (A ++ [v]) (ytok B n p).2.2.2.2 (un + 1) := by
        intro v hk1
        have a1 := g_F_add (J := J) (t := t) (u := u) (i := i) (f := F) (s := s) (x := 1) hF h3.2.2.2.1 hl v
        have h4 : yXf (zup (zup (zup I 24 8 (nI (un + 1))) (F + 1) A.length v) F 2 (nI (A.length + 1))) J B n F (A ++ [v]) p (un + 1) := by
          refine ⟨⟨hT.1, hT.2.1, fun k hk => by rw [zup_ne _ _ _ (by omega), zup_ne _ _ _ (by omega)]; exact h3.1.2.2 k hk⟩, ?_, hp, yfm_app h3.2.2.2.1, ?_⟩
          · unfold yXt
            rw [zup_ne _ _ _ (show 25 ≠ F by omega), zup_ne _ _ _ (show 25 ≠ F + 1 by omega)]
            exact hX3
          · rw [zup_ne _ _ _ (by omega), zup_ne _ _ _ (by omega)]; exact h3.2.2.2.2
        have f4 : yff F I J (zup (zup (zup I 24 8 (nI (un + 1))) (F + 1) A.length v) F 2 (nI (A.length + 1))) J := ⟨fun a h1 h2 h3 h4 => by rw [zup_ne _ _ _ h3, zup_ne _ _ _ h4]; exact hff.1 a h1 h2 h3 h4, fun k h1 h2 h3 => by rw [zup_ne _ _ _ (by omega), zup_ne _ _ _ (by omega)]; exact hff.2.1 k h1 h2 h3, fun _ _ => rfl⟩
        obtain ⟨I6, J6, c1, c2, c3⟩ := x_fadv (t := t) (u := u) (i := i) (f := F) (s := s) h4 hF hk1
        refine ⟨I6, J6, ?_, yff_trans f4 (yff_fs c2), c3⟩
        simp (disch := (first | omega | assumption)) only [f_T_unit_156, gp_9_2, zbs, nI_add, pk_mul, znI_add1, znI_sub1, znI_subm, zle_nI, zlt_nI, zeq_nI, zle_0, zeq_0, zlt_0, zeq_m, zeq_1, zge_0, zbt0, zbt1, zB_0, zB_1, zB_b, zbool_0, zbool_1, ↓reduceIte, a1, c1]
      have hr := g_T_refuse (J := J) (t := t) (u := u) (i := i) (f := F) (s := s) (x := 1) hX3 hτ
      by_cases hk2 : (ytok B n p).1 = 2
      · rw [if_pos hk2]
        have e2 : nI (ytok B n p).1 = 2 := by rw [hk2]; rfl
        have n2 : zup I 24 8 (nI (un + 1)) 25 2 = nI (ytok B n p).2.2.1 := hX3.2.2.1 hk2
        obtain ⟨I6, J6, c1, c2⟩ := fin (nI (ytok B n p).2.2.1) (by omega)
        refine ⟨I6, J6, ?_, c2⟩
        have n240 : ¬ (2 : Int32) = 40 := by decide
        simp (disch := (first | omega | assumption)) only [f_T_unit, zg_9, gi_9, gi_7, si_9, gp_9_2, gp_9_7, eq2, le6, lt30, eq40, zbs, nI_add, pk_mul, znI_add1, znI_sub1, znI_subm, zle_nI, zlt_nI, zeq_nI, zle_0, zeq_0, zlt_0, zeq_m, zeq_1, zge_0, zbt0, zbt1, zB_0, zB_1, zB_b, zbool_0, zbool_1, ↓reduceIte, hun, h30, k0, e40, e2, n2, n240]
        rw [c1, yzb1]
      · rw [if_neg hk2]
        have e2 : ¬ nI (ytok B n p).1 = 2 := by rw [eq2 (by omega)]; exact hk2
        by_cases h21 : 21 ≤ (ytok B n p).1 ∧ (ytok B n p).1 ≤ 26
        · rw [if_pos h21]
          obtain ⟨I6, J6, c1, c2⟩ := fin ((-1) - nI ((ytok B n p).1 - 21)) (by omega)
          refine ⟨I6, J6, ?_, c2⟩
          have g1 : ¬ nI (ytok B n p).1 < 21 := by rw [show (21 : Int32) = nI 21 from rfl, zlt_nI (by omega) (by decide)]; omega
          have g2 : ¬ (26 : Int32) < nI (ytok B n p).1 := by rw [show (26 : Int32) = nI 26 from rfl, zlt_nI (by decide) (by omega)]; omega
          have g3 : nI (ytok B n p).1 - 21 = nI ((ytok B n p).1 - 21) := pk_sub (b := 21) h21.1
          have a1 := g_F_add (J := J) (t := t) (u := u) (i := i) (f := F) (s := s) (x := 1) hF h3.2.2.2.1 hl ((-1) - nI ((ytok B n p).1 - 21))
          rw [a1] at c1
          simp (disch := (first | omega | assumption)) only [f_T_unit, f_F_addWord, zg_9, gi_9, gi_7, si_9, gp_9_2, gp_9_7, eq2, le6, lt30, eq40, zg_2, zbs, nI_add, pk_mul, znI_add1, znI_sub1, znI_subm, zle_nI, zlt_nI, zeq_nI, zle_0, zeq_0, zlt_0, zeq_m, zeq_1, zge_0, zbt0, zbt1, zB_0, zB_1, zB_b, zbool_0, zbool_1, ↓reduceIte, hun, h30, k0, e40, e2, g1, g2, g3, a1]
          simp only [zbs] at c1
          rw [c1, yzb1]
        · rw [if_neg h21]
          refine yXR_fr (M := []) (by simp) hff (yXR_er (A := A) hX3 hτ ?_) (by rfl)
          rw [hr]
          by_cases g1 : (ytok B n p).1 < 21
          · have g1 : nI (ytok B n p).1 < 21 := by rw [show (21 : Int32) = nI 21 from rfl, zlt_nI (by omega) (by decide)]; exact g1
            simp (disch := (first | omega | assumption)) only [f_T_unit, zg_9, gi_9, gi_7, si_9, gp_9_2, gp_9_7, eq2, le6, lt30, eq40, zbs, nI_add, pk_mul, znI_add1, znI_sub1, znI_subm, zle_nI, zlt_nI, zeq_nI, zle_0, zeq_0, zlt_0, zeq_m, zeq_1, zge_0, zbt0, zbt1, zB_0, zB_1, zB_b, zbool_0, zbool_1, ↓reduceIte, hun, h30, k0, e40, e2, g1, f_T_unit_151, hr]
          · have g3 : ¬ nI (ytok B n p).1 < 21 := by rw [show (21 : Int32) = nI 21 from rfl, zlt_nI (by omega) (by decide)]; exact g1
            have g2 : (26 : Int32) < nI (ytok B n p).1 := by rw [show (26 : Int32) = nI 26 from rfl, zlt_nI (by decide) (by omega)]; omega
            simp (disch := (first | omega | assumption)) only [f_T_unit, zg_9, gi_9, gi_7, si_9, gp_9_2, gp_9_7, eq2, le6, lt30, eq40, zbs, nI_add, pk_mul, znI_add1, znI_sub1, znI_subm, zle_nI, zlt_nI, zeq_nI, zle_0, zeq_0, zlt_0, zeq_m, zeq_1, zge_0, zbt0, zbt1, zB_0, zB_1, zB_b, zbool_0, zbool_1, ↓reduceIte, hun, h30, k0, e40, e2, g3, g2, f_T_unit_151, hr]
  · rw [if_neg h30]
    refine yXR_er hX hτ ?_
    have hr := g_T_refuse (J := J) (t := t) (u := u) (i := i) (f := F) (s := s) (x := 1) hX hτ
    rw [hr]
    simp (disch := (first | omega | assumption)) only [f_T_unit, zg_9, gi_9, gi_7, si_9, gp_9_2, gp_9_7, eq2, le6, lt30, eq40, zbs, nI_add, pk_mul, znI_add1, znI_sub1, znI_subm, zle_nI, zlt_nI, zeq_nI, zle_0, zeq_0, zlt_0, zeq_m, zeq_1, zge_0, zbt0, zbt1, zB_0, zB_1, zB_b, zbool_0, zbool_1, ↓reduceIte, hun, h30, hr]
/-- a level's loop -/
theorem xs_L (hF : F = 7 ∨ F = 10 ∨ F = 18 ∨ F = 21) {g : zSt → Nat → Int32 → Option (Int32 × zSt)} {X : yFo} {op : Nat → Bool} {mk : Nat → Int32} {w wl : Nat} (hwl : wl ≤ 7) (hg : yXS B n F t u i s g X w) (hX : yWf (ytok B n) n X wl) (L : Nat → zSt → Nat → Int32 → Int32 → Option (Int32 × zSt))
    (h30 : ∀ m σ, L (m + 1) σ 24 (nI w) 30 = some (1, σ))
    (hno : ∀ m I J k j, j < 30 → I 25 0 = nI k → k ≤ 62 → op k = false → L (m + 1) (zs I J (zPt t u i F s 1)) 24 (nI w) (nI j) = some (1, zs I J (zPt t u i F s 1)))
    (hyes : ∀ m I J k j, j < 30 → I 25 0 = nI k → k ≤ 62 → op k = true → L (m + 1) (zs I J (zPt t u i F s 1)) 24 (nI w) (nI j) = (f_C_advance (zs I J (zPt t u i F s 1)) 25).bind fun σ1 => (g σ1 24 (nI w)).bind fun q => if q.1 = 0 then some (0, q.2) else (zgP q.2 9 24 7).bind fun a => (f_F_add q.2 a (mk k)).bind fun σ2 => L m σ2 24 (nI w) (nI (j + 1)))
    (hop1 : op 1 = false) :
    ∀ (d j fuel : Nat), j + d = 30 → d < fuel → ∀ I J A p un, yXf I J B n F A p un → A.length + 1 ≤ 9 * un → un ≤ 30 → yXR B n F t u i s I J A (L fuel (zs I J (zPt t u i F s 1)) 24 (nI w) (nI j)) (yfL (ytok B n) X op mk d p un) := by
  intro d
  induction d with
  | zero =>
    intro j fuel hj hf I J A p un h hA hu
    obtain ⟨m, rfl⟩ : ∃ m, fuel = m + 1 := ⟨fuel - 1, by omega⟩
    obtain rfl : j = 30 := by omega
    refine ⟨I, J, h30 m _, yff_refl _ _ _, ?_⟩
    simp only [List.append_nil]
    exact h
  | succ d ih =>
    intro j fuel hj hf I J A p un h hA hu
    obtain ⟨m, rfl⟩ : ∃ m, fuel = m + 1 := ⟨fuel - 1, by omega⟩
    have hτ := ytok_To (B := B) h.2.2.1
    unfold yfL
    cases hop : op (ytok B n p).1 with
    | false =>
      simp only [Bool.false_eq_true, if_false]
      refine ⟨I, J, hno m I J _ j (by omega) h.2.1.1 hτ.1 hop, yff_refl _ _ _, ?_⟩
      simp only [List.append_nil]
      exact h
    | true =>
      simp only [if_true]
      rw [hyes m I J _ j (by omega) h.2.1.1 hτ.1 hop]
      obtain ⟨I1, J1, a1, a2, a3⟩ := x_fadv (t := t) (u := u) (i := i) (f := F) (s := s) h hF (fun h1 => by rw [h1, hop1] at hop; cases hop)
      have it := hg I1 J1 A _ _ a3 (by omega) hu
      cases hx : X (ytok B n p).2.2.2.2 un with
      | error cp_ =>
        obtain ⟨c, pl⟩ := cp_
        rw [hx] at it
        obtain ⟨I2, J2, b1, b2, b3⟩ := it
        refine ⟨I2, J2, ?_, yff_trans (yff_fs a2) b2, b3⟩
        simp only [a1, zbs, b1, if_true]
      | ok r =>
        rw [hx] at it
        obtain ⟨I2, J2, b1, b2, b3⟩ := it
        obtain ⟨c1, c2, c3, c4, c5⟩ := hX _ _ _ (ytok_b h.2.2.1).2.1 hx
        have hlen : (wl + 2) * (r.2.2 - un) ≤ 9 * (r.2.2 - un) := Nat.mul_le_mul_right _ (by omega)
        have hl2 : (A ++ r.1).length < 270 := by
          rw [List.length_append]
          omega
        have d1 := g_F_add (J := J2) (t := t) (u := u) (i := i) (f := F) (s := s) (x := 1) hF b3.2.2.2.1 hl2 (mk (ytok B n p).1)
        have n1 : ¬ (1 : Int32) = 0 := by decide
        have h4 : yXf (zup (zup I2 (F + 1) (A ++ r.1).length (mk (ytok B n p).1)) F 2 (nI ((A ++ r.1).length + 1))) J2 B n F (A ++ r.1 ++ [mk (ytok B n p).1]) r.2.1 r.2.2 := by
          refine ⟨⟨b3.1.1, b3.1.2.1, fun k hk => by rw [zup_ne _ _ _ (by omega), zup_ne _ _ _ (by omega)]; exact b3.1.2.2 k hk⟩, ?_, b3.2.2.1, yfm_app b3.2.2.2.1, ?_⟩
          · unfold yXt
            rw [zup_ne _ _ _ (show 25 ≠ F by omega), zup_ne _ _ _ (show 25 ≠ F + 1 by omega)]
            exact b3.2.1
          · rw [zup_ne _ _ _ (by omega), zup_ne _ _ _ (by omega)]; exact b3.2.2.2.2
        have f4 : yff F I J (zup (zup I2 (F + 1) (A ++ r.1).length (mk (ytok B n p).1)) F 2 (nI ((A ++ r.1).length + 1))) J2 := by
          have f5 := yff_trans (yff_fs (F := F) a2) b2
          exact ⟨fun a h1 h2 h3 h4 => by rw [zup_ne _ _ _ h3, zup_ne _ _ _ h4]; exact f5.1 a h1 h2 h3 h4, fun k h1 h2 h3 => by rw [zup_ne _ _ _ (by omega), zup_ne _ _ _ (by omega)]; exact f5.2.1 k h1 h2 h3, f5.2.2⟩
        have hA2 : (A ++ r.1 ++ [mk (ytok B n p).1]).length + 1 ≤ 9 * r.2.2 := by
          simp only [List.length_append, List.length_singleton]
          omega
        have nx := ih (j + 1) m (by omega) (by omega) _ J2 _ _ _ h4 hA2 c2
        refine yXR_fr (A' := A ++ r.1 ++ [mk (ytok B n p).1]) (M := r.1 ++ [mk (ytok B n p).1]) (by simp) f4 ?_ (q := yfL (ytok B n) X op mk d r.2.1 r.2.2) ?_
        · simp only [a1, zbs, b1, n1, if_false, gp_9_7, d1]
          exact nx
        · simp only
          cases yfL (ytok B n) X op mk d r.2.1 r.2.2 with
          | error cp_ => obtain ⟨c, pl⟩ := cp_; rfl
          | ok r2 => simp [yRm]
theorem xs_C {g h : zSt → Nat → Int32 → Option (Int32 × zSt)} {X : yFo} {op : Nat → Bool} {mk : Nat → Int32} {w wl : Nat} (hwl : wl ≤ 7) (hg : yXS B n F t u i s g X w) (hX : yWf (ytok B n) n X wl) (L : Nat → zSt → Nat → Int32 → Int32 → Option (Int32 × zSt))
    (hh : ∀ I J, h (zs I J (zPt t u i F s 1)) 24 (nI w) = ((g (zs I J (zPt t u i F s 1)) 24 (nI w)).bind fun q1 => if q1.1 = 0 then some (0, q1.2) else L zfu q1.2 24 (nI w) 0).bind fun q => (zbool q.1).bind fun x => some (x, q.2))
    (hL : ∀ (d j fuel : Nat), j + d = 30 → d < fuel → ∀ I J A p un, yXf I J B n F A p un → A.length + 1 ≤ 9 * un → un ≤ 30 → yXR B n F t u i s I J A (L fuel (zs I J (zPt t u i F s 1)) 24 (nI w) (nI j)) (yfL (ytok B n) X op mk d p un)) : yXS B n F t u i s h (yfC (ytok B n) X op mk) w := by
  intro I J A p un hx hA hu
  rw [hh]
  have it := hg I J A p un hx hA hu
  unfold yfC
  cases hq : X p un with
  | error cp_ =>
    obtain ⟨c, pl⟩ := cp_
    rw [hq] at it
    obtain ⟨I2, J2, b1, b2, b3⟩ := it
    refine ⟨I2, J2, ?_, b2, b3⟩
    simp only [b1, zbs, if_true, zbool_0]
  | ok r =>
    rw [hq] at it
    obtain ⟨I2, J2, b1, b2, b3⟩ := it
    obtain ⟨c1, c2, c3, c4, c5⟩ := hX _ _ _ hx.2.2.1 hq
    have hlen : (wl + 2) * (r.2.2 - un) ≤ 9 * (r.2.2 - un) := Nat.mul_le_mul_right _ (by omega)
    have nx := hL 30 0 zfu (by omega) (zfu_lt (by omega)) I2 J2 (A ++ r.1) _ _ b3 (by simp only [List.length_append]; omega) c2
    have n1 : ¬ (1 : Int32) = 0 := by decide
    refine yXR_fr (M := r.1) rfl b2 ?_ (q := yfL (ytok B n) X op mk 30 r.2.1 r.2.2) (by simp only; cases yfL (ytok B n) X op mk 30 r.2.1 r.2.2 <;> rfl)
    simp only [b1, zbs, n1, if_false]
    have nx : yXR B n F t u i s I2 J2 (A ++ r.1) (L zfu (zs I2 J2 (zPt t u i F s 1)) 24 (nI w) 0) (yfL (ytok B n) X op mk 30 r.2.1 r.2.2) := nx
    cases hy : yfL (ytok B n) X op mk 30 r.2.1 r.2.2 with
    | error cp_ =>
      obtain ⟨c, pl⟩ := cp_
      rw [hy] at nx
      obtain ⟨I3, J3, d1, d2⟩ := nx
      exact ⟨I3, J3, by rw [d1, yzb0], d2⟩
    | ok r2 =>
      rw [hy] at nx
      obtain ⟨I3, J3, d1, d2⟩ := nx
      exact ⟨I3, J3, by rw [d1, yzb1], d2⟩
theorem ykP : ∀ k, k ≤ 62 → f_T_isProductSign (nI k) = some (zB (yopP k)) := by decide +kernel
theorem x_product (hF : F = 7 ∨ F = 10 ∨ F = 18 ∨ F = 21) {re rs : zSt → Nat → Int32 → Option (Int32 × zSt)} {reO : Option yFo} {w wl : Nat} (hwl : wl ≤ 7) (hU : yXS B n F t u i s (f_T_unit re rs) (yfU (ytok B n) reO) w) (hW : yWf (ytok B n) n (yfU (ytok B n) reO) wl) : yXS B n F t u i s (f_T_product re rs) (yfP (ytok B n) reO) w := by
  refine xs_C hwl hU hW (f_T_product_12L re rs) (fun I J => by simp only [f_T_product, zg_9]) (xs_L hF hwl hU hW _ (fun m σ => ?_) (fun m I J k j hj h0 hk hop => ?_) (fun m I J k j hj h0 hk hop => ?_) (by decide))
  · rw [f_T_product_12L, f_T_product_12, if_pos (by decide)]
  · have hs := ykP k hk
    rw [hop] at hs
    have c : ¬ (30 : Int32) ≤ nI j := nI_ge (b := 30) hj (by decide)
    rw [f_T_product_12L]
    simp (disch := (first | omega | assumption)) only [f_T_product_12, gi_7, gp_9_2, gp_9_7, ge30, zbs, nI_add, pk_mul, znI_add1, znI_sub1, znI_subm, zle_nI, zlt_nI, zeq_nI, zle_0, zeq_0, zlt_0, zeq_m, zeq_1, zge_0, zbt0, zbt1, zB_0, zB_1, zB_b, zbool_0, zbool_1, ↓reduceIte, c, h0, hs]
  · have hs := ykP k hk
    rw [hop] at hs
    have c : ¬ (30 : Int32) ≤ nI j := nI_ge (b := 30) hj (by decide)
    rw [f_T_product_12L]
    simp (disch := (first | omega | assumption)) only [f_T_product_12, c, ↓reduceIte, gp_9_2, gi_7, zbs, h0, hs, zB_0, Bool.true_eq_false, znI_add1]
theorem x_sum (hF : F = 7 ∨ F = 10 ∨ F = 18 ∨ F = 21) {re rs : zSt → Nat → Int32 → Option (Int32 × zSt)} {reO : Option yFo} {w wl : Nat} (hwl : wl ≤ 7) (hU : yXS B n F t u i s (f_T_product re rs) (yfP (ytok B n) reO) w) (hW : yWf (ytok B n) n (yfP (ytok B n) reO) wl) : yXS B n F t u i s (f_T_sum re rs) (yfS (ytok B n) reO) w := by
  refine xs_C hwl hU hW (f_T_sum_12L re rs) (fun I J => by simp only [f_T_sum, zg_9]) (xs_L hF hwl hU hW _ (fun m σ => ?_) (fun m I J k j hj h0 hk hop => ?_) (fun m I J k j hj h0 hk hop => ?_) (by decide))
  · rw [f_T_sum_12L, f_T_sum_12, if_pos (by decide)]
  · have c : ¬ (30 : Int32) ≤ nI j := nI_ge (b := 30) hj (by decide)
    have e1 : ¬ nI k = 43 := by rw [show (43 : Int32) = nI 43 from rfl, zeq_nI (by omega) (by decide)]; rintro rfl; cases hop
    have e2 : ¬ nI k = 45 := by rw [show (45 : Int32) = nI 45 from rfl, zeq_nI (by omega) (by decide)]; rintro rfl; cases hop
    rw [f_T_sum_12L]
    simp (disch := (first | omega | assumption)) only [f_T_sum_12, gi_7, gp_9_2, ge30, zbs, nI_add, pk_mul, znI_add1, znI_sub1, znI_subm, zle_nI, zlt_nI, zeq_nI, zle_0, zeq_0, zlt_0, zeq_m, zeq_1, zge_0, zbt0, zbt1, zB_0, zB_1, zB_b, zbool_0, zbool_1, ↓reduceIte, c, h0, e1, e2]
  · have c : ¬ (30 : Int32) ≤ nI j := nI_ge (b := 30) hj (by decide)
    rw [f_T_sum_12L]
    have n1 : ¬ (nI 45 : Int32) = 43 := by decide
    rcases yopS_2 hop with rfl | rfl
    · simp (disch := (first | omega | assumption)) only [f_T_sum_12, f_T_sum_42, c, ↓reduceIte, gp_9_2, gi_7, zbs, h0, show nI 43 = (43 : Int32) from rfl, znI_add1]
    · simp (disch := (first | omega | assumption)) only [f_T_sum_12, f_T_sum_42, c, ↓reduceIte, gp_9_2, gi_7, zbs, h0, n1, show (nI 45 = (45 : Int32)) = True from eq_true rfl, znI_add1]
theorem x_both (hF : F = 7 ∨ F = 10 ∨ F = 18 ∨ F = 21) {re rs : zSt → Nat → Int32 → Option (Int32 × zSt)} {reO rsO : Option yFo} {w wl : Nat} (hwl : wl ≤ 7) (hU : yXS B n F t u i s (f_T_single re rs) (yf1 (ytok B n) reO rsO) w) (hW : yWf (ytok B n) n (yf1 (ytok B n) reO rsO) wl) : yXS B n F t u i s (f_T_both re rs) (yfB (ytok B n) reO rsO) w := by
  refine xs_C hwl hU hW (f_T_both_12L re rs) (fun I J => by simp only [f_T_both, zg_9]) (xs_L hF hwl hU hW _ (fun m σ => ?_) (fun m I J k j hj h0 hk hop => ?_) (fun m I J k j hj h0 hk hop => ?_) (by decide))
  · rw [f_T_both_12L, f_T_both_12, if_pos (by decide)]
  · have c : ¬ (30 : Int32) ≤ nI j := nI_ge (b := 30) hj (by decide)
    have e1 : ¬ nI k = 19 := by rw [show (19 : Int32) = nI 19 from rfl, zeq_nI (by omega) (by decide)]; rintro rfl; cases hop
    rw [f_T_both_12L]
    simp (disch := (first | omega | assumption)) only [f_T_both_12, gi_7, gp_9_2, gp_9_7, ge30, zbs, nI_add, pk_mul, znI_add1, znI_sub1, znI_subm, zle_nI, zlt_nI, zeq_nI, zle_0, zeq_0, zlt_0, zeq_m, zeq_1, zge_0, zbt0, zbt1, zB_0, zB_1, zB_b, zbool_0, zbool_1, ↓reduceIte, c, h0, e1]
  · have c : ¬ (30 : Int32) ≤ nI j := nI_ge (b := 30) hj (by decide)
    rw [f_T_both_12L]
    rcases yopA_1 hop with rfl
    simp (disch := (first | omega | assumption)) only [f_T_both_12, c, ↓reduceIte, gp_9_2, gi_7, zbs, h0, show (nI 19 = (19 : Int32)) = True from eq_true rfl, znI_add1]
theorem x_either (hF : F = 7 ∨ F = 10 ∨ F = 18 ∨ F = 21) {re rs : zSt → Nat → Int32 → Option (Int32 × zSt)} {reO rsO : Option yFo} {w wl : Nat} (hwl : wl ≤ 7) (hU : yXS B n F t u i s (f_T_both re rs) (yfB (ytok B n) reO rsO) w) (hW : yWf (ytok B n) n (yfB (ytok B n) reO rsO) wl) : yXS B n F t u i s (f_T_either re rs) (yfE (ytok B n) reO rsO) w := by
  refine xs_C hwl hU hW (f_T_either_12L re rs) (fun I J => by simp only [f_T_either, zg_9]) (xs_L hF hwl hU hW _ (fun m σ => ?_) (fun m I J k j hj h0 hk hop => ?_) (fun m I J k j hj h0 hk hop => ?_) (by decide))
  · rw [f_T_either_12L, f_T_either_12, if_pos (by decide)]
  · have c : ¬ (30 : Int32) ≤ nI j := nI_ge (b := 30) hj (by decide)
    have e1 : ¬ nI k = 18 := by rw [show (18 : Int32) = nI 18 from rfl, zeq_nI (by omega) (by decide)]; rintro rfl; cases hop
    rw [f_T_either_12L]
    simp (disch := (first | omega | assumption)) only [f_T_either_12, gi_7, gp_9_2, gp_9_7, ge30, zbs, nI_add, pk_mul, znI_add1, znI_sub1, znI_subm, zle_nI, zlt_nI, zeq_nI, zle_0, zeq_0, zlt_0, zeq_m, zeq_1, zge_0, zbt0, zbt1, zB_0, zB_1, zB_b, zbool_0, zbool_1, ↓reduceIte, c, h0, e1]
  · have c : ¬ (30 : Int32) ≤ nI j := nI_ge (b := 30) hj (by decide)
    rw [f_T_either_12L]
    rcases yopO_1 hop with rfl
    simp (disch := (first | omega | assumption)) only [f_T_either_12, c, ↓reduceIte, gp_9_2, gi_7, zbs, h0, show (nI 18 = (18 : Int32)) = True from eq_true rfl, znI_add1]
theorem x_single (hF : F = 7 ∨ F = 10 ∨ F = 18 ∨ F = 21) {re rs : zSt → Nat → Int32 → Option (Int32 × zSt)} {reO rsO : Option yFo} {w wl : Nat} (hw : w ≤ 7) (hwl : wl ≤ 7) (hS : yXS B n F t u i s (f_T_sum re rs) (yfS (ytok B n) reO) w) (hW : yWf (ytok B n) n (yfS (ytok B n) reO) wl) (hrs : match rsO with
    | none => w = 7
    | some e => w ≤ 6 ∧ yXS B n F t u i s rs e (w + 1) ∧ yWf (ytok B n) n e (wl - 1) ∧ 1 ≤ wl) : yXS B n F t u i s (f_T_single re rs) (yf1 (ytok B n) reO rsO) w := by
  intro I J A p un h hA hu
  have h0 := h.2.1.1
  have hτ := ytok_To (B := B) h.2.2.1
  have hkb := hτ.1
  have n1 : ¬ (1 : Int32) = 0 := by decide
  unfold yf1
  by_cases h20 : (ytok B n p).1 = 20
  · rw [if_pos h20]
    have e20 : nI (ytok B n p).1 = 20 := by rw [h20]; rfl
    cases rsO with
    | none =>
      have hw7 : w = 7 := hrs
      subst hw7
      refine yXR_er h.2.1 hτ ?_
      have hr := g_T_refuse (J := J) (t := t) (u := u) (i := i) (f := F) (s := s) (x := 1) h.2.1 hτ
      rw [hr]
      have n7 : ¬ (nI 7) ≤ 6 := by decide
      simp (disch := (first | omega | assumption)) only [f_T_single, zg_9, gi_7, gp_9_2, gp_9_7, le6, eq20, eq60, zbs, nI_add, pk_mul, znI_add1, znI_sub1, znI_subm, zle_nI, zlt_nI, zeq_nI, zle_0, zeq_0, zlt_0, zeq_m, zeq_1, zge_0, zbt0, zbt1, zB_0, zB_1, zB_b, zbool_0, zbool_1, ↓reduceIte, h0, e20, n7, hr]
    | some e =>
      obtain ⟨hw6, he, hWe, hwl1⟩ := hrs
      have w6 : nI w ≤ 6 := by rw [le6 (by omega)]; exact hw6
      obtain ⟨I1, J1, a1, a2, a3⟩ := x_fadv (t := t) (u := u) (i := i) (f := F) (s := s) h hF (by omega)
      have it := he I1 J1 A _ _ a3 hA hu
      simp only
      cases hx : e (ytok B n p).2.2.2.2 un with
      | error cp_ =>
        obtain ⟨c, pl⟩ := cp_
        rw [hx] at it
        obtain ⟨I2, J2, b1, b2, b3⟩ := it
        refine ⟨I2, J2, ?_, yff_trans (yff_fs a2) b2, b3⟩
        simp (disch := (first | omega | assumption)) only [f_T_single, zg_9, gi_7, gp_9_2, gp_9_7, le6, eq20, eq60, zbs, nI_add, pk_mul, znI_add1, znI_sub1, znI_subm, zle_nI, zlt_nI, zeq_nI, zle_0, zeq_0, zlt_0, zeq_m, zeq_1, zge_0, zbt0, zbt1, zB_0, zB_1, zB_b, zbool_0, zbool_1, ↓reduceIte, h0, e20, w6, a1, b1]
      | ok r =>
        rw [hx] at it
        obtain ⟨I2, J2, b1, b2, b3⟩ := it
        obtain ⟨c1, c2, c3, c4, c5⟩ := hWe _ _ _ (ytok_b h.2.2.1).2.1 hx
        have hlen : (wl - 1 + 2) * (r.2.2 - un) ≤ 8 * (r.2.2 - un) := Nat.mul_le_mul_right _ (by omega)
        have hl2 : (A ++ r.1).length < 270 := by
          rw [List.length_append]
          omega
        have d1 := g_F_add (J := J2) (t := t) (u := u) (i := i) (f := F) (s := s) (x := 1) hF b3.2.2.2.1 hl2 (-13)
        have f5 := yff_trans (yff_fs (F := F) a2) b2
        refine ⟨zup (zup I2 (F + 1) (A ++ r.1).length (-13)) F 2 (nI ((A ++ r.1).length + 1)), J2, ?_, ⟨fun a h1 h2 h3 h4 => by rw [zup_ne _ _ _ h3, zup_ne _ _ _ h4]; exact f5.1 a h1 h2 h3 h4, fun k h1 h2 h3 => by rw [zup_ne _ _ _ (by omega), zup_ne _ _ _ (by omega)]; exact f5.2.1 k h1 h2 h3, f5.2.2⟩, ⟨⟨b3.1.1, b3.1.2.1, fun k hk => by rw [zup_ne _ _ _ (by omega), zup_ne _ _ _ (by omega)]; exact b3.1.2.2 k hk⟩, ?_, b3.2.2.1, ?_, ?_⟩⟩
        · simp (disch := (first | omega | assumption)) only [f_T_single, zg_9, gi_7, gp_9_2, gp_9_7, le6, eq20, eq60, zbs, nI_add, pk_mul, znI_add1, znI_sub1, znI_subm, zle_nI, zlt_nI, zeq_nI, zle_0, zeq_0, zlt_0, zeq_m, zeq_1, zge_0, zbt0, zbt1, zB_0, zB_1, zB_b, zbool_0, zbool_1, ↓reduceIte, h0, e20, w6, a1, b1, n1, gp_9_7, d1]
        · unfold yXt
          rw [zup_ne _ _ _ (show 25 ≠ F by omega), zup_ne _ _ _ (show 25 ≠ F + 1 by omega)]
          exact b3.2.1
        · simp only
          rw [← List.append_assoc]
          exact yfm_app b3.2.2.2.1
        · rw [zup_ne _ _ _ (by omega), zup_ne _ _ _ (by omega)]; exact b3.2.2.2.2
  · rw [if_neg h20]
    have e20 : ¬ nI (ytok B n p).1 = 20 := by rw [eq20 (by omega)]; exact h20
    have it := hS I J A p un h hA hu
    cases hx : yfS (ytok B n) reO p un with
    | error cp_ =>
      obtain ⟨c, pl⟩ := cp_
      rw [hx] at it
      obtain ⟨I2, J2, b1, b2, b3⟩ := it
      refine ⟨I2, J2, ?_, b2, b3⟩
      simp (disch := (first | omega | assumption)) only [f_T_single, zg_9, gi_7, gp_9_2, gp_9_7, le6, eq20, eq60, zbs, nI_add, pk_mul, znI_add1, znI_sub1, znI_subm, zle_nI, zlt_nI, zeq_nI, zle_0, zeq_0, zlt_0, zeq_m, zeq_1, zge_0, zbt0, zbt1, zB_0, zB_1, zB_b, zbool_0, zbool_1, ↓reduceIte, h0, e20, b1]
    | ok r =>
      rw [hx] at it
      obtain ⟨I2, J2, b1, b2, b3⟩ := it
      obtain ⟨c1, c2, c3, c4, c5⟩ := hW _ _ _ h.2.2.1 hx
      have hlen : (wl + 2) * (r.2.2 - un) ≤ 9 * (r.2.2 - un) := Nat.mul_le_mul_right _ (by omega)
      have h5 := b3.2.1.1
      have hτ5 := ytok_To (B := B) b3.2.2.1
      have hkb5 := hτ5.1
      simp only
      cases hr : yopR (ytok B n r.2.1).1 with
      | false =>
        simp only [Bool.false_eq_true, if_false]
        refine ⟨I2, J2, ?_, b2, b3⟩
        have g1 : ¬ nI (ytok B n r.2.1).1 = 60 := by rw [eq60 (by omega)]; intro h; rw [h] at hr; cases hr
        have g2 : ¬ nI (ytok B n r.2.1).1 = 62 := by rw [show (62 : Int32) = nI 62 from rfl, zeq_nI (by omega) (by decide)]; intro h; rw [h] at hr; cases hr
        have g3 : ¬ nI (ytok B n r.2.1).1 = 61 := by rw [show (61 : Int32) = nI 61 from rfl, zeq_nI (by omega) (by decide)]; intro h; rw [h] at hr; cases hr
        simp (disch := (first | omega | assumption)) only [f_T_single, zg_9, gi_7, gp_9_2, gp_9_7, le6, eq20, eq60, zbs, nI_add, pk_mul, znI_add1, znI_sub1, znI_subm, zle_nI, zlt_nI, zeq_nI, zle_0, zeq_0, zlt_0, zeq_m, zeq_1, zge_0, zbt0, zbt1, zB_0, zB_1, zB_b, zbool_0, zbool_1, ↓reduceIte, h0, e20, b1, n1, h5, g1, g2, g3]
      | true =>
        simp only [if_true]
        obtain ⟨I3, J3, a1, a2, a3⟩ := x_fadv (t := t) (u := u) (i := i) (f := F) (s := s) b3 hF (fun h => by rw [h] at hr; cases hr)
        have it2 := hS I3 J3 _ _ _ a3 (by simp only [List.length_append]; omega) c2
        have h91 : f_T_single (re) (rs) (zs I J (zPt t u i F s 1)) 24 (nI w) = (f_T_single_91 re rs (zs I2 J2 (zPt t u i F s 1)) 24 (nI w) (nI (ytok B n r.2.1).1)).bind fun q => (zbool q.1).bind fun x => some (x, q.2) := by
          rcases yopR_3 hr with h | h | h
          · rw [h] at h5 ⊢
            simp (disch := (first | omega | assumption)) only [f_T_single, zg_9, gi_7, gp_9_2, gp_9_7, le6, eq20, eq60, zbs, nI_add, pk_mul, znI_add1, znI_sub1, znI_subm, zle_nI, zlt_nI, zeq_nI, zle_0, zeq_0, zlt_0, zeq_m, zeq_1, zge_0, zbt0, zbt1, zB_0, zB_1, zB_b, zbool_0, zbool_1, ↓reduceIte, h0, e20, b1, n1, h5, show (nI 60 = (60 : Int32)) = True from eq_true rfl]
          · rw [h] at h5 ⊢
            simp (disch := (first | omega | assumption)) only [f_T_single, zg_9, gi_7, gp_9_2, gp_9_7, le6, eq20, eq60, zbs, nI_add, pk_mul, znI_add1, znI_sub1, znI_subm, zle_nI, zlt_nI, zeq_nI, zle_0, zeq_0, zlt_0, zeq_m, zeq_1, zge_0, zbt0, zbt1, zB_0, zB_1, zB_b, zbool_0, zbool_1, ↓reduceIte, h0, e20, b1, n1, h5, show (nI 62 = (60 : Int32)) = False from eq_false (by decide), show (nI 62 = (62 : Int32)) = True from eq_true rfl]
          · rw [h] at h5 ⊢
            simp (disch := (first | omega | assumption)) only [f_T_single, zg_9, gi_7, gp_9_2, gp_9_7, le6, eq20, eq60, zbs, nI_add, pk_mul, znI_add1, znI_sub1, znI_subm, zle_nI, zlt_nI, zeq_nI, zle_0, zeq_0, zlt_0, zeq_m, zeq_1, zge_0, zbt0, zbt1, zB_0, zB_1, zB_b, zbool_0, zbool_1, ↓reduceIte, h0, e20, b1, n1, h5, show (nI 61 = (60 : Int32)) = False from eq_false (by decide), show (nI 61 = (62 : Int32)) = False from eq_false (by decide), show (nI 61 = (61 : Int32)) = True from eq_true rfl]
        rw [h91]
        cases hy : yfS (ytok B n) reO (ytok B n r.2.1).2.2.2.2 r.2.2 with
        | error cp_ =>
          obtain ⟨c, pl⟩ := cp_
          rw [hy] at it2
          obtain ⟨I4, J4, d1, d2, d3⟩ := it2
          refine ⟨I4, J4, ?_, yff_trans b2 (yff_trans (yff_fs a2) d2), d3⟩
          simp (disch := (first | omega | assumption)) only [f_T_single_91, gp_9_2, gp_9_7, zbs, nI_add, pk_mul, znI_add1, znI_sub1, znI_subm, zle_nI, zlt_nI, zeq_nI, zle_0, zeq_0, zlt_0, zeq_m, zeq_1, zge_0, zbt0, zbt1, zB_0, zB_1, zB_b, zbool_0, zbool_1, ↓reduceIte, a1, d1]
        | ok r2 =>
          rw [hy] at it2
          obtain ⟨I4, J4, d1, d2, d3⟩ := it2
          obtain ⟨q1, q2, q3, q4, q5⟩ := hW _ _ _ (ytok_b c4).2.1 hy
          have hlen2 : (wl + 2) * (r2.2.2 - r.2.2) ≤ 9 * (r2.2.2 - r.2.2) := Nat.mul_le_mul_right _ (by omega)
          have hl2 : (A ++ r.1 ++ r2.1).length < 270 := by
            rw [List.length_append, List.length_append]
            omega
          have g1 := g_F_add (J := J4) (t := t) (u := u) (i := i) (f := F) (s := s) (x := 1) hF d3.2.2.2.1 hl2 (-nI (ytok B n r.2.1).1)
          have f5 := yff_trans b2 (yff_trans (yff_fs (F := F) a2) d2)
          refine ⟨zup (zup I4 (F + 1) (A ++ r.1 ++ r2.1).length (-nI (ytok B n r.2.1).1)) F 2 (nI ((A ++ r.1 ++ r2.1).length + 1)), J4, ?_, ⟨fun a h1 h2 h3 h4 => by rw [zup_ne _ _ _ h3, zup_ne _ _ _ h4]; exact f5.1 a h1 h2 h3 h4, fun k h1 h2 h3 => by rw [zup_ne _ _ _ (by omega), zup_ne _ _ _ (by omega)]; exact f5.2.1 k h1 h2 h3, f5.2.2⟩, ⟨⟨d3.1.1, d3.1.2.1, fun k hk => by rw [zup_ne _ _ _ (by omega), zup_ne _ _ _ (by omega)]; exact d3.1.2.2 k hk⟩, ?_, d3.2.2.1, ?_, ?_⟩⟩
          · simp (disch := (first | omega | assumption)) only [f_T_single_91, gp_9_2, gp_9_7, zbs, nI_add, pk_mul, znI_add1, znI_sub1, znI_subm, zle_nI, zlt_nI, zeq_nI, zle_0, zeq_0, zlt_0, zeq_m, zeq_1, zge_0, zbt0, zbt1, zB_0, zB_1, zB_b, zbool_0, zbool_1, ↓reduceIte, a1, d1, n1, g1]
          · unfold yXt
            rw [zup_ne _ _ _ (show 25 ≠ F by omega), zup_ne _ _ _ (show 25 ≠ F + 1 by omega)]
            exact d3.2.1
          · simp only
            rw [← List.append_assoc, ← List.append_assoc]
            exact yfm_app d3.2.2.2.1
          · rw [zup_ne _ _ _ (by omega), zup_ne _ _ _ (by omega)]; exact d3.2.2.2.2
theorem ytok_hn (B : Nat → Nat) (n : Nat) : ∀ p, p ≤ n → (ytok B n p).2.2.2.2 ≤ n ∧ yTo (ytok B n p) := fun p hp => ⟨(ytok_b hp).2.1, ytok_To hp⟩
theorem x_tie (hF : F = 7 ∨ F = 10 ∨ F = 18 ∨ F = 21) : ∀ d, d ≤ 7 → ∀ k, d < k → yXS B n F t u i s (f_T_tie k).1 (ylv (ytok B n) d).1 (7 - d) ∧ yXS B n F t u i s (f_T_tie k).2 (ylv (ytok B n) d).2 (7 - d) := by
  have hn := ytok_hn B n
  intro d
  induction d with
  | zero =>
    intro _ k hk
    obtain ⟨m, rfl⟩ : ∃ m, k = m + 1 := ⟨k - 1, by omega⟩
    have wU : yWf (ytok B n) n (yfU (ytok B n) none) 0 := ywf_U hn (fun e h => by cases h)
    have wP : yWf (ytok B n) n (yfP (ytok B n) none) 0 := ywf_P hn (fun e h => by cases h)
    have wS : yWf (ytok B n) n (yfS (ytok B n) none) 0 := ywf_S hn (fun e h => by cases h)
    have w1 : yWf (ytok B n) n (yf1 (ytok B n) none none) 0 := ywf_1 hn (fun e h => by cases h) (fun e h => by cases h)
    have hU := x_unit (n := n) (B := B) (t := t) (u := u) (i := i) (s := s) hF (re := (f_T_tie m).1) (rs := (f_T_tie m).2) (reO := none) (w := 7) (by decide) rfl
    have hP := x_product hF (by decide) hU wU
    have hS := x_sum hF (by decide) hP wP
    have h1 := x_single (rsO := none) hF (by decide) (by decide) hS wS rfl
    have hB := x_both hF (by decide) h1 w1
    exact ⟨x_either hF (by decide) hB (ywf_B hn w1), h1⟩
  | succ d ih =>
    intro hd k hk
    obtain ⟨m, rfl⟩ : ∃ m, k = m + 1 := ⟨k - 1, by omega⟩
    have hi := ih (by omega) m (by omega)
    have e7 : 7 - d = 7 - (d + 1) + 1 := by omega
    rw [e7] at hi
    have wl := ywf_lv hn d
    have hre : ∀ e, some (ylv (ytok B n) d).1 = some e → ∃ w', d + 1 = w' + 1 ∧ yWf (ytok B n) n e w' := fun e h => by cases h; exact ⟨d, rfl, wl.1⟩
    have hrs : ∀ e, some (ylv (ytok B n) d).2 = some e → ∃ w', d + 1 = w' + 1 ∧ yWf (ytok B n) n e w' := fun e h => by cases h; exact ⟨d, rfl, wl.2⟩
    have w1 : yWf (ytok B n) n (yf1 (ytok B n) (some (ylv (ytok B n) d).1) (some (ylv (ytok B n) d).2)) (d + 1) := ywf_1 hn hre hrs
    have hU := x_unit (n := n) (B := B) (t := t) (u := u) (i := i) (s := s) hF (re := (f_T_tie m).1) (rs := (f_T_tie m).2) (reO := some (ylv (ytok B n) d).1) (w := 7 - (d + 1)) (by omega) ⟨by omega, hi.1⟩
    have hP := x_product hF hd hU (ywf_U hn hre)
    have hS := x_sum hF hd hP (ywf_P hn hre)
    have h1 := x_single (rsO := some (ylv (ytok B n) d).2) hF (by omega) hd hS (ywf_S hn hre) ⟨by omega, hi.2, wl.2, by omega⟩
    have hB := x_both hF hd h1 w1
    exact ⟨x_either hF hd hB (ywf_B hn w1), h1⟩
/-- a whole formula -/
theorem x_formula (hF : F = 7 ∨ F = 10 ∨ F = 18 ∨ F = 21) : yXS B n F t u i s f_T_tieE (ylv (ytok B n) 7).1 0 := (x_tie hF 7 (by decide) 20 (by decide)).1
end ZXf
