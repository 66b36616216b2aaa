/-! the reference's formulas: marks, signs that wait -/
def yOp (I : Nat → Nat → Int32) : List Nat → Prop
  | [] => True
  | q :: S => I 100 S.length = nI q ∧ yOp I S
def yMk (I : Nat → Nat → Int32) (F : Nat) (M : List Int32) : Prop := I 96 F = nI M.length ∧ ∀ k, k < M.length → ∃ m, M[k]? = some m ∧ zenc (I 94 (320 * F + k)) (I 95 (320 * F + k)) m
theorem yOp_row {I I' : Nat → Nat → Int32} (h : I' 100 = I 100) : ∀ S, yOp I S → yOp I' S := by
  intro S
  induction S with
  | nil => intro _; trivial
  | cons q S ih => intro hS; exact ⟨by rw [h]; exact hS.1, ih hS.2⟩
theorem yOp_up {I : Nat → Nat → Int32} {v : Int32} : ∀ (S : List Nat) (k : Nat), S.length ≤ k → yOp I S → yOp (zup I 100 k v) S := by
  intro S
  induction S with
  | nil => intro k _ _; trivial
  | cons q S ih =>
    intro k hk hS
    simp only [List.length_cons] at hk
    exact ⟨by rw [zup_k _ _ (by omega)]; exact hS.1, ih k (by omega) hS.2⟩
theorem yOp_mid {I : Nat → Nat → Int32} {q : Nat} {R : List Nat} : ∀ A, yOp I (A ++ q :: R) → I 100 R.length = nI q := by
  intro A
  induction A with
  | nil => intro h; exact h.1
  | cons a A ih => intro h; exact ih h.2
theorem yMk_rows {I I' : Nat → Nat → Int32} {F : Nat} {M : List Int32} (h : yMk I F M) (h1 : I' 96 F = I 96 F) (h2 : ∀ k, k < M.length → I' 94 (320 * F + k) = I 94 (320 * F + k) ∧ I' 95 (320 * F + k) = I 95 (320 * F + k)) : yMk I' F M := by
  refine ⟨h1.trans h.1, fun k hk => ?_⟩
  rw [(h2 k hk).1, (h2 k hk).2]
  exact h.2 k hk
/-- what a formula of the reference's may leave otherwise -/
def yFF (F : Nat) : Nat → Nat → Bool := fun a k => (a == 91 && (k == 2 || k == 3 || k == 4 || k == 6 || k == 7 || k == 8 || k == 19 || k == 20 || k == 21 || k == 23 || k == 24)) || a == 100 || ((a == 94 || a == 95) && (Nat.ble (320 * F) k && Nat.blt k (320 * F + 320))) || (a == 96 && k == F)
def yCF (F : Nat) : Nat → Nat → Bool := fun a k => (a == 91 && (k == 20 || k == 24)) || ((a == 94 || a == 95) && (Nat.ble (320 * F) k && Nat.blt k (320 * F + 320))) || (a == 96 && k == F)
theorem yCF_FF {F : Nat} : ∀ a k, yCF F a k = true → yFF F a k = true := fun a k h => by
  unfold yCF at h
  unfold yFF
  simp at h ⊢
  omega
theorem yFF_MF {F : Nat} : ∀ a k, yFF F a k = true → yMF a k = true := fun a k h => by
  unfold yFF at h
  unfold yMF
  simp at h ⊢
  omega
theorem yTm_FF {F : Nat} : ∀ a k, yTm a k = true → yFF F a k = true := fun a k h => by
  unfold yTm at h
  unfold yFF
  simp at h ⊢
  omega
theorem g_tight : ∀ q, q < 128 → f_M_tight (nI q) = some (nI (ytgt q)) := by decide +kernel
theorem ytgt_b (q : Nat) : 1 ≤ ytgt q ∧ ytgt q ≤ 6 := by
  unfold ytgt
  repeat' split
  all_goals decide
section ZF2
variable {I : Nat → Nat → Int32} {J : Nat → Nat → Int64} {t u i f s x : Nat} {B : Nat → Nat} {n p F : Nat}
theorem g_M_add {M : List Int32} {st ar v : Int32} (hF : F < 2) (h19 : I 91 19 = nI F) (hM : yMk I F M) (hm : M.length < 320) (he : zenc st ar v) : ∃ I', f_M_add (zs I J (zPt t u i f s x)) 91 st ar = some (zs I' J (zPt t u i f s x)) ∧ zfr (yCF F) I I' ∧ (∀ k, I' 91 k = I 91 k) ∧ yMk I' F (M ++ [v]) := by
  have h96 := hM.1
  have hz : ∀ a, a ≠ 94 → a ≠ 95 → zup (zup I 94 (320 * F + M.length) st) 95 (320 * F + M.length) ar a = I a := fun a h1 h2 => (zup_ne _ _ _ h2).trans (zup_ne _ _ _ h1)
  refine ⟨zup (zup (zup I 94 (320 * F + M.length) st) 95 (320 * F + M.length) ar) 96 F (nI (M.length + 1)), ?_, ?_, ?_, ?_, ?_⟩
  · have e1 : zup I 94 (320 * F + M.length) st 91 19 = nI F := by rw [zup_ne _ _ _ (by decide)]; exact h19
    have e2 : zup I 94 (320 * F + M.length) st 96 F = nI M.length := by rw [zup_ne _ _ _ (by decide)]; exact h96
    have e3 : zup (zup I 94 (320 * F + M.length) st) 95 (320 * F + M.length) ar 91 19 = nI F := by rw [hz 91 (by decide) (by decide)]; exact h19
    have e4 : zup (zup I 94 (320 * F + M.length) st) 95 (320 * F + M.length) ar 96 F = nI M.length := by rw [hz 96 (by decide) (by decide)]; exact h96
    simp (disch := (first | omega | assumption)) only [f_M_add, zg_12, gi_12, gp_12_11, gp_12_13, gp_12_12, ai_96, wi_94, wi_95, wi_96, ml320, zbs, nI_add, pk_mul, znI_add1, znI_sub1, znI_subm, zle_nI, zlt_nI, zeq_nI, zle_0, zeq_0, zlt_0, zeq_m, zeq_1, zge_0, zbt0, zbt1, zB_0, zB_1, zB_b, zbool_0, zbool_1, ↓reduceIte, h19, h96, e1, e2, e3, e4]
  · refine zfr_up (zfr_up (zfr_up (zfr_refl _ _) ?_) ?_) ?_
    · simp [yCF]; omega
    · simp [yCF]; omega
    · simp [yCF]
  · intro k
    rw [zup_ne _ _ _ (by decide), hz 91 (by decide) (by decide)]
  · rw [zup_s]; simp
  · intro k hk
    simp only [List.length_append, List.length_cons, List.length_nil] at hk
    have e94 : zup (zup (zup I 94 (320 * F + M.length) st) 95 (320 * F + M.length) ar) 96 F (nI (M.length + 1)) 94 (320 * F + k) = zup I 94 (320 * F + M.length) st 94 (320 * F + k) := by rw [zup_ne _ _ _ (by decide), zup_ne _ _ _ (by decide)]
    have e95 : zup (zup (zup I 94 (320 * F + M.length) st) 95 (320 * F + M.length) ar) 96 F (nI (M.length + 1)) 95 (320 * F + k) = zup (zup I 94 (320 * F + M.length) st) 95 (320 * F + M.length) ar 95 (320 * F + k) := by rw [zup_ne _ _ _ (by decide)]
    rw [e94, e95]
    by_cases hkl : k = M.length
    · subst hkl
      rw [zup_s, zup_s]
      exact ⟨v, by simp, he⟩
    · rw [zup_k _ _ (by omega), zup_k _ _ (by omega), zup_ne _ _ _ (by decide), List.getElem?_append_left (by omega)]
      exact hM.2 k (by omega)
/-- signs are closed -/
theorem g_M_close {l : Nat} (hl : l ≤ 6) (hF : F < 2) : ∀ (S : List Nat) (fuel : Nat) (M : List Int32) (I : Nat → Nat → Int32), S.length < fuel → S.length ≤ 100 → M.length + S.length ≤ 319 → (∀ q ∈ S, yW1 q) → I 91 19 = nI F → I 91 20 = nI S.length → I 91 24 = nI (ydp S) → yOp I S → yMk I F M →
    ∃ I', f_M_close_0L fuel (zs I J (zPt t u i f s x)) 91 (nI l) = some (zs I' J (zPt t u i f s x)) ∧ zfr (yCF F) I I' ∧ I' 91 20 = nI (ycl l S M).1.length ∧ I' 91 24 = nI (ydp (ycl l S M).1) ∧ yOp I' (ycl l S M).1 ∧ yMk I' F (ycl l S M).2 := by
  intro S
  induction S with
  | nil =>
    intro fuel M I hf _ _ _ h19 h20 h24 hO hM
    obtain ⟨m, rfl⟩ : ∃ m, fuel = m + 1 := ⟨fuel - 1, by omega⟩
    have z : I 91 20 ≤ 0 := by rw [h20]; decide
    refine ⟨I, ?_, zfr_refl _ _, h20, h24, hO, hM⟩
    rw [f_M_close_0L]
    simp (disch := (first | omega | assumption)) only [f_M_close_0, gi_12, si_12, gp_12_17, ai_100, eq20, zbs, nI_add, pk_mul, znI_add1, znI_sub1, znI_subm, zle_nI, zlt_nI, zeq_nI, zle_0, zeq_0, zlt_0, zeq_m, zeq_1, zge_0, zbt0, zbt1, zB_0, zB_1, zB_b, zbool_0, zbool_1, ↓reduceIte, z]
  | cons q S ih =>
    intro fuel M I hf h100 hML hW h19 h20 h24 hO hM
    obtain ⟨m, rfl⟩ : ∃ m, fuel = m + 1 := ⟨fuel - 1, by omega⟩
    simp only [List.length_cons] at h20 h100 hML hf
    have hq := hW q (by simp)
    have hq128 := yW1_lt hq
    have z : ¬ nI (S.length + 1) ≤ 0 := by rw [zle_0 (by omega)]; omega
    have hop := hO.1
    have htg := g_tight q hq128
    have htb := ytgt_b q
    rw [f_M_close_0L]
    unfold ycl
    by_cases h20q : q = 20
    · rw [if_pos (Or.inl h20q)]
      refine ⟨I, ?_, zfr_refl _ _, h20, h24, hO, hM⟩
      have e20 : (nI q = 20) = True := eq_true (by rw [h20q]; rfl)
      simp (disch := (first | omega | assumption)) only [f_M_close_0, gi_12, si_12, gp_12_17, ai_100, eq20, zbs, nI_add, pk_mul, znI_add1, znI_sub1, znI_subm, zle_nI, zlt_nI, zeq_nI, zle_0, zeq_0, zlt_0, zeq_m, zeq_1, zge_0, zbt0, zbt1, zB_0, zB_1, zB_b, zbool_0, zbool_1, ↓reduceIte, h20, z, hop, e20]
    · have e20 : (nI q = 20) = False := eq_false (by rw [eq20 (by omega)]; exact h20q)
      by_cases hlt : ytgt q < l
      · rw [if_pos (Or.inr hlt)]
        refine ⟨I, ?_, zfr_refl _ _, h20, h24, hO, hM⟩
        simp (disch := (first | omega | assumption)) only [f_M_close_0, gi_12, si_12, gp_12_17, ai_100, eq20, zbs, nI_add, pk_mul, znI_add1, znI_sub1, znI_subm, zle_nI, zlt_nI, zeq_nI, zle_0, zeq_0, zlt_0, zeq_m, zeq_1, zge_0, zbt0, zbt1, zB_0, zB_1, zB_b, zbool_0, zbool_1, ↓reduceIte, h20, z, hop, e20, htg, hlt]
      · rw [if_neg (by rintro (h | h); exact h20q h; exact hlt h)]
        -- one sign less
        have k19 : zup I 91 20 (nI S.length) 91 19 = nI F := by rw [zup_k _ _ (by decide)]; exact h19
        have k20 : zup I 91 20 (nI S.length) 91 20 = nI S.length := zup_s _ _ _ _
        have kM : yMk (zup I 91 20 (nI S.length)) F M := yMk_rows hM (by rw [zup_ne _ _ _ (by decide)]) (fun k _ => by rw [zup_ne _ _ _ (by decide), zup_ne _ _ _ (by decide)]; exact ⟨rfl, rfl⟩)
        have kop : zup I 91 20 (nI S.length) 100 S.length = nI q := by rw [zup_ne _ _ _ (by decide)]; exact hop
        have f1 : zfr (yCF F) I (zup I 91 20 (nI S.length)) := zfr_up (zfr_refl _ _) rfl
        by_cases h21 : q = 21
        · have e21 : (nI q = 21) = True := eq_true (by rw [h21]; rfl)
          have ed : ydp (q :: S) = ydp S + 1 := by rw [h21]; rfl
          obtain ⟨I2, a1, a2, a3, a4⟩ := g_M_add (J := J) (t := t) (u := u) (i := i) (f := f) (s := s) (x := x) hF k19 kM (by omega) (show zenc 2 0 (-13) from Or.inr (Or.inr (Or.inl ⟨rfl, rfl⟩)))
          have k24 : I2 91 24 = nI (ydp S + 1) := by rw [a3, zup_k _ _ (by decide), ← ed]; exact h24
          have f2 : zfr (yCF F) I (zup I2 91 24 (nI (ydp S))) := zfr_up (zfr_trans f1 a2) rfl
          have em : ymkc q = -13 := by rw [h21]; rfl
          obtain ⟨I3, b1, b2, b3, b4, b5, b6⟩ := ih m (M ++ [ymkc q]) (zup I2 91 24 (nI (ydp S))) (by omega) (by omega) (by simp; omega) (fun r hr => hW r (by simp [hr])) (by rw [zup_k _ _ (by decide), a3]; exact k19) (by rw [zup_k _ _ (by decide), a3]; exact k20) (zup_s _ _ _ _) (yOp_row (by rw [zup_ne _ _ _ (by decide)]; exact (zfr_row a2 100 (fun k => by simp [yCF])).trans (zup_ne _ _ _ (by decide))) S hO.2) (by
            rw [em]
            exact yMk_rows a4 (by rw [zup_ne _ _ _ (by decide)]) (fun k _ => by rw [zup_ne _ _ _ (by decide), zup_ne _ _ _ (by decide)]; exact ⟨rfl, rfl⟩))
          refine ⟨I3, ?_, zfr_trans f2 b2, b3, b4, b5, b6⟩
          rw [← b1]
          simp (disch := (first | omega | assumption)) only [f_M_close_0, gi_12, si_12, gp_12_17, ai_100, eq20, zbs, nI_add, pk_mul, znI_add1, znI_sub1, znI_subm, zle_nI, zlt_nI, zeq_nI, zle_0, zeq_0, zlt_0, zeq_m, zeq_1, zge_0, zbt0, zbt1, zB_0, zB_1, zB_b, zbool_0, zbool_1, ↓reduceIte, h20, z, hop, e20, htg, hlt, k20, kop, e21, a1, k24]
        · have e21 : (nI q = 21) = False := eq_false (by rw [show (21 : Int32) = nI 21 from rfl, zeq_nI (by omega) (by decide)]; exact h21)
          have ed : ydp (q :: S) = ydp S := if_neg (by rintro (h | h); exact h20q h; exact h21 h)
          have hsg : q ∈ ysg := by
            rcases hq with h | h | h
            · exact absurd h h20q
            · exact absurd h h21
            · exact h
          obtain ⟨I2, a1, a2, a3, a4⟩ := g_M_add (J := J) (t := t) (u := u) (i := i) (f := f) (s := s) (x := x) hF k19 kM (by omega) (ysg_b q hsg).2.2.2
          obtain ⟨I3, b1, b2, b3, b4, b5, b6⟩ := ih m (M ++ [ymkc q]) I2 (by omega) (by omega) (by simp; omega) (fun r hr => hW r (by simp [hr])) (by rw [a3]; exact k19) (by rw [a3]; exact k20) (by rw [a3, zup_k _ _ (by decide), h24, ed]) (yOp_row ((zfr_row a2 100 (fun k => by simp [yCF])).trans (zup_ne _ _ _ (by decide))) S hO.2) a4
          refine ⟨I3, ?_, zfr_trans f1 (zfr_trans a2 b2), b3, b4, b5, b6⟩
          rw [← b1]
          simp (disch := (first | omega | assumption)) only [f_M_close_0, gi_12, si_12, gp_12_17, ai_100, eq20, zbs, nI_add, pk_mul, znI_add1, znI_sub1, znI_subm, zle_nI, zlt_nI, zeq_nI, zle_0, zeq_0, zlt_0, zeq_m, zeq_1, zge_0, zbt0, zbt1, zB_0, zB_1, zB_b, zbool_0, zbool_1, ↓reduceIte, h20, z, hop, e20, htg, hlt, k20, kop, e21, a1]
theorem g_M_hasRelation {S : List Nat} (h20 : I 91 20 = nI S.length) (hl : S.length ≤ 100) (hW : ∀ q ∈ S, yW1 q) (hO : yOp I S) : f_M_hasRelation (zs I J (zPt t u i f s x)) 91 = some (zB (yhr S)) := by
  have m41 : ∀ v : Int32, v < 0 → f_M_hasRelation_41 (zs I J (zPt t u i f s x)) 91 v = some 0 := fun v hv => by
    simp (disch := (first | omega | assumption)) only [f_M_hasRelation_41, gp_12_17, ai_100, eq4, eq20, zbs, nI_add, pk_mul, znI_add1, znI_sub1, znI_subm, zle_nI, zlt_nI, zeq_nI, zle_0, zeq_0, zlt_0, zeq_m, zeq_1, zge_0, zbt0, zbt1, zB_0, zB_1, zB_b, zbool_0, zbool_1, ↓reduceIte, hv]
  have loop : ∀ (S : List Nat) (fuel : Nat), S.length < fuel → S.length ≤ 100 → (∀ q ∈ S, yW1 q) → yOp I S → f_M_hasRelation_7L fuel (zs I J (zPt t u i f s x)) 91 (nI S.length - 1) = some (zB (yhr S)) := by
    intro S
    induction S with
    | nil =>
      intro fuel hf _ _ _
      obtain ⟨m, rfl⟩ : ∃ m, fuel = m + 1 := ⟨fuel - 1, by omega⟩
      have hv : (nI ([] : List Nat).length - 1 : Int32) < 0 := by decide
      rw [f_M_hasRelation_7L]
      simp (disch := (first | omega | assumption)) only [f_M_hasRelation_7, gp_12_17, ai_100, le4, eq20, zbs, nI_add, pk_mul, znI_add1, znI_sub1, znI_subm, zle_nI, zlt_nI, zeq_nI, zle_0, zeq_0, zlt_0, zeq_m, zeq_1, zge_0, zbt0, zbt1, zB_0, zB_1, zB_b, zbool_0, zbool_1, ↓reduceIte, hv, m41]
      rfl
    | cons q S ih =>
      intro fuel hf h100 hW hO
      obtain ⟨m, rfl⟩ : ∃ m, fuel = m + 1 := ⟨fuel - 1, by omega⟩
      simp only [List.length_cons] at h100 hf
      have hq128 := yW1_lt (hW q (by simp))
      have hop := hO.1
      have htg := g_tight q hq128
      have htb := ytgt_b q
      have ih2 := ih m (by omega) (by omega) (fun r hr => hW r (by simp [hr])) hO.2
      have e1 : nI (q :: S).length - 1 = nI S.length := znI_sub1 S.length
      have em : nI S.length + (-1) = nI S.length - 1 := by rw [Int32.sub_eq_add_neg]
      rw [f_M_hasRelation_7L, e1]
      unfold yhr
      by_cases h20q : q = 20
      · rw [if_pos h20q]
        have e20 : (nI q = 20) = True := eq_true (by rw [h20q]; rfl)
        simp (disch := (first | omega | assumption)) only [f_M_hasRelation_7, f_M_hasRelation_41, gp_12_17, ai_100, le4, eq20, eq4, zbs, nI_add, pk_mul, znI_add1, znI_sub1, znI_subm, zle_nI, zlt_nI, zeq_nI, zle_0, zeq_0, zlt_0, zeq_m, zeq_1, zge_0, zbt0, zbt1, zB_0, zB_1, zB_b, zbool_0, zbool_1, ↓reduceIte, hop, e20]
        rfl
      · have e20 : (nI q = 20) = False := eq_false (by rw [eq20 (by omega)]; exact h20q)
        rw [if_neg h20q]
        by_cases hle : ytgt q ≤ 4
        · rw [if_pos hle]
          by_cases h4 : ytgt q = 4
          · rw [decide_eq_true h4]
            simp (disch := (first | omega | assumption)) only [f_M_hasRelation_7, f_M_hasRelation_41, gp_12_17, ai_100, le4, eq20, eq4, zbs, nI_add, pk_mul, znI_add1, znI_sub1, znI_subm, zle_nI, zlt_nI, zeq_nI, zle_0, zeq_0, zlt_0, zeq_m, zeq_1, zge_0, zbt0, zbt1, zB_0, zB_1, zB_b, zbool_0, zbool_1, ↓reduceIte, hop, e20, htg, hle, h4, eq4, le4, Nat.le_refl]
            rfl
          · rw [decide_eq_false h4]
            simp (disch := (first | omega | assumption)) only [f_M_hasRelation_7, f_M_hasRelation_41, gp_12_17, ai_100, le4, eq20, eq4, zbs, nI_add, pk_mul, znI_add1, znI_sub1, znI_subm, zle_nI, zlt_nI, zeq_nI, zle_0, zeq_0, zlt_0, zeq_m, zeq_1, zge_0, zbt0, zbt1, zB_0, zB_1, zB_b, zbool_0, zbool_1, ↓reduceIte, hop, e20, htg, hle, h4, eq4, le4]
            rfl
        · rw [if_neg hle, ← ih2]
          simp (disch := (first | omega | assumption)) only [f_M_hasRelation_7, gp_12_17, ai_100, le4, eq20, hop, e20, htg, hle, em, zbs, le4, zlt_0, ↓reduceIte]
  have := loop S zfu (zfu_lt (by omega)) hl hW hO
  simp (disch := (first | omega | assumption)) only [f_M_hasRelation, zg_12, gi_12, zbs, nI_add, pk_mul, znI_add1, znI_sub1, znI_subm, zle_nI, zlt_nI, zeq_nI, zle_0, zeq_0, zlt_0, zeq_m, zeq_1, zge_0, zbt0, zbt1, zB_0, zB_1, zB_b, zbool_0, zbool_1, ↓reduceIte, h20, this]
theorem g_M_mayNot {S : List Nat} (h20 : I 91 20 = nI S.length) (hl : S.length ≤ 100) (hW : ∀ q ∈ S, yW1 q) (hO : yOp I S) : f_M_mayNot (zs I J (zPt t u i f s x)) 91 = some (zB (ymn S)) := by
  cases S with
  | nil =>
    have e : I 91 20 = 0 := h20
    simp (disch := (first | omega | assumption)) only [f_M_mayNot, zg_12, gi_12, gp_12_17, ai_100, ge4, eq20, zbs, nI_add, pk_mul, znI_add1, znI_sub1, znI_subm, zle_nI, zlt_nI, zeq_nI, zle_0, zeq_0, zlt_0, zeq_m, zeq_1, zge_0, zbt0, zbt1, zB_0, zB_1, zB_b, zbool_0, zbool_1, ↓reduceIte, e]
    rfl
  | cons q S =>
    simp only [List.length_cons] at h20 hl
    have hq128 := yW1_lt (hW q (by simp))
    have hop := hO.1
    have htg := g_tight q hq128
    have htb := ytgt_b q
    have z : ¬ S.length + 1 = 0 := by omega
    unfold ymn
    by_cases h20q : q = 20
    · have e20 : (nI q = 20) = True := eq_true (by rw [h20q]; rfl)
      simp (disch := (first | omega | assumption)) only [f_M_mayNot, zg_12, gi_12, gp_12_17, ai_100, ge4, eq20, zbs, nI_add, pk_mul, znI_add1, znI_sub1, znI_subm, zle_nI, zlt_nI, zeq_nI, zle_0, zeq_0, zlt_0, zeq_m, zeq_1, zge_0, zbt0, zbt1, zB_0, zB_1, zB_b, zbool_0, zbool_1, ↓reduceIte, h20, z, hop, e20]
      rw [h20q]
      rfl
    · have e20 : (nI q = 20) = False := eq_false (by rw [eq20 (by omega)]; exact h20q)
      have hb : (q == 20) = false := by simpa using h20q
      show f_M_mayNot (zs I J (zPt t u i f s x)) 91 = some (zB (q == 20 || decide (ytgt q < 4)))
      rw [hb, Bool.false_or]
      by_cases h4 : ytgt q < 4
      · have h4' : ¬ 4 ≤ ytgt q := by omega
        rw [decide_eq_true h4]
        simp (disch := (first | omega | assumption)) only [f_M_mayNot, zg_12, gi_12, gp_12_17, ai_100, ge4, eq20, zbs, nI_add, pk_mul, znI_add1, znI_sub1, znI_subm, zle_nI, zlt_nI, zeq_nI, zle_0, zeq_0, zlt_0, zeq_m, zeq_1, zge_0, zbt0, zbt1, zB_0, zB_1, zB_b, zbool_0, zbool_1, ↓reduceIte, h20, z, hop, e20, htg, ge4, h4']
        rfl
      · have h4' : 4 ≤ ytgt q := by omega
        rw [decide_eq_false h4]
        simp (disch := (first | omega | assumption)) only [f_M_mayNot, zg_12, gi_12, gp_12_17, ai_100, ge4, eq20, zbs, nI_add, pk_mul, znI_add1, znI_sub1, znI_subm, zle_nI, zlt_nI, zeq_nI, zle_0, zeq_0, zlt_0, zeq_m, zeq_1, zge_0, zbt0, zbt1, zB_0, zB_1, zB_b, zbool_0, zbool_1, ↓reduceIte, h20, z, hop, e20, htg, ge4, h4']
        rfl
theorem g_M_hasBracket {S : List Nat} (h20 : I 91 20 = nI S.length) (hl : S.length ≤ 100) (hW : ∀ q ∈ S, yW1 q) (hO : yOp I S) : f_M_hasBracket (zs I J (zPt t u i f s x)) 91 = some (zB (decide (20 ∈ S))) := by
  have n1 : ¬ (1 : Int32) = 0 := by decide
  have loop : ∀ (d fuel : Nat) (A R : List Nat), A.length = d → S = A ++ R → d < fuel → f_M_hasBracket_4L fuel (zs I J (zPt t u i f s x)) 91 (zB (decide (20 ∈ R))) (nI R.length) = some (zB (decide (20 ∈ S))) := by
    intro d
    induction d with
    | zero =>
      intro fuel A R hA hS hf
      obtain ⟨m, rfl⟩ : ∃ m, fuel = m + 1 := ⟨fuel - 1, by omega⟩
      have hA : A = [] := List.eq_nil_of_length_eq_zero hA
      subst hA
      obtain rfl : S = R := hS
      rw [f_M_hasBracket_4L]
      simp (disch := (first | omega | assumption)) only [f_M_hasBracket_4, gi_12, gp_12_17, ai_100, eq20, zbs, nI_add, pk_mul, znI_add1, znI_sub1, znI_subm, zle_nI, zlt_nI, zeq_nI, zle_0, zeq_0, zlt_0, zeq_m, zeq_1, zge_0, zbt0, zbt1, zB_0, zB_1, zB_b, zbool_0, zbool_1, ↓reduceIte, h20, Nat.le_refl]
    | succ d ih =>
      intro fuel A R hA hS hf
      obtain ⟨m, rfl⟩ : ∃ m, fuel = m + 1 := ⟨fuel - 1, by omega⟩
      rcases List.eq_nil_or_concat A with rfl | ⟨A', a, rfl⟩
      · cases hA
      · rw [List.concat_eq_append] at hA hS
        have hS2 : S = A' ++ a :: R := by rw [hS]; simp
        have hlen : S.length = d + 1 + R.length := by rw [hS, List.length_append, hA]
        have hR : ¬ S.length ≤ R.length := by omega
        have hop : I 100 R.length = nI a := yOp_mid A' (by rw [← hS2]; exact hO)
        have ha128 := yW1_lt (hW a (by rw [hS2]; simp))
        have ih2 := ih m A' (a :: R) (by simp at hA; exact hA) hS2 (by omega)
        rw [f_M_hasBracket_4L, ← ih2]
        by_cases hr : 20 ∈ R
        · rw [decide_eq_true hr, decide_eq_true (show 20 ∈ a :: R by simp [hr])]
          simp (disch := (first | omega | assumption)) only [f_M_hasBracket_4, gi_12, gp_12_17, ai_100, eq20, zbs, nI_add, pk_mul, znI_add1, znI_sub1, znI_subm, zle_nI, zlt_nI, zeq_nI, zle_0, zeq_0, zlt_0, zeq_m, zeq_1, zge_0, zbt0, zbt1, zB_0, zB_1, zB_b, zbool_0, zbool_1, ↓reduceIte, h20, hR, Bool.true_eq_false, List.length_cons]
          rfl
        · rw [decide_eq_false hr]
          by_cases ha : a = 20
          · have e20 : (nI a = 20) = True := eq_true (by rw [ha]; rfl)
            rw [decide_eq_true (show 20 ∈ a :: R by simp [ha])]
            simp (disch := (first | omega | assumption)) only [f_M_hasBracket_4, gi_12, gp_12_17, ai_100, eq20, zbs, nI_add, pk_mul, znI_add1, znI_sub1, znI_subm, zle_nI, zlt_nI, zeq_nI, zle_0, zeq_0, zlt_0, zeq_m, zeq_1, zge_0, zbt0, zbt1, zB_0, zB_1, zB_b, zbool_0, zbool_1, ↓reduceIte, h20, hR, hop, e20, List.length_cons]
            rfl
          · have e20 : (nI a = 20) = False := eq_false (by rw [eq20 (by omega)]; exact ha)
            rw [decide_eq_false (show ¬ 20 ∈ a :: R by simp [hr]; exact fun h => ha h.symm)]
            simp (disch := (first | omega | assumption)) only [f_M_hasBracket_4, gi_12, gp_12_17, ai_100, eq20, zbs, nI_add, pk_mul, znI_add1, znI_sub1, znI_subm, zle_nI, zlt_nI, zeq_nI, zle_0, zeq_0, zlt_0, zeq_m, zeq_1, zge_0, zbt0, zbt1, zB_0, zB_1, zB_b, zbool_0, zbool_1, ↓reduceIte, h20, hR, hop, e20, List.length_cons]
            rfl
  have := loop S.length zfu S [] rfl (by simp) (zfu_lt (by omega))
  have : f_M_hasBracket_4L zfu (zs I J (zPt t u i f s x)) 91 0 0 = some (zB (decide (20 ∈ S))) := this
  simp (disch := (first | omega | assumption)) only [f_M_hasBracket, zg_12, zbs, nI_add, pk_mul, znI_add1, znI_sub1, znI_subm, zle_nI, zlt_nI, zeq_nI, zle_0, zeq_0, zlt_0, zeq_m, zeq_1, zge_0, zbt0, zbt1, zB_0, zB_1, zB_b, zbool_0, zbool_1, ↓reduceIte, this]
theorem g_M_isFull {un0 un : Nat} (h21 : I 91 21 = nI (un0 + un)) (h23 : I 91 23 = nI un) (h0 : un0 ≤ 30) (hu : un ≤ 30) : f_M_isFull (zs I J (zPt t u i f s x)) 91 = some (zB (decide (un = 30))) := by
  by_cases h : un = 30
  · rw [decide_eq_true h]
    have e30 : un = 30 := h
    by_cases h6 : un0 + un = 60
    · simp (disch := (first | omega | assumption)) only [f_M_isFull, zg_12, gi_12, eq30, eq60, zbs, nI_add, pk_mul, znI_add1, znI_sub1, znI_subm, zle_nI, zlt_nI, zeq_nI, zle_0, zeq_0, zlt_0, zeq_m, zeq_1, zge_0, zbt0, zbt1, zB_0, zB_1, zB_b, zbool_0, zbool_1, ↓reduceIte, h21, h6]
      rfl
    · have h23' : I 91 23 = 30 := by rw [h23, h]; rfl
      simp (disch := (first | omega | assumption)) only [f_M_isFull, zg_12, gi_12, eq30, eq60, zbs, nI_add, pk_mul, znI_add1, znI_sub1, znI_subm, zle_nI, zlt_nI, zeq_nI, zle_0, zeq_0, zlt_0, zeq_m, zeq_1, zge_0, zbt0, zbt1, zB_0, zB_1, zB_b, zbool_0, zbool_1, ↓reduceIte, h21, h6, h23']
      rfl
  · rw [decide_eq_false h]
    have h6 : ¬ un0 + un = 60 := by omega
    simp (disch := (first | omega | assumption)) only [f_M_isFull, zg_12, gi_12, eq30, eq60, zbs, nI_add, pk_mul, znI_add1, znI_sub1, znI_subm, zle_nI, zlt_nI, zeq_nI, zle_0, zeq_0, zlt_0, zeq_m, zeq_1, zge_0, zbt0, zbt1, zB_0, zB_1, zB_b, zbool_0, zbool_1, ↓reduceIte, h21, h6, h23, h]
    rfl
theorem g_M_countUnit {a b : Nat} (h21 : I 91 21 = nI a) (h23 : I 91 23 = nI b) : f_M_countUnit (zs I J (zPt t u i f s x)) 91 = some (zs (zup (zup I 91 21 (nI (a + 1))) 91 23 (nI (b + 1))) J (zPt t u i f s x)) := by
  have e : zup I 91 21 (nI (a + 1)) 91 23 = nI b := by rw [zup_k _ _ (by decide)]; exact h23
  simp (disch := (first | omega | assumption)) only [f_M_countUnit, zg_12, gi_12, si_12, zbs, nI_add, pk_mul, znI_add1, znI_sub1, znI_subm, zle_nI, zlt_nI, zeq_nI, zle_0, zeq_0, zlt_0, zeq_m, zeq_1, zge_0, zbt0, zbt1, zB_0, zB_1, zB_b, zbool_0, zbool_1, ↓reduceIte, h21, e]
theorem ycmp {τ : yTk} (hm : yMt I J n τ) (hτ : yTo τ) (h1 : 3 ≤ τ.1 ∧ τ.1 ≤ 26) {k : Nat} (hk : k < 23) {c : Int64} (hc : c = nJ (ybs 256 (yWL.getD k []))) : (lg_cmp (J 91 9) c = 0) = (τ.1 = 4 + k) := by
  have hw := hτ.2.2 h1.1 h1.2
  have hj := hm.2.2.2.1 h1.1 h1.2
  have hkl : yLt (yWL.getD k []) := by
    have := yWL_lt (yWL.getD k []) (by
      rw [List.getD_eq_getElem?_getD, List.getElem?_eq_getElem hk]
      exact List.getElem_mem hk)
    exact this
  rw [hj, hc, zlg_eq, yenc_inj hw.2 hkl, hw.1]
  exact propext (ywk_iff hk).symm
theorem g_M_asked (h : yMq I J B n p) : f_M_asked (zs I J (zPt t u i f s x)) 91 = some (if 21 ≤ (ytok B n p).1 ∧ (ytok B n p).1 ≤ 26 then nI ((ytok B n p).1 - 21) else -1) := by
  have hτ := ytok_To (B := B) h.2.2
  have hb := yso_lt hτ.1
  by_cases h1 : 3 ≤ (ytok B n p).1 ∧ (ytok B n p).1 ≤ 26
  · have h6 : I 91 6 = 1 := by rw [h.2.1.1, (yso_1 _).mpr h1]; rfl
    have c17 := ycmp h.2.1 hτ h1 (k := 17) (by decide) (c := 2002873972) (by decide)
    have c18 := ycmp h.2.1 hτ h1 (k := 18) (by decide) (c := 478711081076) (by decide)
    have c19 := ycmp h.2.1 hτ h1 (k := 19) (by decide) (c := 7302244) (by decide)
    have c20 := ycmp h.2.1 hτ h1 (k := 20) (by decide) (c := 131277443786868) (by decide)
    have c21 := ycmp h.2.1 hτ h1 (k := 21) (by decide) (c := 491327153267) (by decide)
    have c22 := ycmp h.2.1 hτ h1 (k := 22) (by decide) (c := 121450625394034) (by decide)
    generalize (ytok B n p).1 = K at *
    rw [f_M_asked, zg_12, gi_12, zbs, h6, if_pos rfl, gj_12, zbs, zbs, zbs, zbs, zbs, zbs]
    simp only [c17, c18, c19, c20, c21, c22]
    by_cases k17 : K = 4 + 17
    · rw [if_pos k17, if_pos (by omega), k17]; rfl
    rw [if_neg k17]
    by_cases k18 : K = 4 + 18
    · rw [if_pos k18, if_pos (by omega), k18]; rfl
    rw [if_neg k18]
    by_cases k19 : K = 4 + 19
    · rw [if_pos k19, if_pos (by omega), k19]; rfl
    rw [if_neg k19]
    by_cases k20 : K = 4 + 20
    · rw [if_pos k20, if_pos (by omega), k20]; rfl
    rw [if_neg k20]
    by_cases k21 : K = 4 + 21
    · rw [if_pos k21, if_pos (by omega), k21]; rfl
    rw [if_neg k21]
    by_cases k22 : K = 4 + 22
    · rw [if_pos k22, if_pos (by omega), k22]; rfl
    rw [if_neg k22, if_neg (by omega)]
  · have h6 : ¬ I 91 6 = 1 := by
      rw [h.2.1.1, zeq_1 (by omega), yso_1]
      exact h1
    rw [if_neg (by omega), f_M_asked, zg_12, gi_12, zbs, if_neg h6]
theorem g_M_sign (h : yMq I J B n p) : f_M_sign (zs I J (zPt t u i f s x)) 91 = some (nI (ysc (ytok B n p).1)) := by
  have hτ := ytok_To (B := B) h.2.2
  have w15 := g_M_isWord (J := J) (t := t) (u := u) (i := i) (f := f) (s := s) (x := x) h.2.1 hτ (k := 15) (by decide) (c := 6385252) (by decide)
  have w14 := g_M_isWord (J := J) (t := t) (u := u) (i := i) (f := f) (s := s) (x := x) h.2.1 hτ (k := 14) (by decide) (c := 28530) (by decide)
  have sg : ∀ c : Nat, 27 ≤ c → c ≤ 62 → (I 91 6 = nI c) = ((ytok B n p).1 = c) := fun c h1 h2 => yso_s h h1 h2
  have s60 : (I 91 6 = 60) = _ := sg 60 (by decide) (by decide)
  have s62 : (I 91 6 = 62) = _ := sg 62 (by decide) (by decide)
  have s61 : (I 91 6 = 61) = _ := sg 61 (by decide) (by decide)
  have s43 : (I 91 6 = 43) = _ := sg 43 (by decide) (by decide)
  have s45 : (I 91 6 = 45) = _ := sg 45 (by decide) (by decide)
  have s42 : (I 91 6 = 42) = _ := sg 42 (by decide) (by decide)
  have s47 : (I 91 6 = 47) = _ := sg 47 (by decide) (by decide)
  have s37 : (I 91 6 = 37) = _ := sg 37 (by decide) (by decide)
  have h6 := h.2.1.1
  generalize (ytok B n p).1 = K at *
  unfold ysc
  rw [f_M_sign, zg_12, w15, zbs]
  by_cases h19 : K = 19
  · rw [decide_eq_true (show K = 4 + 15 from h19), if_neg (by decide), if_pos h19]
    rfl
  rw [decide_eq_false (show ¬ K = 4 + 15 from h19), if_pos (show zB false = 0 from rfl), w14, zbs, if_neg h19]
  by_cases h18 : K = 18
  · rw [decide_eq_true (show K = 4 + 14 from h18), if_neg (by decide), if_pos h18]
    rfl
  rw [decide_eq_false (show ¬ K = 4 + 14 from h18), if_pos (show zB false = 0 from rfl), if_neg h18, gi_12]
  simp only [zbs, s60, s62, s61, s43, s45, s42, s47, s37]
  have fin : ∀ c, 27 ≤ c → c ≤ 62 → K = c → I 91 6 = nI K := fun c h1 h2 h3 => by rw [h3, sg c h1 h2]; exact h3
  by_cases k1 : K = 60
  · rw [if_pos k1, if_pos (by omega), fin 60 (by decide) (by decide) k1]
  rw [if_neg k1]
  by_cases k2 : K = 62
  · rw [if_pos k2, if_pos (by omega), fin 62 (by decide) (by decide) k2]
  rw [if_neg k2]
  by_cases k3 : K = 61
  · rw [if_pos k3, if_pos (by omega), fin 61 (by decide) (by decide) k3]
  rw [if_neg k3]
  by_cases k4 : K = 43
  · rw [if_pos k4, if_pos (by omega), fin 43 (by decide) (by decide) k4]
  rw [if_neg k4]
  by_cases k5 : K = 45
  · rw [if_pos k5, if_pos (by omega), fin 45 (by decide) (by decide) k5]
  rw [if_neg k5]
  by_cases k6 : K = 42
  · rw [if_pos k6, if_pos (by omega), fin 42 (by decide) (by decide) k6]
  rw [if_neg k6]
  by_cases k7 : K = 47
  · rw [if_pos k7, if_pos (by omega), fin 47 (by decide) (by decide) k7]
  rw [if_neg k7]
  by_cases k8 : K = 37
  · rw [if_pos k8, if_pos (by omega), fin 37 (by decide) (by decide) k8]
  rw [if_neg k8, if_neg (by omega)]
  rfl
end ZF2
