/-! the reference's formulas: step by step -/
/-- the other formula's marks; no FAULT has a place -/
def yOt (I : Nat → Nat → Int32) (F : Nat) : Prop := (∃ m, m ≤ 300 ∧ I 96 (1 - F) = nI m) ∧ I 91 3 = -1
def yMR (I : Nat → Nat → Int32) (J : Nat → Nat → Int64) (B : Nat → Nat) (n F un0 : Nat) (s : yMc) : Prop := yMq I J B n s.2.1 ∧ I 91 2 = 0 ∧ (I 91 19 = nI F ∧ I 91 20 = nI s.2.2.1.length ∧ I 91 24 = nI (ydp s.2.2.1) ∧ I 91 23 = nI s.2.2.2.2 ∧ I 91 21 = nI (un0 + s.2.2.2.2)) ∧ yOp I s.2.2.1 ∧ yMk I F s.2.2.2.1 ∧ yMi s ∧ yOt I F
theorem yMR_Bm {I : Nat → Nat → Int32} {J : Nat → Nat → Int64} {B : Nat → Nat} {n F un0 : Nat} {s : yMc} (hF : F < 2) (h : yMR I J B n F un0 s) : yBm I := by
  obtain ⟨h1, h2, h3, h4, h5, h6, h7⟩ := h
  intro f hf
  by_cases e : f = F
  · rw [e]
    exact ⟨_, by have := (yMi_b h6).2; omega, h5.1⟩
  · rw [show f = 1 - F by omega]
    exact h7.1
theorem zs_inj {I I' : Nat → Nat → Int32} {J J' : Nat → Nat → Int64} {P : Nat → Nat → Option Nat} (h : zs I J P = zs I' J' P) : I = I' ∧ J = J' := by
  unfold zs at h
  simp only [Prod.mk.injEq] at h
  exact ⟨h.2.1, h.2.2.1⟩
theorem yEM_more {P : Nat → Nat → Option Nat} {I I1 I2 : Nat → Nat → Int32} {J J1 : Nat → Nat → Int64} {c pl : Nat} (h : yEM P I J (zs I1 J1 P) c pl) (hf : zfr yMF I1 I2) (h2 : I2 91 2 = I1 91 2) (h3 : I2 91 3 = I1 91 3) (h96 : I2 96 = I1 96) : yEM P I J (zs I2 J1 P) c pl := by
  obtain ⟨I', J', e1, e2, e3, e4, e5⟩ := h
  obtain ⟨rfl, rfl⟩ := zs_inj e1
  refine ⟨I2, J1, rfl, yfM_trans e2 ⟨hf, fun _ _ _ => rfl⟩, ⟨h2.trans e3.1, h3.trans e3.2⟩, e4, fun f hf => by rw [h96]; exact e5 f hf⟩
section ZF3
variable {I : Nat → Nat → Int32} {J : Nat → Nat → Int64} {t u i f s x : Nat} {B : Nat → Nat} {n F un0 : Nat} {ms : yMc}
theorem sk_unit1 {m : Nat} (h : ¬ I 91 2 = 0) (h' : ¬ I 91 2 ≤ 0) : f_M_unit_2L (m + 1) (zs I J (zPt t u i f s x)) 91 1 = some (zs I J (zPt t u i f s x)) := by
  rw [f_M_unit_2L, f_M_unit_2, if_neg (by decide), gi_12, zbs, if_neg h, f_M_unit_101, gi_12, zbs, if_neg h']
theorem sk_form {m : Nat} (h : ¬ I 91 2 = 0) : f_M_formula_40L (m + 1) (zs I J (zPt t u i f s x)) 91 1 = some (zs I J (zPt t u i f s x)) := by
  rw [f_M_formula_40L, f_M_formula_40, if_neg (by decide), gi_12, zbs, if_neg h, f_M_formula_167, gi_12, zbs, if_neg h, f_M_formula_186, gi_12, zbs, if_neg h]
/-- a sign is laid open -/
theorem g_openUp {a d : Nat} {w : Int32} (h20 : I 91 20 = nI a) (ha : a < 160) (h24 : I 91 24 = nI d) : f_M_openUp (zs I J (zPt t u i f s x)) 91 w = if I 91 2 = 0 then f_M_token (zs (zup (zup (zup I 100 a w) 91 20 (nI (a + 1))) 91 24 (nI (d + 1))) J (zPt t u i f s x)) 91 else some (zs (zup (zup (zup I 100 a w) 91 20 (nI (a + 1))) 91 24 (nI (d + 1))) J (zPt t u i f s x)) := by
  have e1 : zup I 100 a w 91 20 = nI a := by rw [zup_ne _ _ _ (by decide)]; exact h20
  have e2 : zup (zup I 100 a w) 91 20 (nI (a + 1)) 91 24 = nI d := by rw [zup_k _ _ (by decide), zup_ne _ _ _ (by decide)]; exact h24
  have e3 : zup (zup (zup I 100 a w) 91 20 (nI (a + 1))) 91 24 (nI (d + 1)) 91 2 = I 91 2 := by rw [zup_k _ _ (by decide), zup_k _ _ (by decide), zup_ne _ _ _ (by decide)]
  rw [f_M_openUp, zg_12, gp_12_17, zbs, gi_12, zbs, h20, wi_100 ha, zbs, gi_12, zbs, e1, znI_add1, si_12, zbs, gi_12, zbs, e2, znI_add1, si_12, zbs, gi_12, zbs, e3]
  split
  · cases f_M_token (zs (zup (zup (zup I 100 a w) 91 20 (nI (a + 1))) 91 24 (nI (d + 1))) J (zPt t u i f s x)) 91 <;> rfl
  · rfl
theorem yMq_op {a d : Nat} {w : Int32} {p : Nat} (h : yMq I J B n p) : yMq (zup (zup (zup I 100 a w) 91 20 (nI (a + 1))) 91 24 (nI (d + 1))) J B n p := yMq_fr h (by rw [zup_ne _ _ _ (by decide), zup_ne _ _ _ (by decide), zup_ne _ _ _ (by decide)]) (fun k h1 h2 => by rw [zup_k _ _ (by omega), zup_k _ _ (by omega), zup_ne _ _ _ (by decide)]) rfl
/-- behind a sign laid open, and the next token -/
theorem m_open {q p' : Nat} {S : List Nat} {M : List Int32} {un : Nat} {nd : Bool} (hF : F < 2) (hq : yMq I J B n p') (h1 : ¬ (ytok B n p').1 = 1) (h0 : I 91 2 = 0) (h19 : I 91 19 = nI F) (h20 : I 91 20 = nI S.length) (h24 : I 91 24 = nI (ydp S)) (h23 : I 91 23 = nI un) (h21 : I 91 21 = nI (un0 + un)) (hO : yOp I S) (hM : yMk I F M) (h96 : yOt I F) (hq2 : q = 20 ∨ q = 21) (hl : S.length < 160) (hi : yMi (nd, (ytok B n p').2.2.2.2, q :: S, M, un)) : ∃ I' J', f_M_openUp (zs I J (zPt t u i f s x)) 91 (nI q) = some (zs I' J' (zPt t u i f s x)) ∧ zfr (yFF F) I I' ∧ (∀ a, a ≠ 91 → J' a = J a) ∧ yMR I' J' B n F un0 (nd, (ytok B n p').2.2.2.2, q :: S, M, un) := by
  have ho := g_openUp (J := J) (t := t) (u := u) (i := i) (f := f) (s := s) (x := x) (w := nI q) h20 hl h24
  rw [if_pos h0] at ho
  obtain ⟨I', J', e1, e2, e3⟩ := m_tok (t := t) (u := u) (i := i) (f := f) (s := s) (x := x) (yMq_op (a := S.length) (d := ydp S) (w := nI q) hq) h1
  have hz : ∀ k, k ≠ 20 → k ≠ 24 → k ≠ 4 → k ≠ 6 → k ≠ 7 → k ≠ 8 → I' 91 k = I 91 k := fun k g1 g2 g3 g4 g5 g6 => by
    rw [e2.1 91 k (by simp [yTm, g3, g4, g5, g6]), zup_k _ _ g2, zup_k _ _ g1, zup_ne _ _ _ (by decide)]
  have hr : ∀ a, a ≠ 91 → a ≠ 100 → I' a = I a := fun a g1 g2 => by
    rw [zfr_row e2.1 a (fun k => by simp [yTm, g1]), zup_ne _ _ _ g1, zup_ne _ _ _ g1, zup_ne _ _ _ g2]
  have ed : ydp (q :: S) = ydp S + 1 := if_pos hq2
  refine ⟨I', J', ho.trans e1, zfr_trans (zfr_up (zfr_up (zfr_up (zfr_refl _ _) ?_) ?_) ?_) (zfr_mono e2.1 yTm_FF), e2.2, e3, ?_, ⟨?_, ?_, ?_, ?_, ?_⟩, ⟨?_, ?_⟩, ?_, hi, ?_⟩
  · simp [yFF]
  · simp [yFF]
  · simp [yFF]
  · rw [hz 2 (by decide) (by decide) (by decide) (by decide) (by decide) (by decide)]; exact h0
  · rw [hz 19 (by decide) (by decide) (by decide) (by decide) (by decide) (by decide)]; exact h19
  · rw [e2.1 91 20 rfl, zup_k _ _ (by decide), zup_s]; rfl
  · show I' 91 24 = nI (ydp (q :: S))
    rw [ed, e2.1 91 24 rfl, zup_s]
  · rw [hz 23 (by decide) (by decide) (by decide) (by decide) (by decide) (by decide)]; exact h23
  · rw [hz 21 (by decide) (by decide) (by decide) (by decide) (by decide) (by decide)]; exact h21
  · rw [e2.1 100 S.length rfl, zup_ne _ _ _ (by decide), zup_ne _ _ _ (by decide), zup_s]
  · refine yOp_row (I := zup I 100 S.length (nI q)) ?_ S (yOp_up S _ (Nat.le_refl _) hO)
    rw [zfr_row e2.1 100 (fun _ => rfl), zup_ne _ _ _ (by decide), zup_ne _ _ _ (by decide)]
  · exact yMk_rows hM (by rw [hr 96 (by decide) (by decide)]) (fun k _ => by rw [hr 94 (by decide) (by decide), hr 95 (by decide) (by decide)]; exact ⟨rfl, rfl⟩)
  · exact ⟨by rw [hr 96 (by decide) (by decide)]; exact h96.1, (hz 3 (by decide) (by decide) (by decide) (by decide) (by decide) (by decide)).trans h96.2⟩
/-- a unit is laid, and the next token -/
theorem m_push {S : List Nat} {M : List Int32} {un p' : Nat} {st ar v : Int32} (hF : F < 2) (hq : yMq I J B n p') (h1 : ¬ (ytok B n p').1 = 1) (h0 : I 91 2 = 0) (h19 : I 91 19 = nI F) (h20 : I 91 20 = nI S.length) (h24 : I 91 24 = nI (ydp S)) (h23 : I 91 23 = nI un) (h21 : I 91 21 = nI (un0 + un)) (hO : yOp I S) (hM : yMk I F M) (h96 : yOt I F) (hl : M.length < 320) (he : zenc st ar v) (hi : yMi (false, (ytok B n p').2.2.2.2, S, M ++ [v], un + 1)) : ∃ I' J', f_M_unit_172 (zs (zup (zup I 91 21 (nI (un0 + un + 1))) 91 23 (nI (un + 1))) J (zPt t u i f s x)) 91 ar st 91 = some (zs I' J' (zPt t u i f s x)) ∧ zfr (yFF F) I I' ∧ (∀ a, a ≠ 91 → J' a = J a) ∧ yMR I' J' B n F un0 (false, (ytok B n p').2.2.2.2, S, M ++ [v], un + 1) := by
  have hz0 : ∀ k, k ≠ 21 → k ≠ 23 → zup (zup I 91 21 (nI (un0 + un + 1))) 91 23 (nI (un + 1)) 91 k = I 91 k := fun k g1 g2 => (zup_k _ _ g2).trans (zup_k _ _ g1)
  have hr0 : ∀ a, a ≠ 91 → zup (zup I 91 21 (nI (un0 + un + 1))) 91 23 (nI (un + 1)) a = I a := fun a g => (zup_ne _ _ _ g).trans (zup_ne _ _ _ g)
  obtain ⟨I1, a1, a2, a3, a4⟩ := g_M_add (I := zup (zup I 91 21 (nI (un0 + un + 1))) 91 23 (nI (un + 1))) (J := J) (t := t) (u := u) (i := i) (f := f) (s := s) (x := x) hF (by rw [hz0 19 (by decide) (by decide)]; exact h19) (yMk_rows hM (by rw [hr0 96 (by decide)]) (fun k _ => by rw [hr0 94 (by decide), hr0 95 (by decide)]; exact ⟨rfl, rfl⟩)) hl he
  have hq1 : yMq I1 J B n p' := yMq_fr hq (by rw [zfr_row a2 92 (fun k => by simp [yCF]), hr0 92 (by decide)]) (fun k g1 g2 => by rw [a3 k, hz0 k (by omega) (by omega)]) rfl
  obtain ⟨I', J', e1, e2, e3⟩ := m_tok (t := t) (u := u) (i := i) (f := f) (s := s) (x := x) hq1 h1
  have hz : ∀ k, k ≠ 4 → k ≠ 6 → k ≠ 7 → k ≠ 8 → I' 91 k = zup (zup I 91 21 (nI (un0 + un + 1))) 91 23 (nI (un + 1)) 91 k := fun k g3 g4 g5 g6 => by
    rw [e2.1 91 k (by simp [yTm, g3, g4, g5, g6]), a3 k]
  have hr : ∀ a, a ≠ 91 → I' a = I1 a := fun a g1 => zfr_row e2.1 a (fun k => by simp [yTm, g1])
  refine ⟨I', J', ?_, zfr_trans (zfr_up (zfr_up (zfr_refl _ _) ?_) ?_) (zfr_trans (zfr_mono a2 yCF_FF) (zfr_mono e2.1 yTm_FF)), e2.2, e3, ?_, ⟨?_, ?_, ?_, ?_, ?_⟩, ?_, ?_, hi, ?_⟩
  · rw [f_M_unit_172, a1, zbs, e1, zbs]
  · simp [yFF]
  · simp [yFF]
  · rw [hz 2 (by decide) (by decide) (by decide) (by decide), hz0 2 (by decide) (by decide)]; exact h0
  · rw [hz 19 (by decide) (by decide) (by decide) (by decide), hz0 19 (by decide) (by decide)]; exact h19
  · rw [hz 20 (by decide) (by decide) (by decide) (by decide), hz0 20 (by decide) (by decide)]; exact h20
  · rw [hz 24 (by decide) (by decide) (by decide) (by decide), hz0 24 (by decide) (by decide)]; exact h24
  · rw [hz 23 (by decide) (by decide) (by decide) (by decide), zup_s]
  · rw [hz 21 (by decide) (by decide) (by decide) (by decide), zup_k _ _ (by decide), zup_s]
    rfl
  · exact yOp_row (by rw [hr 100 (by decide), zfr_row a2 100 (fun k => by simp [yCF]), hr0 100 (by decide)]) S hO
  · exact yMk_rows a4 (by rw [hr 96 (by decide)]) (fun k _ => by rw [hr 94 (by decide), hr 95 (by decide)]; exact ⟨rfl, rfl⟩)
  · exact ⟨by rw [hr 96 (by decide), a2 96 (1 - F) (by simp [yCF]; omega), hr0 96 (by decide)]; exact h96.1, by rw [hz 3 (by decide) (by decide) (by decide) (by decide), hz0 3 (by decide) (by decide)]; exact h96.2⟩
end ZF3
