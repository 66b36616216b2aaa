/-! the reference reads a text: tokens taken -/
def yMF : Nat → Nat → Bool := fun a k => (a == 91 && (k == 2 || k == 3 || k == 4 || k == 6 || k == 7 || k == 8 || k == 19 || k == 20 || k == 21 || k == 23 || k == 24)) || a == 94 || a == 95 || a == 96 || a == 100
def yfM (I : Nat → Nat → Int32) (J : Nat → Nat → Int64) (I' : Nat → Nat → Int32) (J' : Nat → Nat → Int64) : Prop := zfr yMF I I' ∧ (∀ a, a ≠ 91 → a ≠ 93 → J' a = J a)
theorem yfM_refl (I : Nat → Nat → Int32) (J : Nat → Nat → Int64) : yfM I J I J := ⟨zfr_refl _ _, fun _ _ _ => rfl⟩
theorem yfM_trans {I I' I'' : Nat → Nat → Int32} {J J' J'' : Nat → Nat → Int64} (h : yfM I J I' J') (h2 : yfM I' J' I'' J'') : yfM I J I'' J'' := ⟨zfr_trans h.1 h2.1, fun a h1 h3 => (h2.2 a h1 h3).trans (h.2 a h1 h3)⟩
theorem yfM_up {I I' : Nat → Nat → Int32} {J J' : Nat → Nat → Int64} {a k : Nat} {v : Int32} (h : yfM I J I' J') (hk : yMF a k = true) : yfM I J (zup I' a k v) J' := ⟨zfr_up h.1 hk, h.2⟩
theorem yfM_J {I I' : Nat → Nat → Int32} {J J' : Nat → Nat → Int64} {k : Nat} {v : Int64} (h : yfM I J I' J') : yfM I J I' (zup J' 93 k v) := ⟨h.1, fun a h1 h2 => (zup_ne _ _ _ h2).trans (h.2 a h1 h2)⟩
theorem yTm_MF : ∀ a k, yTm a k = true → yMF a k = true := fun a k h => by
  unfold yTm at h
  simp at h
  obtain ⟨rfl, h⟩ := h
  rcases h with ((rfl | rfl) | rfl) | rfl <;> rfl
theorem yfM_fm {I I' : Nat → Nat → Int32} {J J' : Nat → Nat → Int64} (h : yfm I J I' J') : yfM I J I' J' := ⟨zfr_mono h.1 yTm_MF, fun a h1 _ => h.2 a h1⟩
def yMq (I : Nat → Nat → Int32) (J : Nat → Nat → Int64) (B : Nat → Nat) (n p : Nat) : Prop := yTq I B n ∧ yMt I J n (ytok B n p) ∧ p ≤ n
def yBm (I : Nat → Nat → Int32) : Prop := ∀ f, f < 2 → ∃ m, m ≤ 300 ∧ I 96 f = nI m
theorem yBm_fm {I I' : Nat → Nat → Int32} {J J' : Nat → Nat → Int64} (h : yBm I) (hf : yfm I J I' J') : yBm I' := fun f hf2 => by
  rw [zfr_row hf.1 96 (fun _ => rfl)]; exact h f hf2
theorem ync : ∀ c, c ≤ 5 → 0 < c → ¬ nI c = 0 ∧ ¬ nI c ≤ 0 := by decide
def yEM (P : Nat → Nat → Option Nat) (I : Nat → Nat → Int32) (J : Nat → Nat → Int64) (σ : zSt) (c pl : Nat) : Prop := ∃ I' J', σ = zs I' J' P ∧ yfM I J I' J' ∧ yFt c pl I' ∧ (c ≤ 5 ∧ 0 < c) ∧ yBm I'
section ZM1
variable {I : Nat → Nat → Int32} {J : Nat → Nat → Int64} {t u i f s x : Nat} {B : Nat → Nat} {n p : Nat} {P : Nat → Nat → Option Nat}
theorem yEM_fr {I' : Nat → Nat → Int32} {J' : Nat → Nat → Int64} {σ : zSt} {c pl : Nat} (hf : yfM I J I' J') (h : yEM P I' J' σ c pl) : yEM P I J σ c pl := by
  obtain ⟨I2, J2, e1, e2, e3⟩ := h
  exact ⟨I2, J2, e1, yfM_trans hf e2, e3⟩
theorem yEM_bl {c : Nat} (pl : Nat) (hB : yBm I) (hc : c ≤ 5 ∧ 0 < c) : yEM P I J (zs (zup (zup I 91 2 (nI c)) 91 3 (nI pl)) J P) c pl := ⟨_, _, rfl, yfM_up (yfM_up (yfM_refl _ _) rfl) rfl, ⟨(zup_k _ _ (by decide)).trans (zup_s _ _ _ _), zup_s _ _ _ _⟩, hc, fun f hf => by
  rw [zup_ne _ _ _ (by decide), zup_ne _ _ _ (by decide)]; exact hB f hf⟩
theorem yMq_fr {I' : Nat → Nat → Int32} {J' : Nat → Nat → Int64} (h : yMq I J B n p) (h1 : I' 92 = I 92) (h2 : ∀ k, 4 ≤ k → k ≤ 8 → I' 91 k = I 91 k) (h3 : J' 91 9 = J 91 9) : yMq I' J' B n p := by
  refine ⟨⟨h.1.1, h.1.2.1, fun k hk => by rw [h1]; exact h.1.2.2 k hk⟩, ?_, h.2.2⟩
  unfold yMt
  rw [h2 4 (by decide) (by decide), h2 5 (by decide) (by decide), h2 6 (by decide) (by decide), h2 7 (by decide) (by decide), h2 8 (by decide) (by decide), h3]
  exact h.2.1
theorem m_tok (h : yMq I J B n p) (h1 : ¬ (ytok B n p).1 = 1) : ∃ I' J', f_M_token (zs I J (zPt t u i f s x)) 91 = some (zs I' J' (zPt t u i f s x)) ∧ yfm I J I' J' ∧ yMq I' J' B n (ytok B n p).2.2.2.2 := by
  obtain ⟨hT, hX, hp⟩ := h
  obtain ⟨I', J', e1, e2, e3⟩ := m_token (J := J) (t := t) (u := u) (i := i) (f := f) (s := s) (x := x) hT ⟨hX.2.2.2.2.2, hX.2.2.2.2.1 h1⟩ (ytok_b hp).2.1
  exact ⟨I', J', e1, e2, yTq_fm hT e2, e3, (ytok_b hp).2.1⟩
theorem m_ref {α : Type} (h : yMq I J B n p) (h0 : I 91 2 = 0) (hB : yBm I) : ∃ I' c pl, f_M_wrong (zs I J (zPt t u i f s x)) 91 2 = some (zs I' J (zPt t u i f s x)) ∧ (yer (ytok B n p) : yRs α) = .error (c, pl) ∧ yEM (zPt t u i f s x) I J (zs I' J (zPt t u i f s x)) c pl ∧ (¬ I' 91 2 = 0 ∧ ¬ I' 91 2 ≤ 0) := by
  have hc : (if (ytok B n p).1 = 1 then 1 else 2) ≤ 5 ∧ 0 < (if (ytok B n p).1 = 1 then 1 else 2) := by split <;> decide
  refine ⟨_, _, _, g_M_wrong h.2.1 (ytok_To h.2.2) h0 2, rfl, yEM_bl _ hB hc, ?_⟩
  rw [zup_k _ _ (by decide), zup_s]
  exact ync _ hc.1 hc.2
theorem m_err {c : Nat} (h : yMq I J B n p) (h0 : I 91 2 = 0) (hB : yBm I) (h1 : ¬ (ytok B n p).1 = 1) (hc : c ≤ 5 ∧ 0 < c) : ∃ I', f_M_wrong (zs I J (zPt t u i f s x)) 91 (nI c) = some (zs I' J (zPt t u i f s x)) ∧ yEM (zPt t u i f s x) I J (zs I' J (zPt t u i f s x)) c (ytok B n p).2.1 ∧ (¬ I' 91 2 = 0 ∧ ¬ I' 91 2 ≤ 0) := by
  have g := g_M_wrong (J := J) (t := t) (u := u) (i := i) (f := f) (s := s) (x := x) h.2.1 (ytok_To h.2.2) h0 c
  rw [if_neg h1] at g
  refine ⟨_, g, yEM_bl _ hB hc, ?_⟩
  rw [zup_k _ _ (by decide), zup_s]
  exact ync _ hc.1 hc.2
theorem yso2 (h : yMq I J B n p) : (I 91 6 = 2) = ((ytok B n p).1 = 2) := by
  have hb := yso_lt (ytok_To (B := B) h.2.2).1
  rw [h.2.1.1, eq2 (by omega), yso_2]
/-- a sign's byte -/
theorem yso_s (h : yMq I J B n p) {c : Nat} (hc : 27 ≤ c) (hc2 : c ≤ 62) : (I 91 6 = nI c) = ((ytok B n p).1 = c) := by
  have hb := yso_lt (ytok_To (B := B) h.2.2).1
  rw [h.2.1.1, zeq_nI (by omega) (by omega), yso_eq hc]
theorem m_tak {k : Nat} {c : Int64} (hk : k < 23) (hc : c = nJ (ybs 256 (yWL.getD k []))) (h : yMq I J B n p) (h0 : I 91 2 = 0) (hB : yBm I) : match ytake (ytok B n) (4 + k) p with
    | .error (e, pl) => ∃ I' J', f_M_want (zs I J (zPt t u i f s x)) 91 c = some (zs I' J' (zPt t u i f s x)) ∧ yEM (zPt t u i f s x) I J (zs I' J' (zPt t u i f s x)) e pl ∧ (¬ I' 91 2 = 0 ∧ ¬ I' 91 2 ≤ 0)
    | .ok p' => ∃ I' J', f_M_want (zs I J (zPt t u i f s x)) 91 c = some (zs I' J' (zPt t u i f s x)) ∧ yfm I J I' J' ∧ yMq I' J' B n p' := by
  have w := g_M_isWord (J := J) (t := t) (u := u) (i := i) (f := f) (s := s) (x := x) h.2.1 (ytok_To h.2.2) hk hc
  have l0 : I 91 2 ≤ 0 := by rw [h0]; decide
  unfold ytake
  by_cases hq : (ytok B n p).1 = 4 + k
  · rw [if_pos hq]
    rw [decide_eq_true hq] at w
    obtain ⟨I', J', e1, e2, e3⟩ := m_tok (t := t) (u := u) (i := i) (f := f) (s := s) (x := x) h (by omega)
    refine ⟨I', J', ?_, e2, e3⟩
    simp (disch := (first | omega | assumption)) only [f_M_want, zg_12, gi_12, zbs, nI_add, pk_mul, znI_add1, znI_sub1, znI_subm, zle_nI, zlt_nI, zeq_nI, zle_0, zeq_0, zlt_0, zeq_m, zeq_1, zge_0, zbt0, zbt1, zB_0, zB_1, zB_b, zbool_0, zbool_1, ↓reduceIte, l0, Int32.le_refl, w, e1, Bool.true_eq_false]
  · rw [if_neg hq]
    rw [decide_eq_false hq] at w
    obtain ⟨I', c, pl, e1, e2, e3, e4⟩ := m_ref (α := Nat) (t := t) (u := u) (i := i) (f := f) (s := s) (x := x) h h0 hB
    rw [e2]
    refine ⟨I', J, ?_, e3, e4⟩
    simp (disch := (first | omega | assumption)) only [f_M_want, zg_12, gi_12, zbs, nI_add, pk_mul, znI_add1, znI_sub1, znI_subm, zle_nI, zlt_nI, zeq_nI, zle_0, zeq_0, zlt_0, zeq_m, zeq_1, zge_0, zbt0, zbt1, zB_0, zB_1, zB_b, zbool_0, zbool_1, ↓reduceIte, l0, Int32.le_refl, w, e1]
theorem sk_want {c : Int64} (h : ¬ I 91 2 ≤ 0) : f_M_want (zs I J (zPt t u i f s x)) 91 c = some (zs I J (zPt t u i f s x)) := by
  simp (disch := (first | omega | assumption)) only [f_M_want, zg_12, gi_12, zbs, nI_add, pk_mul, znI_add1, znI_sub1, znI_subm, zle_nI, zlt_nI, zeq_nI, zle_0, zeq_0, zlt_0, zeq_m, zeq_1, zge_0, zbt0, zbt1, zB_0, zB_1, zB_b, zbool_0, zbool_1, ↓reduceIte, h]
theorem sk_num {a b : Int32} (h : ¬ I 91 2 ≤ 0) : f_M_toldNumber (zs I J (zPt t u i f s x)) 91 a b = some (0, (zs I J (zPt t u i f s x))) := by
  simp (disch := (first | omega | assumption)) only [f_M_toldNumber, zg_12, gi_12, eq2, zbs, nI_add, pk_mul, znI_add1, znI_sub1, znI_subm, zle_nI, zlt_nI, zeq_nI, zle_0, zeq_0, zlt_0, zeq_m, zeq_1, zge_0, zbt0, zbt1, zB_0, zB_1, zB_b, zbool_0, zbool_1, ↓reduceIte, h]
theorem sk_sgd (h : ¬ I 91 2 ≤ 0) : f_M_signed (zs I J (zPt t u i f s x)) 91 = some (0, (zs I J (zPt t u i f s x))) := by
  simp (disch := (first | omega | assumption)) only [f_M_signed, zg_12, gi_12, zbs, nI_add, pk_mul, znI_add1, znI_sub1, znI_subm, zle_nI, zlt_nI, zeq_nI, zle_0, zeq_0, zlt_0, zeq_m, zeq_1, zge_0, zbt0, zbt1, zB_0, zB_1, zB_b, zbool_0, zbool_1, ↓reduceIte, h]
theorem sk_top {a : Int32} (h : ¬ I 91 2 ≤ 0) : f_M_topic (zs I J (zPt t u i f s x)) 91 a = some (0, (zs I J (zPt t u i f s x))) := by
  simp (disch := (first | omega | assumption)) only [f_M_topic, zg_12, gi_12, zbs, nI_add, pk_mul, znI_add1, znI_sub1, znI_subm, zle_nI, zlt_nI, zeq_nI, zle_0, zeq_0, zlt_0, zeq_m, zeq_1, zge_0, zbt0, zbt1, zB_0, zB_1, zB_b, zbool_0, zbool_1, ↓reduceIte, h]
theorem m_num {lo hi : Nat} (hlo : lo ≤ 100) (hhi : hi ≤ 100) (h : yMq I J B n p) (h0 : I 91 2 = 0) (hB : yBm I) : match ynum (ytok B n) lo hi p with
    | .error (c, pl) => ∃ v I' J', f_M_toldNumber (zs I J (zPt t u i f s x)) 91 (nI lo) (nI hi) = some (v, (zs I' J' (zPt t u i f s x))) ∧ yEM (zPt t u i f s x) I J (zs I' J' (zPt t u i f s x)) c pl ∧ (¬ I' 91 2 = 0 ∧ ¬ I' 91 2 ≤ 0)
    | .ok a => ∃ I' J', f_M_toldNumber (zs I J (zPt t u i f s x)) 91 (nI lo) (nI hi) = some (nI a.1, (zs I' J' (zPt t u i f s x))) ∧ yfm I J I' J' ∧ yMq I' J' B n a.2 := by
  have l0 : I 91 2 ≤ 0 := by rw [h0]; decide
  have hτ := ytok_To (B := B) h.2.2
  have h2 := yso2 h
  unfold ynum
  by_cases hq : (ytok B n p).1 = 2
  · rw [if_pos hq]
    have hnu := hτ.2.1 hq
    have h8 := h.2.1.2.2.1 hq
    by_cases hr : (ytok B n p).2.2.1 < lo ∨ hi < (ytok B n p).2.2.1
    · rw [if_pos hr]
      obtain ⟨I', e1, e2, e3⟩ := m_err (t := t) (u := u) (i := i) (f := f) (s := s) (x := x) (c := 4) h h0 hB (by omega) (by decide)
      have e1 : f_M_wrong (zs I J (zPt t u i f s x)) 91 4 = some (zs I' J (zPt t u i f s x)) := e1
      refine ⟨I' 91 8, I', J, ?_, e2, e3⟩
      by_cases h1 : (ytok B n p).2.2.1 < lo
      · simp (disch := (first | omega | assumption)) only [f_M_toldNumber, f_M_toldNumber_41, f_M_toldNumber_46, zg_12, gi_12, eq2, zbs, nI_add, pk_mul, znI_add1, znI_sub1, znI_subm, zle_nI, zlt_nI, zeq_nI, zle_0, zeq_0, zlt_0, zeq_m, zeq_1, zge_0, zbt0, zbt1, zB_0, zB_1, zB_b, zbool_0, zbool_1, ↓reduceIte, l0, Int32.le_refl, h2, hq, h8, h1, e1, e3.1]
      · have h3 : ¬ (ytok B n p).2.2.1 ≤ hi := by omega
        simp (disch := (first | omega | assumption)) only [f_M_toldNumber, f_M_toldNumber_41, f_M_toldNumber_46, zg_12, gi_12, eq2, zbs, nI_add, pk_mul, znI_add1, znI_sub1, znI_subm, zle_nI, zlt_nI, zeq_nI, zle_0, zeq_0, zlt_0, zeq_m, zeq_1, zge_0, zbt0, zbt1, zB_0, zB_1, zB_b, zbool_0, zbool_1, ↓reduceIte, l0, Int32.le_refl, h2, hq, h8, h1, h3, e1, e3.1]
    · rw [if_neg hr]
      have h1 : ¬ (ytok B n p).2.2.1 < lo := by omega
      have h3 : (ytok B n p).2.2.1 ≤ hi := by omega
      obtain ⟨I', J', e1, e2, e3⟩ := m_tok (t := t) (u := u) (i := i) (f := f) (s := s) (x := x) h (by omega)
      refine ⟨I', J', ?_, e2, e3⟩
      simp (disch := (first | omega | assumption)) only [f_M_toldNumber, f_M_toldNumber_46, zg_12, gi_12, eq2, zbs, nI_add, pk_mul, znI_add1, znI_sub1, znI_subm, zle_nI, zlt_nI, zeq_nI, zle_0, zeq_0, zlt_0, zeq_m, zeq_1, zge_0, zbt0, zbt1, zB_0, zB_1, zB_b, zbool_0, zbool_1, ↓reduceIte, l0, Int32.le_refl, h2, hq, h8, h1, h3, h0, e1]
  · rw [if_neg hq]
    obtain ⟨I', c, pl, e1, e2, e3, e4⟩ := m_ref (α := Nat × Nat) (t := t) (u := u) (i := i) (f := f) (s := s) (x := x) h h0 hB
    rw [e2]
    refine ⟨I' 91 8, I', J, ?_, e3, e4⟩
    simp (disch := (first | omega | assumption)) only [f_M_toldNumber, f_M_toldNumber_46, zg_12, gi_12, eq2, zbs, nI_add, pk_mul, znI_add1, znI_sub1, znI_subm, zle_nI, zlt_nI, zeq_nI, zle_0, zeq_0, zlt_0, zeq_m, zeq_1, zge_0, zbt0, zbt1, zB_0, zB_1, zB_b, zbool_0, zbool_1, ↓reduceIte, l0, Int32.le_refl, h2, hq, e1, e4.1]
theorem g_M_wrongAt {c pl : Int32} (h0 : I 91 2 = 0) : f_M_wrongAt (zs I J (zPt t u i f s x)) 91 c pl = some (zs (zup (zup I 91 2 c) 91 3 pl) J (zPt t u i f s x)) := by
  have l0 : I 91 2 ≤ 0 := by rw [h0]; decide
  simp (disch := (first | omega | assumption)) only [f_M_wrongAt, zg_12, gi_12, si_12, zbs, nI_add, pk_mul, znI_add1, znI_sub1, znI_subm, zle_nI, zlt_nI, zeq_nI, zle_0, zeq_0, zlt_0, zeq_m, zeq_1, zge_0, zbt0, zbt1, zB_0, zB_1, zB_b, zbool_0, zbool_1, ↓reduceIte, l0]
theorem m_sgd2 {bl : Bool} {fr : Nat} (h : yMq I J B n p) (h0 : I 91 2 = 0) (hB : yBm I) : match ysgd2 (ytok B n) bl fr p with
    | .error (c, pl) => ∃ v I' J', f_M_signed_37 (zs I J (zPt t u i f s x)) 91 (nI fr) (zB bl) = some (v, (zs I' J' (zPt t u i f s x))) ∧ yEM (zPt t u i f s x) I J (zs I' J' (zPt t u i f s x)) c pl ∧ (¬ I' 91 2 = 0 ∧ ¬ I' 91 2 ≤ 0)
    | .ok a => ∃ I' J', f_M_signed_37 (zs I J (zPt t u i f s x)) 91 (nI fr) (zB bl) = some (a.1, (zs I' J' (zPt t u i f s x))) ∧ yfm I J I' J' ∧ yMq I' J' B n a.2 := by
  have hτ := ytok_To (B := B) h.2.2
  have h2 := yso2 h
  -- behind a fault
  have fin : ∀ I', ¬ I' 91 2 = 0 → ∃ v, f_M_signed_68 (zs I' J (zPt t u i f s x)) 91 (zB bl) = some (v, (zs I' J (zPt t u i f s x))) := fun I' h' => by
    cases bl with
    | true => exact ⟨-I' 91 8, by simp (disch := (first | omega | assumption)) only [f_M_signed_68, f_M_signed_84, gi_12, zbs, nI_add, pk_mul, znI_add1, znI_sub1, znI_subm, zle_nI, zlt_nI, zeq_nI, zle_0, zeq_0, zlt_0, zeq_m, zeq_1, zge_0, zbt0, zbt1, zB_0, zB_1, zB_b, zbool_0, zbool_1, ↓reduceIte, h', Bool.true_eq_false]⟩
    | false => exact ⟨I' 91 8, by simp (disch := (first | omega | assumption)) only [f_M_signed_68, f_M_signed_84, gi_12, zbs, nI_add, pk_mul, znI_add1, znI_sub1, znI_subm, zle_nI, zlt_nI, zeq_nI, zle_0, zeq_0, zlt_0, zeq_m, zeq_1, zge_0, zbt0, zbt1, zB_0, zB_1, zB_b, zbool_0, zbool_1, ↓reduceIte, h']⟩
  unfold ysgd2
  by_cases hq : (ytok B n p).1 = 2
  · rw [if_pos hq]
    have hnu := hτ.2.1 hq
    have h8 := h.2.1.2.2.1 hq
    by_cases hr : 9 < (ytok B n p).2.2.1
    · rw [if_pos hr]
      have h3 : ¬ (ytok B n p).2.2.1 ≤ 9 := by omega
      have e1 : f_M_wrongAt (zs I J (zPt t u i f s x)) 91 4 (nI fr) = some (zs (zup (zup I 91 2 (nI 4)) 91 3 (nI fr)) J (zPt t u i f s x)) := g_M_wrongAt h0
      have e3 : ¬ (zup (zup I 91 2 (nI 4)) 91 3 (nI fr)) 91 2 = 0 ∧ ¬ (zup (zup I 91 2 (nI 4)) 91 3 (nI fr)) 91 2 ≤ 0 := by
        rw [zup_k _ _ (by decide), zup_s]
        decide
      obtain ⟨v, e4⟩ := fin _ e3.1
      refine ⟨v, _, J, ?_, yEM_bl (c := 4) fr hB (by decide), e3⟩
      rw [← e4]
      simp (disch := (first | omega | assumption)) only [f_M_signed_37, gi_12, eq2, le9, zbs, nI_add, pk_mul, znI_add1, znI_sub1, znI_subm, zle_nI, zlt_nI, zeq_nI, zle_0, zeq_0, zlt_0, zeq_m, zeq_1, zge_0, zbt0, zbt1, zB_0, zB_1, zB_b, zbool_0, zbool_1, ↓reduceIte, h2, hq, h8, h3, e1]
    · rw [if_neg hr]
      have h3 : (ytok B n p).2.2.1 ≤ 9 := by omega
      obtain ⟨I', J', e1, e2, e3⟩ := m_tok (t := t) (u := u) (i := i) (f := f) (s := s) (x := x) h (by omega)
      refine ⟨I', J', ?_, e2, e3⟩
      cases bl with
      | true =>
        simp (disch := (first | omega | assumption)) only [f_M_signed_37, f_M_signed_68, f_M_signed_84, gi_12, eq2, le9, zbs, nI_add, pk_mul, znI_add1, znI_sub1, znI_subm, zle_nI, zlt_nI, zeq_nI, zle_0, zeq_0, zlt_0, zeq_m, zeq_1, zge_0, zbt0, zbt1, zB_0, zB_1, zB_b, zbool_0, zbool_1, ↓reduceIte, h2, hq, h8, h3, h0, e1, Bool.true_eq_false]
      | false =>
        simp (disch := (first | omega | assumption)) only [f_M_signed_37, f_M_signed_68, f_M_signed_84, gi_12, eq2, le9, zbs, nI_add, pk_mul, znI_add1, znI_sub1, znI_subm, zle_nI, zlt_nI, zeq_nI, zle_0, zeq_0, zlt_0, zeq_m, zeq_1, zge_0, zbt0, zbt1, zB_0, zB_1, zB_b, zbool_0, zbool_1, ↓reduceIte, h2, hq, h8, h3, h0, e1, Bool.false_eq_true]
  · rw [if_neg hq]
    obtain ⟨I', c, pl, e1, e2, e3, e4⟩ := m_ref (α := Int32 × Nat) (t := t) (u := u) (i := i) (f := f) (s := s) (x := x) h h0 hB
    rw [e2]
    obtain ⟨v, e5⟩ := fin _ e4.1
    refine ⟨v, I', J, ?_, e3, e4⟩
    rw [← e5]
    simp (disch := (first | omega | assumption)) only [f_M_signed_37, gi_12, eq2, le9, zbs, nI_add, pk_mul, znI_add1, znI_sub1, znI_subm, zle_nI, zlt_nI, zeq_nI, zle_0, zeq_0, zlt_0, zeq_m, zeq_1, zge_0, zbt0, zbt1, zB_0, zB_1, zB_b, zbool_0, zbool_1, ↓reduceIte, h2, hq, e1]
theorem m_sgd (h : yMq I J B n p) (h0 : I 91 2 = 0) (hB : yBm I) : match ysgd (ytok B n) p with
    | .error (c, pl) => ∃ v I' J', f_M_signed (zs I J (zPt t u i f s x)) 91 = some (v, (zs I' J' (zPt t u i f s x))) ∧ yEM (zPt t u i f s x) I J (zs I' J' (zPt t u i f s x)) c pl ∧ (¬ I' 91 2 = 0 ∧ ¬ I' 91 2 ≤ 0)
    | .ok a => ∃ I' J', f_M_signed (zs I J (zPt t u i f s x)) 91 = some (a.1, (zs I' J' (zPt t u i f s x))) ∧ yfm I J I' J' ∧ yMq I' J' B n a.2 := by
  have l0 : I 91 2 ≤ 0 := by rw [h0]; decide
  have h45 : (I 91 6 = 45) = ((ytok B n p).1 = 45) := yso_s h (by decide) (by decide)
  have h7 := h.2.1.2.1
  have n1 : ¬ (1 : Int32) = 0 := by decide
  unfold ysgd
  by_cases hq : (ytok B n p).1 = 45
  · rw [if_pos hq]
    obtain ⟨I1, J1, a1, a2, a3⟩ := m_tok (t := t) (u := u) (i := i) (f := f) (s := s) (x := x) h (by omega)
    have it := m_sgd2 (t := t) (u := u) (i := i) (f := f) (s := s) (x := x) (bl := true) (fr := (ytok B n p).2.1) a3 ((a2.1 91 2 rfl).trans h0) (yBm_fm hB a2)
    cases hx : ysgd2 (ytok B n) true (ytok B n p).2.1 (ytok B n p).2.2.2.2 with
    | error cp_ =>
      obtain ⟨c, pl⟩ := cp_
      rw [hx] at it
      obtain ⟨v, I', J', b1, b2, b3⟩ := it
      have b1 : f_M_signed_37 (zs I1 J1 (zPt t u i f s x)) 91 (nI (ytok B n p).2.1) 1 = _ := b1
      refine ⟨v, I', J', ?_, yEM_fr (yfM_fm a2) b2, b3⟩
      simp (disch := (first | omega | assumption)) only [f_M_signed, f_M_signed_28, zg_12, gi_12, zbs, nI_add, pk_mul, znI_add1, znI_sub1, znI_subm, zle_nI, zlt_nI, zeq_nI, zle_0, zeq_0, zlt_0, zeq_m, zeq_1, zge_0, zbt0, zbt1, zB_0, zB_1, zB_b, zbool_0, zbool_1, ↓reduceIte, l0, Int32.le_refl, h7, h45, hq, n1, a1, b1]
    | ok a =>
      rw [hx] at it
      obtain ⟨I', J', b1, b2, b3⟩ := it
      have b1 : f_M_signed_37 (zs I1 J1 (zPt t u i f s x)) 91 (nI (ytok B n p).2.1) 1 = _ := b1
      refine ⟨I', J', ?_, yfm_trans a2 b2, b3⟩
      simp (disch := (first | omega | assumption)) only [f_M_signed, f_M_signed_28, zg_12, gi_12, zbs, nI_add, pk_mul, znI_add1, znI_sub1, znI_subm, zle_nI, zlt_nI, zeq_nI, zle_0, zeq_0, zlt_0, zeq_m, zeq_1, zge_0, zbt0, zbt1, zB_0, zB_1, zB_b, zbool_0, zbool_1, ↓reduceIte, l0, Int32.le_refl, h7, h45, hq, n1, a1, b1]
  · rw [if_neg hq]
    have it := m_sgd2 (t := t) (u := u) (i := i) (f := f) (s := s) (x := x) (bl := false) (fr := (ytok B n p).2.1) h h0 hB
    have hres : f_M_signed (zs I J (zPt t u i f s x)) 91 = f_M_signed_37 (zs I J (zPt t u i f s x)) 91 (nI (ytok B n p).2.1) (zB false) := by
      simp (disch := (first | omega | assumption)) only [f_M_signed, f_M_signed_28, zg_12, gi_12, zbs, nI_add, pk_mul, znI_add1, znI_sub1, znI_subm, zle_nI, zlt_nI, zeq_nI, zle_0, zeq_0, zlt_0, zeq_m, zeq_1, zge_0, zbt0, zbt1, zB_0, zB_1, zB_b, zbool_0, zbool_1, ↓reduceIte, l0, Int32.le_refl, h7, h45, hq]
      rfl
    rw [hres]
    exact it
end ZM1
