/-! the reference's formulas: signs, and the run -/
section ZF5
variable {I : Nat → Nat → Int32} {J : Nat → Nat → Int64} {t u i f s x : Nat} {B : Nat → Nat} {n F un0 : Nat} {ms : yMc}
theorem m_close {l : Nat} {S : List Nat} {M : List Int32} (hl : l ≤ 6) (hF : F < 2) (hS : S.length ≤ 100) (hM2 : M.length + S.length ≤ 319) (hW : ∀ q ∈ S, yW1 q) (h19 : I 91 19 = nI F) (h20 : I 91 20 = nI S.length) (h24 : I 91 24 = nI (ydp S)) (hO : yOp I S) (hM : yMk I F M) :
    ∃ I', f_M_close (zs I J (zPt t u i f s x)) 91 (nI l) = some (zs I' J (zPt t u i f s x)) ∧ zfr (yCF F) I I' ∧ I' 91 20 = nI (ycl l S M).1.length ∧ I' 91 24 = nI (ydp (ycl l S M).1) ∧ yOp I' (ycl l S M).1 ∧ yMk I' F (ycl l S M).2 := by
  obtain ⟨I', e1, e2⟩ := g_M_close (J := J) (t := t) (u := u) (i := i) (f := f) (s := s) (x := x) hl hF S zfu M I (zfu_lt (by omega)) hS hM2 hW h19 h20 h24 hO hM
  exact ⟨I', by rw [f_M_close, zg_12, e1], e2⟩
/-- a sign is due, or the end -/
theorem m_F (hF : F < 2) (hu0 : un0 ≤ 30) (hR : yMR I J B n F un0 ms) (hb : ms.1 = false) :
    (∃ s' I' J', ymst (ytok B n) ms = .inl s' ∧ s'.1 = false ∧ (∀ m, f_M_formula_40 (f_M_formula_40L m) (zs I J (zPt t u i f s x)) 91 1 = f_M_formula_40L m (zs I' J' (zPt t u i f s x)) 91 1) ∧ zfr (yFF F) I I' ∧ (∀ a, a ≠ 91 → J' a = J a) ∧ yMR I' J' B n F un0 s') ∨
    (∃ s' I' J', ymst (ytok B n) ms = .inl s' ∧ s'.1 = true ∧ (∀ m, f_M_formula_40 (f_M_formula_40L m) (zs I J (zPt t u i f s x)) 91 1 = (f_M_unit (zs I' J' (zPt t u i f s x)) 91).bind fun σ => f_M_formula_40L m σ 91 1) ∧ zfr (yFF F) I I' ∧ (∀ a, a ≠ 91 → J' a = J a) ∧ yMR I' J' B n F un0 s') ∨
    (∃ r, ymst (ytok B n) ms = .inr r ∧ ∀ m, yMO (zPt t u i f s x) B n F un0 I J (f_M_formula_40 (f_M_formula_40L (m + 1)) (zs I J (zPt t u i f s x)) 91 1) r) := by
  have hB := yMR_Bm hF hR
  obtain ⟨nd, p, S, M, un⟩ := ms
  obtain ⟨hq, h0, ⟨h19, h20, h24, h23, h21⟩, hO, hM, hi, h96⟩ := hR
  simp only at hb hq h19 h20 h24 h23 h21 hO hM
  subst hb
  have hb := yMi_b hi
  simp only at hb
  have hW : ∀ q ∈ S, yW1 q := hi.1
  have hun : un ≤ 30 := hi.2.2.1
  have h5 := hi.2.2.2.2 rfl
  simp only at h5
  have n1 : ¬ (1 : Int32) = 0 := by decide
  have zt : ¬ zB true = 0 := by decide
  have zf : zB false = 0 := rfl
  have hτ := ytok_To (B := B) hq.2.2
  have sgn := g_M_sign (t := t) (u := u) (i := i) (f := f) (s := s) (x := x) hq
  have hbk := g_M_hasBracket (J := J) (t := t) (u := u) (i := i) (f := f) (s := s) (x := x) h20 (by omega) hW hO
  have hrl := g_M_hasRelation (J := J) (t := t) (u := u) (i := i) (f := f) (s := s) (x := x) h20 (by omega) hW hO
  have s41 : (I 91 6 = 41) = ((ytok B n p).1 = 41) := yso_s hq (by decide) (by decide)
  have stp : ∀ s', ymst (ytok B n) (false, p, S, M, un) = .inl s' → yMi s' := fun s' h => (yMi_step hi h).1
  by_cases c1 : (ytok B n p).1 = 41 ∧ 20 ∈ S
  · have ex : ymst (ytok B n) (false, p, S, M, un) = .inl ⟨false, (ytok B n p).2.2.2.2, (ycl 0 S M).1.tail, (ycl 0 S M).2, un⟩ := by
      unfold ymst
      simp only [Bool.false_eq_true, if_false]
      rw [if_pos c1]
    left
    obtain ⟨I1, a1, a2, a3, a4, a5, a6⟩ := m_close (J := J) (t := t) (u := u) (i := i) (f := f) (s := s) (x := x) (l := 0) (by decide) hF (by omega) (by omega) hW h19 h20 h24 hO hM
    have a1 : f_M_close (zs I J (zPt t u i f s x)) 91 0 = some (zs I1 J (zPt t u i f s x)) := a1
    obtain ⟨R, r1, r2⟩ := ycl_br M c1.2
    have hi' := stp _ ex
    rw [r1] at ex hi' a3 a4 a5
    rw [List.tail_cons] at ex hi'
    have a3 : I1 91 20 = nI (R.length + 1) := a3
    have a4 : I1 91 24 = nI (ydp R + 1) := a4
    have ha : ∀ k, k ≠ 20 → k ≠ 24 → I1 91 k = I 91 k := fun k g1 g2 => a2 91 k (by simp [yCF, g1, g2])
    have hr1 : ∀ a, a ≠ 91 → a ≠ 94 → a ≠ 95 → a ≠ 96 → I1 a = I a := fun a g1 g2 g3 g4 => zfr_row a2 a (fun k => by simp [yCF, g1, g2, g3, g4])
    have hq2 : yMq (zup (zup I1 91 20 (nI R.length)) 91 24 (nI (ydp R))) J B n p := yMq_fr hq (by rw [zup_ne _ _ _ (by decide), zup_ne _ _ _ (by decide), hr1 92 (by decide) (by decide) (by decide) (by decide)]) (fun k g1 g2 => by rw [zup_k _ _ (by omega), zup_k _ _ (by omega), ha k (by omega) (by omega)]) rfl
    obtain ⟨I', J', e1, e2, e3⟩ := m_tok (t := t) (u := u) (i := i) (f := f) (s := s) (x := x) hq2 (by omega)
    have hz : ∀ k, k ≠ 20 → k ≠ 24 → k ≠ 4 → k ≠ 6 → k ≠ 7 → k ≠ 8 → I' 91 k = I 91 k := fun k g1 g2 g3 g4 g5 g6 => by
      rw [e2.1 91 k (by simp [yTm, g3, g4, g5, g6]), zup_k _ _ g2, zup_k _ _ g1, ha k g1 g2]
    have hr : ∀ a, a ≠ 91 → I' a = I1 a := fun a g1 => by
      rw [zfr_row e2.1 a (fun k => by simp [yTm, g1]), zup_ne _ _ _ g1, zup_ne _ _ _ g1]
    refine ⟨_, I', J', ex, rfl, fun m => ?_, zfr_trans (zfr_mono a2 yCF_FF) (zfr_trans (zfr_up (zfr_up (zfr_refl _ _) (by simp [yFF])) (by simp [yFF])) (zfr_mono e2.1 yTm_FF)), e2.2, e3, ?_, ⟨?_, ?_, ?_, ?_, ?_⟩, ?_, ?_, hi', ?_⟩
    · rw [decide_eq_true c1.2] at hbk
      have k24 : zup I1 91 20 (nI R.length) 91 24 = nI (ydp R + 1) := by rw [zup_k _ _ (by decide)]; exact a4
      rw [f_M_formula_40, if_neg n1, gi_12, zbs, if_pos h0, sgn, zbs, gi_12, zbs, if_pos (by rw [s41]; exact c1.1), hbk, zbs, if_neg zt, a1, zbs, gi_12, zbs, a3, znI_sub1, si_12, zbs, gi_12, zbs, k24, znI_sub1, si_12, zbs, e1, zbs]
    · rw [hz 2 (by decide) (by decide) (by decide) (by decide) (by decide) (by decide)]; exact h0
    · rw [hz 19 (by decide) (by decide) (by decide) (by decide) (by decide) (by decide)]; exact h19
    · rw [e2.1 91 20 rfl, zup_k _ _ (by decide), zup_s]
    · rw [e2.1 91 24 rfl, zup_s]
    · rw [hz 23 (by decide) (by decide) (by decide) (by decide) (by decide) (by decide)]; exact h23
    · rw [hz 21 (by decide) (by decide) (by decide) (by decide) (by decide) (by decide)]; exact h21
    · exact yOp_row (hr 100 (by decide)) R a5.2
    · exact yMk_rows a6 (by rw [hr 96 (by decide)]) (fun k _ => by rw [hr 94 (by decide), hr 95 (by decide)]; exact ⟨rfl, rfl⟩)
    · exact ⟨by rw [hr 96 (by decide), a2 96 (1 - F) (by simp [yCF]; omega)]; exact h96.1, (hz 3 (by decide) (by decide) (by decide) (by decide) (by decide) (by decide)).trans h96.2⟩
  · have h104 : ∀ k, f_M_formula_40 k (zs I J (zPt t u i f s x)) 91 1 = f_M_formula_104 k (zs I J (zPt t u i f s x)) 91 1 (nI (ysc (ytok B n p).1)) := fun k => by
      by_cases c41 : (ytok B n p).1 = 41
      · have nb : ¬ 20 ∈ S := fun h => c1 ⟨c41, h⟩
        rw [decide_eq_false nb] at hbk
        rw [f_M_formula_40, if_neg n1, gi_12, zbs, if_pos h0, sgn, zbs, gi_12, zbs, if_pos (by rw [s41]; exact c41), hbk, zbs, if_pos zf]
      · rw [f_M_formula_40, if_neg n1, gi_12, zbs, if_pos h0, sgn, zbs, gi_12, zbs, if_neg (by rw [s41]; exact c41)]
    by_cases c2 : ¬ ysc (ytok B n p).1 = 0 ∧ ¬ (ytgt (ysc (ytok B n p).1) = 4 ∧ yhr S = true)
    · have ex : ymst (ytok B n) (false, p, S, M, un) = .inl ⟨true, (ytok B n p).2.2.2.2, ysc (ytok B n p).1 :: (ycl (ytgt (ysc (ytok B n p).1)) S M).1, (ycl (ytgt (ysc (ytok B n p).1)) S M).2, un⟩ := by
        unfold ymst
        simp only [Bool.false_eq_true, if_false]
        rw [if_neg c1, if_pos c2]
      right; left
      have hi' := stp _ ex
      have hs := yMi_step hi ex
      simp only at hs
      have hin := ysc_in c2.1
      have hsb := ysg_b _ hin
      generalize hc : ysc (ytok B n p).1 = c at *
      have tg := g_tight c hsb.1
      have tb := ytgt_b c
      have L := ycl_len (l := ytgt c) S M
      obtain ⟨I1, a1, a2, a3, a4, a5, a6⟩ := m_close (J := J) (t := t) (u := u) (i := i) (f := f) (s := s) (x := x) (l := ytgt c) tb.2 hF (by omega) (by omega) hW h19 h20 h24 hO hM
      generalize hS1 : (ycl (ytgt c) S M).1 = S1 at *
      generalize hM1 : (ycl (ytgt c) S M).2 = M1 at *
      have hS1l : S1.length < 160 := by omega
      have ha : ∀ k, k ≠ 20 → k ≠ 24 → I1 91 k = I 91 k := fun k g1 g2 => a2 91 k (by simp [yCF, g1, g2])
      have hr1 : ∀ a, a ≠ 91 → a ≠ 94 → a ≠ 95 → a ≠ 96 → I1 a = I a := fun a g1 g2 g3 g4 => zfr_row a2 a (fun k => by simp [yCF, g1, g2, g3, g4])
      have hq2 : yMq (zup (zup I1 100 S1.length (nI c)) 91 20 (nI (S1.length + 1))) J B n p := yMq_fr hq (by rw [zup_ne _ _ _ (by decide), zup_ne _ _ _ (by decide), hr1 92 (by decide) (by decide) (by decide) (by decide)]) (fun k g1 g2 => by rw [zup_k _ _ (by omega), zup_ne _ _ _ (by decide), ha k (by omega) (by omega)]) rfl
      obtain ⟨I', J', e1, e2, e3⟩ := m_tok (t := t) (u := u) (i := i) (f := f) (s := s) (x := x) hq2 hs.2.2.2
      have hz : ∀ k, k ≠ 20 → k ≠ 24 → k ≠ 4 → k ≠ 6 → k ≠ 7 → k ≠ 8 → I' 91 k = I 91 k := fun k g1 g2 g3 g4 g5 g6 => by
        rw [e2.1 91 k (by simp [yTm, g3, g4, g5, g6]), zup_k _ _ g1, zup_ne _ _ _ (by decide), ha k g1 g2]
      have hr : ∀ a, a ≠ 91 → a ≠ 100 → I' a = I1 a := fun a g1 g2 => by
        rw [zfr_row e2.1 a (fun k => by simp [yTm, g1]), zup_ne _ _ _ g1, zup_ne _ _ _ g2]
      have ed : ydp (c :: S1) = ydp S1 := if_neg (by rintro (h | h); exact hsb.2.1 h; exact hsb.2.2.1 h)
      refine ⟨_, I', J', ex, rfl, fun m => ?_, zfr_trans (zfr_mono a2 yCF_FF) (zfr_trans (zfr_up (zfr_up (zfr_refl _ _) (by simp [yFF])) (by simp [yFF])) (zfr_mono e2.1 yTm_FF)), e2.2, e3, ?_, ⟨?_, ?_, ?_, ?_, ?_⟩, ⟨?_, ?_⟩, ?_, hi', ?_⟩
      · have h123 : f_M_formula_123 (f_M_formula_40L m) (zs I J (zPt t u i f s x)) 91 1 (nI c) = (f_M_unit (zs I' J' (zPt t u i f s x)) 91).bind fun σ => f_M_formula_40L m σ 91 1 := by
          have k20 : zup I1 100 S1.length (nI c) 91 20 = nI S1.length := by rw [zup_ne _ _ _ (by decide)]; exact a3
          rw [f_M_formula_123, tg, zbs, a1, zbs, gp_12_17, zbs, gi_12, zbs, a3, wi_100 hS1l, zbs, gi_12, zbs, k20, znI_add1, si_12, zbs, e1, zbs]
        have nz : ¬ nI c = 0 := by rw [zeq_0 (by omega)]; exact c2.1
        rw [h104, f_M_formula_104, if_neg nz, tg, zbs]
        by_cases t4 : ytgt c = 4
        · have hf : yhr S = false := by
            cases hh : yhr S with
            | true => exact absurd ⟨t4, hh⟩ c2.2
            | false => rfl
          rw [hf] at hrl
          rw [if_pos (by rw [t4]; rfl), hrl, zbs, if_pos zf, h123]
        · rw [if_neg (by rw [eq4 (by omega)]; exact t4), h123]
      · rw [hz 2 (by decide) (by decide) (by decide) (by decide) (by decide) (by decide)]; exact h0
      · rw [hz 19 (by decide) (by decide) (by decide) (by decide) (by decide) (by decide)]; exact h19
      · rw [e2.1 91 20 rfl, zup_s]; rfl
      · show I' 91 24 = nI (ydp (c :: S1))
        rw [ed, e2.1 91 24 rfl, zup_k _ _ (by decide), zup_ne _ _ _ (by decide)]
        exact a4
      · rw [hz 23 (by decide) (by decide) (by decide) (by decide) (by decide) (by decide)]; exact h23
      · rw [hz 21 (by decide) (by decide) (by decide) (by decide) (by decide) (by decide)]; exact h21
      · rw [e2.1 100 S1.length rfl, zup_ne _ _ _ (by decide), zup_s]
      · refine yOp_row (I := zup I1 100 S1.length (nI c)) ?_ S1 (yOp_up S1 _ (Nat.le_refl _) a5)
        rw [zfr_row e2.1 100 (fun _ => rfl), zup_ne _ _ _ (by decide)]
      · exact yMk_rows a6 (by rw [hr 96 (by decide) (by decide)]) (fun k _ => by rw [hr 94 (by decide) (by decide), hr 95 (by decide) (by decide)]; exact ⟨rfl, rfl⟩)
      · exact ⟨by rw [hr 96 (by decide) (by decide), a2 96 (1 - F) (by simp [yCF]; omega)]; exact h96.1, (hz 3 (by decide) (by decide) (by decide) (by decide) (by decide) (by decide)).trans h96.2⟩
    · right; right
      have hk0 : ∀ k, f_M_formula_40 k (zs I J (zPt t u i f s x)) 91 1 = k (zs I J (zPt t u i f s x)) 91 0 := fun k => by
        rw [h104, f_M_formula_104]
        by_cases z : ysc (ytok B n p).1 = 0
        · rw [if_pos (by rw [z]; rfl)]
        · have hin := ysc_in z
          have hsb := ysg_b _ hin
          have tb := ytgt_b (ysc (ytok B n p).1)
          have c2' : ytgt (ysc (ytok B n p).1) = 4 ∧ yhr S = true := by
            by_cases h : ytgt (ysc (ytok B n p).1) = 4 ∧ yhr S = true
            · exact h
            · exact absurd ⟨z, h⟩ c2
          rw [c2'.2] at hrl
          rw [if_neg (by rw [zeq_0 (by omega)]; exact z), g_tight _ hsb.1, zbs, if_pos (by rw [c2'.1]; rfl), hrl, zbs, if_neg zt]
      have h167 : ∀ m, f_M_formula_40 (f_M_formula_40L (m + 1)) (zs I J (zPt t u i f s x)) 91 1 = f_M_formula_167 (zs I J (zPt t u i f s x)) 91 := fun m => by
        rw [hk0, f_M_formula_40L, f_M_formula_40, if_pos rfl]
      by_cases c3 : 20 ∈ S
      · have ex : ymst (ytok B n) (false, p, S, M, un) = yerS (ytok B n p) := by
          unfold ymst
          simp only [Bool.false_eq_true, if_false]
          rw [if_neg c1, if_neg c2, if_pos c3]
        obtain ⟨I', c, pl, e1, e2, e3, e4⟩ := m_ref (α := yFr) (t := t) (u := u) (i := i) (f := f) (s := s) (x := x) hq h0 hB
        refine ⟨.error (c, pl), by rw [ex, ← e2]; rfl, fun m => ⟨I', J, ?_, e3, e4⟩⟩
        rw [decide_eq_true c3] at hbk
        rw [h167, f_M_formula_167, gi_12, zbs, if_pos h0, hbk, zbs, if_neg zt, e1, zbs, f_M_formula_186, gi_12, zbs, if_neg e4.1]
      · have ex : ymst (ytok B n) (false, p, S, M, un) = .inr (.ok ((ycl 0 S M).2, p, un)) := by
          unfold ymst
          simp only [Bool.false_eq_true, if_false]
          rw [if_neg c1, if_neg c2, if_neg c3]
        obtain ⟨I1, a1, a2, a3, a4, a5, a6⟩ := m_close (J := J) (t := t) (u := u) (i := i) (f := f) (s := s) (x := x) (l := 0) (by decide) hF (by omega) (by omega) hW h19 h20 h24 hO hM
        have a1 : f_M_close (zs I J (zPt t u i f s x)) 91 0 = some (zs I1 J (zPt t u i f s x)) := a1
        have L := ycl_len (l := 0) S M
        have ha : ∀ k, k ≠ 20 → k ≠ 24 → I1 91 k = I 91 k := fun k g1 g2 => a2 91 k (by simp [yCF, g1, g2])
        refine ⟨_, ex, fun m => ⟨I1, J, ?_, zfr_mono a2 yCF_FF, fun _ _ => rfl, (ha 2 (by decide) (by decide)).trans h0, a6, (ha 21 (by decide) (by decide)).trans h21, yMq_fr hq (zfr_row a2 92 (fun k => by simp [yCF])) (fun k g1 g2 => ha k (by omega) (by omega)) rfl, ?_, ?_⟩⟩
        · rw [decide_eq_false c3] at hbk
          rw [h167, f_M_formula_167, gi_12, zbs, if_pos h0, hbk, zbs, if_pos zf, f_M_formula_186, gi_12, zbs, if_pos h0, a1, zbs]
        · show (ycl 0 S M).2.length ≤ 300
          omega
        · exact ⟨by rw [a2 96 (1 - F) (by simp [yCF]; omega)]; exact h96.1, (ha 3 (by decide) (by decide)).trans h96.2⟩
theorem m_run (hn : n ≤ 1600) (hF : F < 2) (hu0 : un0 ≤ 30) : ∀ (d : Nat) (ms : yMc) (r : yRs yFr), yRunN (ytok B n) d ms r → ∀ (I : Nat → Nat → Int32) (J : Nat → Nat → Int64) (fu1 fu2 : Nat), yMR I J B n F un0 ms → n - ms.2.1 + 2 ≤ fu1 → n - ms.2.1 + 2 ≤ fu2 →
    (ms.1 = true → yMO (zPt t u i f s x) B n F un0 I J ((f_M_unit_2L fu1 (zs I J (zPt t u i f s x)) 91 1).bind fun σ => f_M_formula_40L fu2 σ 91 1) r) ∧ (ms.1 = false → yMO (zPt t u i f s x) B n F un0 I J (f_M_formula_40L fu2 (zs I J (zPt t u i f s x)) 91 1) r) := by
  intro d
  induction d with
  | zero => intro ms r h; exact h.elim
  | succ d ih =>
    intro ms r hr I J fu1 fu2 hR hf1 hf2
    have hp : ms.2.1 ≤ n := hR.1.2.2
    have prog : ∀ s', ymst (ytok B n) ms = .inl s' → n - s'.2.1 + 1 ≤ n - ms.2.1 := fun s' h => by
      have h2 := yMi_step hR.2.2.2.2.2.1 h
      have h3 := ((ytok_b (B := B) hp).2.2.1 h2.2.2.1).1
      have h4 := (ytok_b (B := B) hp).2.1
      rw [h2.2.1]
      omega
    refine ⟨fun hb => ?_, fun hb => ?_⟩
    · obtain ⟨m, rfl⟩ : ∃ m, fu1 = m + 1 := ⟨fu1 - 1, by omega⟩
      rcases m_U (t := t) (u := u) (i := i) (f := f) (s := s) (x := x) hF hu0 hR hb with ⟨s', I', J', e1, e2, e3, e4, e5, e6⟩ | ⟨s', I', J', e1, e2, e3, e4, e5, e6⟩ | ⟨c, pl, I', J', e1, e2, e3, e4⟩
      · rw [yRunN_l e1] at hr
        have pg := prog s' e1
        rw [f_M_unit_2L, e3]
        exact yMO_fr e4 e5 ((ih s' r hr I' J' m fu2 e6 (by omega) (by omega)).1 e2)
      · rw [yRunN_l e1] at hr
        have pg := prog s' e1
        obtain ⟨m2, rfl⟩ : ∃ m2, m = m2 + 1 := ⟨m - 1, by omega⟩
        rw [f_M_unit_2L, e3, zbs]
        exact yMO_fr e4 e5 ((ih s' r hr I' J' (m2 + 1) fu2 e6 (by omega) (by omega)).2 e2)
      · rw [yRunN_r e1] at hr
        subst hr
        obtain ⟨m2, rfl⟩ : ∃ m2, m = m2 + 1 := ⟨m - 1, by omega⟩
        obtain ⟨m3, rfl⟩ : ∃ m3, fu2 = m3 + 1 := ⟨fu2 - 1, by omega⟩
        rw [f_M_unit_2L, e2, zbs, sk_form e4.1]
        exact ⟨I', J', rfl, e3, e4⟩
    · obtain ⟨m, rfl⟩ : ∃ m, fu2 = m + 1 := ⟨fu2 - 1, by omega⟩
      rw [f_M_formula_40L]
      rcases m_F (t := t) (u := u) (i := i) (f := f) (s := s) (x := x) hF hu0 hR hb with ⟨s', I', J', e1, e2, e3, e4, e5, e6⟩ | ⟨s', I', J', e1, e2, e3, e4, e5, e6⟩ | ⟨r', e1, e2⟩
      · rw [yRunN_l e1] at hr
        have pg := prog s' e1
        rw [e3]
        exact yMO_fr e4 e5 ((ih s' r hr I' J' fu1 m e6 (by omega) (by omega)).2 e2)
      · rw [yRunN_l e1] at hr
        have pg := prog s' e1
        rw [e3, f_M_unit, zg_12]
        exact yMO_fr e4 e5 ((ih s' r hr I' J' zfu m e6 (Nat.le_of_lt (zfu_lt (by omega))) (by omega)).1 e2)
      · rw [yRunN_r e1] at hr
        subst hr
        obtain ⟨m2, rfl⟩ : ∃ m2, m = m2 + 1 := ⟨m - 1, by omega⟩
        exact e2 m2
/-- a formula of the reference's -/
theorem m_formula {p : Nat} (hF : F < 2) (hq : yMq I J B n p) (hk : ¬ (ytok B n p).1 = 1) (h0 : I 91 2 = 0) (h3 : I 91 3 = -1) (h21 : I 91 21 = nI un0) (hu0 : un0 ≤ 30) (hB : yBm I) : yMO (zPt t u i f s x) B n F un0 I J (f_M_formula (zs I J (zPt t u i f s x)) 91 (nI F)) ((ylv (ytok B n) 7).1 (ytok B n p).2.2.2.2 0) := by
  obtain ⟨I1, J1, a1, a2, a3⟩ := m_tok (t := t) (u := u) (i := i) (f := f) (s := s) (x := x) hq hk
  obtain ⟨d, hd⟩ := yform_run (T := ytok B n) (ytok B n p).2.2.2.2
  have hn := hq.1.1
  have hB1 := yBm_fm hB a2
  have hz : ∀ k, k ≠ 19 → k ≠ 20 → k ≠ 24 → k ≠ 23 → zup (zup (zup (zup (zup I1 91 19 (nI F)) 96 F 0) 91 20 0) 91 24 0) 91 23 0 91 k = I1 91 k := fun k g1 g2 g3 g4 => by rw [zup_k _ _ g4, zup_k _ _ g3, zup_k _ _ g2, zup_ne _ _ _ (by decide), zup_k _ _ g1]
  have hr : ∀ a, a ≠ 91 → a ≠ 96 → zup (zup (zup (zup (zup I1 91 19 (nI F)) 96 F 0) 91 20 0) 91 24 0) 91 23 0 a = I1 a := fun a g1 g2 => by rw [zup_ne _ _ _ g1, zup_ne _ _ _ g1, zup_ne _ _ _ g1, zup_ne _ _ _ g2, zup_ne _ _ _ g1]
  have h96 : ∀ k, zup (zup (zup (zup (zup I1 91 19 (nI F)) 96 F 0) 91 20 0) 91 24 0) 91 23 0 96 k = if k = F then 0 else I1 96 k := fun k => by rw [zup_ne _ _ _ (by decide), zup_ne _ _ _ (by decide), zup_ne _ _ _ (by decide), zup_at, zup_ne _ _ _ (by decide)]
  have hR : yMR (zup (zup (zup (zup (zup I1 91 19 (nI F)) 96 F 0) 91 20 0) 91 24 0) 91 23 0) J1 B n F un0 (true, (ytok B n p).2.2.2.2, [], [], 0) := by
    refine ⟨yMq_fr a3 (hr 92 (by decide) (by decide)) (fun k g1 g2 => hz k (by omega) (by omega) (by omega) (by omega)) rfl, ?_, ⟨?_, ?_, ?_, ?_, ?_⟩, trivial, ⟨?_, fun k hk => absurd hk (Nat.not_lt_zero _)⟩, ⟨(fun q hq => by cases hq), Nat.zero_le 7, Nat.zero_le 30, (fun _ => ⟨Nat.zero_le 0, Nat.zero_le 0⟩), (fun h => by cases h)⟩, ?_⟩
    · rw [hz 2 (by decide) (by decide) (by decide) (by decide), a2.1 91 2 rfl]; exact h0
    · rw [zup_k _ _ (by decide), zup_k _ _ (by decide), zup_k _ _ (by decide), zup_ne _ _ _ (by decide), zup_s]
    · rw [zup_k _ _ (by decide), zup_k _ _ (by decide), zup_s]; rfl
    · rw [zup_k _ _ (by decide), zup_s]; rfl
    · rw [zup_s]; rfl
    · rw [hz 21 (by decide) (by decide) (by decide) (by decide), a2.1 91 21 rfl]; exact h21
    · rw [h96, if_pos rfl]; rfl
    · exact ⟨by rw [h96, if_neg (by omega)]; exact hB1 (1 - F) (by omega), by rw [hz 3 (by decide) (by decide) (by decide) (by decide), a2.1 91 3 rfl]; exact h3⟩
  have M := (m_run (t := t) (u := u) (i := i) (f := f) (s := s) (x := x) hn hF hu0 d _ _ hd _ J1 zfu zfu hR (Nat.le_of_lt (zfu_lt (by omega))) (Nat.le_of_lt (zfu_lt (by omega)))).1 rfl
  have f0 : zfr (yFF F) I (zup (zup (zup (zup (zup I1 91 19 (nI F)) 96 F 0) 91 20 0) 91 24 0) 91 23 0) := zfr_trans (zfr_mono a2.1 yTm_FF) (zfr_up (zfr_up (zfr_up (zfr_up (zfr_up (zfr_refl _ _) (by simp [yFF])) (by simp [yFF])) (by simp [yFF])) (by simp [yFF])) (by simp [yFF]))
  have hres : f_M_formula (zs I J (zPt t u i f s x)) 91 (nI F) = (f_M_unit_2L zfu (zs (zup (zup (zup (zup (zup I1 91 19 (nI F)) 96 F 0) 91 20 0) 91 24 0) 91 23 0) J1 (zPt t u i f s x)) 91 1).bind fun σ => f_M_formula_40L zfu σ 91 1 := by
    have k19 : zup I1 91 19 (nI F) 91 19 = nI F := zup_s _ _ _ _
    rw [f_M_formula, zg_12, a1, zbs, si_12, zbs, gp_12_13, zbs, gi_12, zbs, k19, wi_96 hF, zbs, si_12, zbs, si_12, zbs, si_12, zbs, f_M_unit, zg_12]
  rw [hres]
  exact yMO_fr f0 a2.2 M
end ZF5
