/-! hide -/
section ZHq
variable {I : Nat → Nat → Int32} {J : Nat → Nat → Int64} {t u i f s x : Nat} {nt nb nr q sh md om im A : Nat} {LW BW : List Int32}
theorem zisIn9 (p : Int32) : f_M_isIn p 0 9 = some (zB (zlt p 10)) := g_M_isIn p (n := 10) (by decide)
theorem zlt10 {p : Int32} (h : zlt p 10 = false) : p < 0 ∨ ¬ p < 0 ∧ (10 : Int32) ≤ p := by
  unfold zlt at h
  simp at h
  by_cases h0 : p < 0
  · exact Or.inl h0
  · refine Or.inr ⟨h0, ?_⟩
    exact h (by simpa using h0)
theorem q_hide (hC : zCo I t nt nb nr q sh md om im LW BW) (r b p m : Int32) : zOK3 I J t u i f s x (fun σ => f_W_hide σ 0 r b p m) (fun σ => f_M_hide σ 91 r b p m) := by
  have ht := hC.1
  have hnb := hC.2.1.1.2.1.2
  have hnr := hC.2.1.1.2.2.1.2
  have hnt := hC.2.1.1.1.2
  have f0 : zfr zSnx I (zup I 0 18 0) := zfr_up (zfr_refl _ _) rfl
  have hC0 := zCo_frn hC (zfr_mono f0 zSnx_n)
  have v0 : zLnx (zup I 0 18 0) [] := ⟨zup_s _ _ _ _, fun k v h => by simp at h⟩
  have f1 : zfr zSnm (zup I 0 18 0) (zup (zup I 0 18 0) 91 59 0) := zfr_up (zfr_refl _ _) rfl
  have hC1 := zCo_frn hC0 (zfr_mono f1 zSnm_n)
  have hom := z2n hnb hC.2.2.2.2.1.2
  have refuse : f_W_hide (zs I J (zPt t u i f s x)) 0 r b p m = some (-1, (zs (zup I 0 18 0) J (zPt t u i f s x))) → f_M_hide (zs (zup I 0 18 0) J (zPt t u i f s x)) 91 r b p m = some (-1, (zs (zup (zup I 0 18 0) 91 59 0) J (zPt t u i f s x))) → zOK3 I J t u i f s x (fun σ => f_W_hide σ 0 r b p m) (fun σ => f_M_hide σ 91 r b p m) := fun h1 h2 =>
    ⟨-1, [], zup I 0 18 0, J, s, zup (zup I 0 18 0) 91 59 0, J, h1, h2, zfr_trans (zfr_mono f0 zSnx_n) (zfr_mono f1 zSnm_n), Or.inl rfl, zLnx_g v0 f1, ⟨zup_s _ _ _ _, fun k v h => by simp at h⟩, by simp⟩
  have x1 := g_W_isReader (J := J) (t := t) (u := u) (i := i) (f := f) (s := s) (x := x) ht hC0.2.1.2.1.2.2.1.1 r
  have m1 := g_M_isReader (J := J) (t := t) (u := u) (i := i) (f := f) (s := s) (x := x) hC1.2.1.1.2.2.1.1 hnr r
  rcases zlt_cases r (n := nr) (by omega) with ⟨hr, r', hr', rfl⟩ | hr
  rotate_left 1
  · rw [hr] at x1 m1
    refine refuse ?_ ?_
    · simp (disch := (first | omega | assumption)) only [f_W_hide, zg_11, si_11, gp_11_9, gp_11_2, gp_11_5, gp_11_10, gp_11_12, ge10, zbs, nI_add, pk_mul, znI_add1, znI_sub1, znI_subm, zle_nI, zlt_nI, zeq_nI, zle_0, zeq_0, zlt_0, zeq_m, zeq_1, zge_0, zbt0, zbt1, zB_0, zB_1, zB_b, zbool_0, zbool_1, ↓reduceIte, x1]
    · simp (disch := (first | omega | assumption)) only [f_M_hide, zg_12, si_12, zbs, nI_add, pk_mul, znI_add1, znI_sub1, znI_subm, zle_nI, zlt_nI, zeq_nI, zle_0, zeq_0, zlt_0, zeq_m, zeq_1, zge_0, zbt0, zbt1, zB_0, zB_1, zB_b, zbool_0, zbool_1, ↓reduceIte, m1]
  rw [hr] at x1 m1
  have m2 := g_M_isBook (J := J) (t := t) (u := u) (i := i) (f := f) (s := s) (x := x) hC1.2.1.1.2.1.1 hnb b
  rcases zlt_cases b (n := nb) (by omega) with ⟨hb, b', hb', rfl⟩ | hb
  rotate_left 1
  · have x2 := g_W_isHere0 (J := J) (t := t) (u := u) (i := i) (f := f) (s := s) (x := x) ht hC0.2.1.2.1.2.1.1 hb
    rw [hb] at m2
    refine refuse ?_ ?_
    · simp (disch := (first | omega | assumption)) only [f_W_hide, zg_11, si_11, gp_11_9, gp_11_2, gp_11_5, gp_11_10, gp_11_12, ge10, zbs, nI_add, pk_mul, znI_add1, znI_sub1, znI_subm, zle_nI, zlt_nI, zeq_nI, zle_0, zeq_0, zlt_0, zeq_m, zeq_1, zge_0, zbt0, zbt1, zB_0, zB_1, zB_b, zbool_0, zbool_1, ↓reduceIte, x1, x2, Bool.true_eq_false]
    · simp (disch := (first | omega | assumption)) only [f_M_hide, zg_12, si_12, zbs, nI_add, pk_mul, znI_add1, znI_sub1, znI_subm, zle_nI, zlt_nI, zeq_nI, zle_0, zeq_0, zlt_0, zeq_m, zeq_1, zge_0, zbt0, zbt1, zB_0, zB_1, zB_b, zbool_0, zbool_1, ↓reduceIte, m1, m2, Bool.true_eq_false]
  rw [hb] at m2
  have h4 : zup I 0 18 0 30 4 = nI om := hC0.2.2.1.2.1.trans hC0.2.2.2.2.1.1
  have x2 := g_W_isHere1 (J := J) (t := t) (u := u) (i := i) (f := f) (s := s) (x := x) ht hC0.2.1.2.1.2.1.1 hnb h4 hom hb'
  have m3 := g_M_isOut (J := J) (t := t) (u := u) (i := i) (f := f) (s := s) (x := x) hC1.2.2.2.2.1.1 hom (show b' < 10 by omega)
  cases hob : om.testBit b' with
  | true =>
    rw [hob] at x2 m3
    refine refuse ?_ ?_
    · simp (disch := (first | omega | assumption)) only [f_W_hide, zg_11, si_11, gp_11_9, gp_11_2, gp_11_5, gp_11_10, gp_11_12, ge10, zbs, nI_add, pk_mul, znI_add1, znI_sub1, znI_subm, zle_nI, zlt_nI, zeq_nI, zle_0, zeq_0, zlt_0, zeq_m, zeq_1, zge_0, zbt0, zbt1, zB_0, zB_1, zB_b, zbool_0, zbool_1, ↓reduceIte, x1, x2, Bool.true_eq_false, Bool.not_true]
    · simp (disch := (first | omega | assumption)) only [f_M_hide, zg_12, si_12, zbs, nI_add, pk_mul, znI_add1, znI_sub1, znI_subm, zle_nI, zlt_nI, zeq_nI, zle_0, zeq_0, zlt_0, zeq_m, zeq_1, zge_0, zbt0, zbt1, zB_0, zB_1, zB_b, zbool_0, zbool_1, ↓reduceIte, m1, m2, m3, Bool.true_eq_false]
  | false =>
    rw [hob] at x2 m3
    have m4 := zisIn9 p
    rcases zlt_cases p (n := 10) (by omega) with ⟨hp, p', hp', rfl⟩ | hp
    rotate_left 1
    · rw [hp] at m4
      refine refuse ?_ ?_
      · rcases zlt10 hp with h | ⟨h, h'⟩
        · simp (disch := (first | omega | assumption)) only [f_W_hide, zg_11, si_11, gp_11_9, gp_11_2, gp_11_5, gp_11_10, gp_11_12, ge10, zbs, nI_add, pk_mul, znI_add1, znI_sub1, znI_subm, zle_nI, zlt_nI, zeq_nI, zle_0, zeq_0, zlt_0, zeq_m, zeq_1, zge_0, zbt0, zbt1, zB_0, zB_1, zB_b, zbool_0, zbool_1, ↓reduceIte, x1, x2, h, Bool.true_eq_false, Bool.not_false]
        · simp (disch := (first | omega | assumption)) only [f_W_hide, zg_11, si_11, gp_11_9, gp_11_2, gp_11_5, gp_11_10, gp_11_12, ge10, zbs, nI_add, pk_mul, znI_add1, znI_sub1, znI_subm, zle_nI, zlt_nI, zeq_nI, zle_0, zeq_0, zlt_0, zeq_m, zeq_1, zge_0, zbt0, zbt1, zB_0, zB_1, zB_b, zbool_0, zbool_1, ↓reduceIte, x1, x2, h, h', Bool.true_eq_false, Bool.not_false]
      · simp (disch := (first | omega | assumption)) only [f_M_hide, zg_12, si_12, zbs, nI_add, pk_mul, znI_add1, znI_sub1, znI_subm, zle_nI, zlt_nI, zeq_nI, zle_0, zeq_0, zlt_0, zeq_m, zeq_1, zge_0, zbt0, zbt1, zB_0, zB_1, zB_b, zbool_0, zbool_1, ↓reduceIte, m1, m2, m3, m4, Bool.true_eq_false]
    rw [hp] at m4
    have hp10 : ¬ 10 ≤ p' := by omega
    have x3 := zcanBe m
    have m5 := zisIn12 m
    cases hmm : (decide (m = 1) || decide (m = 2)) with
    | false =>
      rw [hmm] at x3 m5
      refine refuse ?_ ?_
      · simp (disch := (first | omega | assumption)) only [f_W_hide, zg_11, si_11, gp_11_9, gp_11_2, gp_11_5, gp_11_10, gp_11_12, ge10, zbs, nI_add, pk_mul, znI_add1, znI_sub1, znI_subm, zle_nI, zlt_nI, zeq_nI, zle_0, zeq_0, zlt_0, zeq_m, zeq_1, zge_0, zbt0, zbt1, zB_0, zB_1, zB_b, zbool_0, zbool_1, ↓reduceIte, x1, x2, x3, hp10, Bool.true_eq_false, Bool.not_false]
      · simp (disch := (first | omega | assumption)) only [f_M_hide, zg_12, si_12, zbs, nI_add, pk_mul, znI_add1, znI_sub1, znI_subm, zle_nI, zlt_nI, zeq_nI, zle_0, zeq_0, zlt_0, zeq_m, zeq_1, zge_0, zbt0, zbt1, zB_0, zB_1, zB_b, zbool_0, zbool_1, ↓reduceIte, m1, m2, m3, m4, m5, Bool.true_eq_false]
    | true =>
      rw [hmm] at x3 m5
      obtain ⟨m', hm1, hm, rfl⟩ : ∃ m', 1 ≤ m' ∧ m' ≤ 2 ∧ m = nI m' := by
        simp only [Bool.or_eq_true, decide_eq_true_eq] at hmm
        rcases hmm with rfl | rfl
        · exact ⟨1, by decide, by decide, rfl⟩
        · exact ⟨2, by decide, by decide, rfl⟩
      have hR := zR_le (m := m') hm hnt
      generalize hKR : (fun v b => zkm (zup I 0 18 0) nt LW (zcell m' nt v) r' b) = KR
      -- the class
      obtain ⟨I1, a1, a2, a5, a4, a3⟩ := q_open (J := J) (t := t) (u := u) (i := i) (f := f) (s := s) (x := x) hC0
      have hC2 := zCo_fr hC0 a2
      obtain ⟨I3, c1, c2, -, c3⟩ := g_R_fill (A := 52) (J := J) (t := t) (u := u) (i := i) (f := f) (x := x) (Or.inl rfl) hC2 hm hr'
      have eKR : (fun v b => zkm I1 nt LW (zcell m' nt v) r' b) = KR := by
        rw [← hKR]
        funext v
        exact zfK_fr a2 m' r' v
      rw [eKR] at c3
      have hS3 : zSh I3 t nb nr q (zhm nb om) := by
        unfold zSh
        rw [zRs_row c2 t (by omega) (by omega) (by omega) (by omega) (by omega), zRs_row c2 47 (by decide) (by decide) (by decide) (by decide) (by omega)]
        exact a4
      obtain ⟨I4, J4, d1, d2, d3, d4⟩ := x_collect (A := 52) (J := J) (t := t) (u := u) (i := i) (f := f) (x := x) (K := fun r' b => zKx I3 r' b) (Or.inl rfl) ht hS3 c3 hR hr' (fun _ _ _ _ => rfl)
      have eO : (fun v => zco (zOv (fun r' b => zKx I3 r' b) KR r' q nr nb om v)) = fun v => zco (zOv (zKy I nt LW) KR r' q nr nb om v) := by
        funext v
        rw [zOv_K (K' := zKy I nt LW) hnr hr']
      rw [eO] at d3
      have hod := fun v => zOv_od (K := zKy I nt LW) (KR := KR) (r := r') (q := q) (nr := nr) (om := om) (v := v) hnb
      have hf4 : zfr zSg (zup I 0 18 0) I4 := zfr_trans a2 (zfr_trans (zfr_g c2 (zSg_rs (Or.inl rfl) ht)) (zfr_g d2 zSg_o))
      have hC4 := zCo_fr hC0 hf4
      have v4 := zLnx_sg v0 hf4
      obtain ⟨w, e1, e2⟩ := x_mostHad (I := I4) (J := J4) (t := t) (u := u) (i := i) (f := f) (s := t) (x := x) (b := b') (p := p') (pl := fun v => zps (zOv (zKy I nt LW) KR r' q nr nb om v) b') d3 hR hp' (fun k v hk => by
        obtain ⟨o1, o2, o3, o4, o5⟩ := hod v
        have hmem := o5 b' hb' hob
        obtain ⟨j, hj⟩ := List.getElem?_of_mem hmem
        have hjl := (List.getElem?_eq_some_iff.mp hj).1
        have hjp := zps_at o1 hj
        rw [(d3.2 k v hk).1]
        refine ⟨g_O_placeIn (t := t) (u := u) (i := i) (f := f) (s := t) (x := x) (by rw [o2]; exact d4) o3 o4 o1 hmem, by dsimp only; omega⟩) rfl
      sorry
end ZHq
