/-! queries: place, book, steps -/
section ZQ2
variable {I : Nat → Nat → Int32} {J : Nat → Nat → Int64} {t u i f s x : Nat} {nt nb nr q sh md om im : Nat} {LW BW : List Int32}
theorem q_mlay (hC : zCo I t nt nb nr q sh md om im LW BW) {set : Nat} (hset : set < 2 ^ nr) : ∃ I1 I2, f_M_layAll (zs I J (zPt t u i f s x)) 91 = some (zs I1 J (zPt t u i f s x)) ∧ f_M_layOrder (zs I1 J (zPt t u i f s x)) 91 (nI set) = some (zs I2 J (zPt t u i f s x)) ∧ zfr zSg I I1 ∧ zfr zSg I I2 ∧ zLm I2 (zL I nt nb nr q om LW set) := by
  obtain ⟨I1, a1, a2, -, a3⟩ := q_layAll (J := J) (t := t) (u := u) (i := i) (f := f) (s := s) (x := x) hC
  obtain ⟨I2, b1, b2, b3⟩ := q_layOrder (J := J) (t := t) (u := u) (i := i) (f := f) (s := s) (x := x) (zCo_fr hC a2) a3 hset
  exact ⟨I1, I2, a1, b1, a2, zfr_trans a2 (zfr_g b2 zSg_ls), b3⟩
theorem zL_fr {I' : Nat → Nat → Int32} (hf : zfr zSg I I') (set : Nat) : zL I' nt nb nr q om LW set = zL I nt nb nr q om LW set := by
  unfold zL
  rw [zKy_fr hf]
theorem zL_len (hnb : nb ≤ 10) (set : Nat) : (zL I nt nb nr q om LW set).length ≤ 10 := by
  rw [(zL_Od hnb set).2.1]
  have := zct_le (zokO om) nb
  omega
theorem zL_lt (hnb : nb ≤ 10) {set k b : Nat} (h : (zL I nt nb nr q om LW set)[k]? = some b) : k < 10 := by
  have h1 := (List.getElem?_eq_some_iff.mp h).1
  have h2 := zL_len (I := I) (nt := nt) (nr := nr) (q := q) (om := om) (LW := LW) hnb set
  omega
theorem q_place (hC : zCo I t nt nb nr q sh md om im LW BW) (p b : Int32) : zOK2 I J t u i f s x (fun σ => f_W_place σ 0 p b) (fun σ => f_M_place σ 91 p b) := by
  have hC2 := hC
  obtain ⟨ht, ⟨hM, hX, -⟩, hN, -, ho, -⟩ := hC
  have hnb := hM.2.1.2
  have hnr := hM.2.2.1.2
  have hom := z2n hnb ho.2
  have h4 : I 30 4 = nI om := hN.2.2.2.1.trans ho.1
  have x1 := g_W_isParty (J := J) (t := t) (u := u) (i := i) (f := f) (s := s) (x := x) ht hX.2.2.1.1 hnr p
  have m1 := g_M_isParty (J := J) (t := t) (u := u) (i := i) (f := f) (s := s) (x := x) hM.2.2.1.1 hM.2.2.1.2 p
  have hp2 := zp2 (show nr ≤ 10 by omega)
  rcases zlt_cases p (n := 2 ^ nr) (by omega) with ⟨hp, set, hset, rfl⟩ | hp
  · rw [hp] at x1 m1
    have m2 := g_M_isBook (J := J) (t := t) (u := u) (i := i) (f := f) (s := s) (x := x) hM.2.1.1 hM.2.1.2 b
    rcases zlt_cases b (n := nb) (by omega) with ⟨hb, b, hbn, rfl⟩ | hb
    · rw [hb] at m2
      have x2 := g_W_isHere1 (J := J) (t := t) (u := u) (i := i) (f := f) (s := s) (x := x) ht hX.2.1.1 hnb h4 hom hbn
      cases hob : om.testBit b with
      | true =>
        rw [hob] at x2
        obtain ⟨I1, I2, b1, b2, -, b3, b4⟩ := q_mlay (J := J) (t := t) (u := u) (i := i) (f := f) (s := s) (x := x) hC2 hset
        have e : I2 115 b = -1 := b4.2.2 b (by omega) (fun hm => by
          have := (((zL_Od hnb set).2.2 b).mp hm).2
          simp [zokO, hob] at this)
        refine ⟨-1, I, J, s, I2, J, ?_, ?_, b3, Or.inl rfl⟩
        · show f_W_place _ 0 _ _ = _
          simp (disch := (first | omega | assumption)) only [f_W_place, zg_11, gp_11_9, gp_11_2, gp_11_5, zbs, nI_add, pk_mul, znI_add1, znI_sub1, znI_subm, zle_nI, zlt_nI, zeq_nI, zle_0, zeq_0, zlt_0, zeq_m, zeq_1, zge_0, zbt0, zbt1, zB_0, zB_1, zB_b, zbool_0, zbool_1, ↓reduceIte, x1, x2, Bool.true_eq_false, Bool.not_true]
        · show f_M_place _ 91 _ _ = _
          simp (disch := (first | omega | assumption)) only [f_M_place, zg_12, gp_12_53, ai_115, zbs, nI_add, pk_mul, znI_add1, znI_sub1, znI_subm, zle_nI, zlt_nI, zeq_nI, zle_0, zeq_0, zlt_0, zeq_m, zeq_1, zge_0, zbt0, zbt1, zB_0, zB_1, zB_b, zbool_0, zbool_1, ↓reduceIte, m1, m2, b1, b2, e, Bool.true_eq_false]
      | false =>
        rw [hob] at x2
        obtain ⟨I1, a1, a2, -, a4, a3⟩ := q_open (J := J) (t := t) (u := u) (i := i) (f := f) (s := s) (x := x) hC2
        obtain ⟨I2, k, c1, c2, c3⟩ := q_placeFor (J := J) (t := t) (u := u) (i := i) (f := f) (x := x) ht a4 a3 hset hbn hob
        have f2 : zfr zSg I I2 := zfr_trans a2 (zfr_g c2 zSg_xls)
        have hC3 := zCo_fr hC2 f2
        obtain ⟨I3, I4, b1, b2, -, b3, b4⟩ := q_mlay (J := J) (t := t) (u := u) (i := i) (f := f) (s := t) (x := x) hC3 hset
        rw [zL_fr f2] at b4
        have e := (b4.2.1 k b c3).2
        obtain ⟨hM3, -⟩ := hC3.2.1
        have m1' := g_M_isParty (J := J) (t := t) (u := u) (i := i) (f := f) (s := t) (x := x) hM3.2.2.1.1 hM3.2.2.1.2 (nI set)
        have m2' := g_M_isBook (J := J) (t := t) (u := u) (i := i) (f := f) (s := t) (x := x) hM3.2.1.1 hM3.2.1.2 (nI b)
        rw [hp] at m1'
        rw [hb] at m2'
        refine ⟨nI k, I2, J, t, I4, J, ?_, ?_, zfr_trans f2 b3, Or.inr rfl⟩
        · show f_W_place _ 0 _ _ = _
          simp (disch := (first | omega | assumption)) only [f_W_place, zg_11, gp_11_9, gp_11_2, gp_11_5, zbs, nI_add, pk_mul, znI_add1, znI_sub1, znI_subm, zle_nI, zlt_nI, zeq_nI, zle_0, zeq_0, zlt_0, zeq_m, zeq_1, zge_0, zbt0, zbt1, zB_0, zB_1, zB_b, zbool_0, zbool_1, ↓reduceIte, x1, x2, a1, c1, Bool.true_eq_false, Bool.not_false]
        · show f_M_place _ 91 _ _ = _
          simp (disch := (first | omega | assumption)) only [f_M_place, zg_12, gp_12_53, ai_115, zbs, nI_add, pk_mul, znI_add1, znI_sub1, znI_subm, zle_nI, zlt_nI, zeq_nI, zle_0, zeq_0, zlt_0, zeq_m, zeq_1, zge_0, zbt0, zbt1, zB_0, zB_1, zB_b, zbool_0, zbool_1, ↓reduceIte, m1', m2', b1, b2, e, Bool.true_eq_false]
    · rw [hb] at m2
      have x2 := g_W_isHere0 (J := J) (t := t) (u := u) (i := i) (f := f) (s := s) (x := x) ht hX.2.1.1 hb
      refine ⟨-1, I, J, s, I, J, ?_, ?_, zfr_refl _ _, Or.inl rfl⟩
      · show f_W_place _ 0 _ _ = _
        simp (disch := (first | omega | assumption)) only [f_W_place, zg_11, gp_11_9, gp_11_2, gp_11_5, zbs, nI_add, pk_mul, znI_add1, znI_sub1, znI_subm, zle_nI, zlt_nI, zeq_nI, zle_0, zeq_0, zlt_0, zeq_m, zeq_1, zge_0, zbt0, zbt1, zB_0, zB_1, zB_b, zbool_0, zbool_1, ↓reduceIte, x1, x2, Bool.true_eq_false]
      · show f_M_place _ 91 _ _ = _
        simp (disch := (first | omega | assumption)) only [f_M_place, zg_12, gp_12_53, ai_115, zbs, nI_add, pk_mul, znI_add1, znI_sub1, znI_subm, zle_nI, zlt_nI, zeq_nI, zle_0, zeq_0, zlt_0, zeq_m, zeq_1, zge_0, zbt0, zbt1, zB_0, zB_1, zB_b, zbool_0, zbool_1, ↓reduceIte, m1, m2, Bool.true_eq_false]
  · rw [hp] at x1 m1
    refine ⟨-1, I, J, s, I, J, ?_, ?_, zfr_refl _ _, Or.inl rfl⟩
    · show f_W_place _ 0 _ _ = _
      simp (disch := (first | omega | assumption)) only [f_W_place, zg_11, gp_11_9, gp_11_2, gp_11_5, zbs, nI_add, pk_mul, znI_add1, znI_sub1, znI_subm, zle_nI, zlt_nI, zeq_nI, zle_0, zeq_0, zlt_0, zeq_m, zeq_1, zge_0, zbt0, zbt1, zB_0, zB_1, zB_b, zbool_0, zbool_1, ↓reduceIte, x1]
    · show f_M_place _ 91 _ _ = _
      simp (disch := (first | omega | assumption)) only [f_M_place, zg_12, gp_12_53, ai_115, zbs, nI_add, pk_mul, znI_add1, znI_sub1, znI_subm, zle_nI, zlt_nI, zeq_nI, zle_0, zeq_0, zlt_0, zeq_m, zeq_1, zge_0, zbt0, zbt1, zB_0, zB_1, zB_b, zbool_0, zbool_1, ↓reduceIte, m1]
theorem q_book (hC : zCo I t nt nb nr q sh md om im LW BW) (p b : Int32) : zOK2 I J t u i f s x (fun σ => f_W_book σ 0 p b) (fun σ => f_M_book σ 91 p b) := by
  have hC2 := hC
  obtain ⟨ht, ⟨hM, hX, -⟩, hN, -, ho, -⟩ := hC
  have hnb := hM.2.1.2
  have hnr := hM.2.2.1.2
  have x1 := g_W_isParty (J := J) (t := t) (u := u) (i := i) (f := f) (s := s) (x := x) ht hX.2.2.1.1 hnr p
  have m1 := g_M_isParty (J := J) (t := t) (u := u) (i := i) (f := f) (s := s) (x := x) hM.2.2.1.1 hM.2.2.1.2 p
  have hp2 := zp2 (show nr ≤ 10 by omega)
  rcases zlt_cases p (n := 2 ^ nr) (by omega) with ⟨hp, set, hset, rfl⟩ | hp
  · rw [hp] at x1 m1
    obtain ⟨I1, a1, a2, -, a4, a3⟩ := q_open (J := J) (t := t) (u := u) (i := i) (f := f) (s := s) (x := x) hC2
    obtain ⟨I2, c1, c2, c3⟩ := q_lay (J := J) (t := t) (u := u) (i := i) (f := f) (x := x) ht a4 a3 hset
    have hlen := zL_len (I := I) (nt := nt) (nr := nr) (q := q) (om := om) (LW := LW) hnb set
    have d1 := g_S_laidAt (J := J) (t := t) (u := u) (i := i) (f := f) (s := t) (x := x) c3 hlen b
    have f2 : zfr zSg I I2 := zfr_trans a2 (zfr_g c2 zSg_xls)
    have hC3 := zCo_fr hC2 f2
    obtain ⟨I3, I4, b1, b2, -, b3, b4⟩ := q_mlay (J := J) (t := t) (u := u) (i := i) (f := f) (s := t) (x := x) hC3 hset
    rw [zL_fr f2] at b4
    obtain ⟨hM3, -⟩ := hC3.2.1
    have m1' := g_M_isParty (J := J) (t := t) (u := u) (i := i) (f := f) (s := t) (x := x) hM3.2.2.1.1 hM3.2.2.1.2 (nI set)
    rw [hp] at m1'
    have m3 := g_M_isIn b (n := (zL I nt nb nr q om LW set).length) (by omega)
    rcases zlt_cases b (n := (zL I nt nb nr q om LW set).length) (by omega) with ⟨hb, k, hk, rfl⟩ | hb
    · rw [hb] at m3
      rw [if_neg (show ¬ nI k < 0 from nI_pos (by omega)), nI_clamp (by omega), List.getElem?_eq_getElem hk] at d1
      have e := (b4.2.1 k _ (List.getElem?_eq_getElem hk)).1
      refine ⟨nI ((zL I nt nb nr q om LW set)[k]'hk), I2, J, t, I4, J, ?_, ?_, zfr_trans f2 b3, Or.inr rfl⟩
      · show f_W_book _ 0 _ _ = _
        simp (disch := (first | omega | assumption)) only [f_W_book, zg_11, gp_11_9, gp_11_2, gp_11_5, zbs, nI_add, pk_mul, znI_add1, znI_sub1, znI_subm, zle_nI, zlt_nI, zeq_nI, zle_0, zeq_0, zlt_0, zeq_m, zeq_1, zge_0, zbt0, zbt1, zB_0, zB_1, zB_b, zbool_0, zbool_1, ↓reduceIte, x1, a1, c1, d1, Bool.true_eq_false]
      · show f_M_book _ 91 _ _ = _
        simp (disch := (first | omega | assumption)) only [f_M_book, zg_12, gi_12, gp_12_52, ai_114, zbs, nI_add, pk_mul, znI_add1, znI_sub1, znI_subm, zle_nI, zlt_nI, zeq_nI, zle_0, zeq_0, zlt_0, zeq_m, zeq_1, zge_0, zbt0, zbt1, zB_0, zB_1, zB_b, zbool_0, zbool_1, ↓reduceIte, m1', b1, b2, b4.1, m3, e, Bool.true_eq_false]
    · rw [hb] at m3
      have d2 : f_S_laidAt (zs I2 J (zPt t u i f t x)) 47 b = some (-1) := by
        rw [d1]
        by_cases h0 : b < 0
        · simp [h0]
        · obtain ⟨k, hk, rfl⟩ := nI_of h0
          rw [nI_clamp hk, if_neg h0]
          have : ¬ k < (zL I nt nb nr q om LW set).length := fun h => by
            rw [zlt_t h (by omega)] at hb
            cases hb
          rw [List.getElem?_eq_none (by omega)]
      refine ⟨-1, I2, J, t, I4, J, ?_, ?_, zfr_trans f2 b3, Or.inr rfl⟩
      · show f_W_book _ 0 _ _ = _
        simp (disch := (first | omega | assumption)) only [f_W_book, zg_11, gp_11_9, gp_11_2, gp_11_5, zbs, nI_add, pk_mul, znI_add1, znI_sub1, znI_subm, zle_nI, zlt_nI, zeq_nI, zle_0, zeq_0, zlt_0, zeq_m, zeq_1, zge_0, zbt0, zbt1, zB_0, zB_1, zB_b, zbool_0, zbool_1, ↓reduceIte, x1, a1, c1, d2, Bool.true_eq_false]
      · show f_M_book _ 91 _ _ = _
        simp (disch := (first | omega | assumption)) only [f_M_book, zg_12, gi_12, gp_12_52, ai_114, zbs, nI_add, pk_mul, znI_add1, znI_sub1, znI_subm, zle_nI, zlt_nI, zeq_nI, zle_0, zeq_0, zlt_0, zeq_m, zeq_1, zge_0, zbt0, zbt1, zB_0, zB_1, zB_b, zbool_0, zbool_1, ↓reduceIte, m1', b1, b2, b4.1, m3, Bool.true_eq_false]
  · rw [hp] at x1 m1
    refine ⟨-1, I, J, s, I, J, ?_, ?_, zfr_refl _ _, Or.inl rfl⟩
    · show f_W_book _ 0 _ _ = _
      simp (disch := (first | omega | assumption)) only [f_W_book, zg_11, gp_11_9, gp_11_2, gp_11_5, zbs, nI_add, pk_mul, znI_add1, znI_sub1, znI_subm, zle_nI, zlt_nI, zeq_nI, zle_0, zeq_0, zlt_0, zeq_m, zeq_1, zge_0, zbt0, zbt1, zB_0, zB_1, zB_b, zbool_0, zbool_1, ↓reduceIte, x1]
    · show f_M_book _ 91 _ _ = _
      simp (disch := (first | omega | assumption)) only [f_M_book, zg_12, gi_12, gp_12_52, ai_114, zbs, nI_add, pk_mul, znI_add1, znI_sub1, znI_subm, zle_nI, zlt_nI, zeq_nI, zle_0, zeq_0, zlt_0, zeq_m, zeq_1, zge_0, zbt0, zbt1, zB_0, zB_1, zB_b, zbool_0, zbool_1, ↓reduceIte, m1]
theorem q_steps (hC : zCo I t nt nb nr q sh md om im LW BW) (b : Int32) : zOK2 I J t u i f s x (fun σ => f_W_steps σ 0 b) (fun σ => f_M_steps σ 91 b) := by
  have hC2 := hC
  obtain ⟨ht, ⟨hM, hX, -, hsh, -⟩, hN, -, ho, him, -⟩ := hC
  have hnb := hM.2.1.2
  have hnr := hM.2.2.1.2
  have hom := z2n hnb ho.2
  have h4 : I 30 4 = nI om := hN.2.2.2.1.trans ho.1
  have h3 : I 30 3 = nI im := hN.2.2.1.trans him.1
  have m2 := g_M_isBook (J := J) (t := t) (u := u) (i := i) (f := f) (s := s) (x := x) hM.2.1.1 hM.2.1.2 b
  rcases zlt_cases b (n := nb) (by omega) with ⟨hb, b, hbn, rfl⟩ | hb
  · rw [hb] at m2
    have x2 := g_W_isHere1 (J := J) (t := t) (u := u) (i := i) (f := f) (s := s) (x := x) ht hX.2.1.1 hnb h4 hom hbn
    have m3 := g_M_isOut (J := J) (t := t) (u := u) (i := i) (f := f) (s := s) (x := x) ho.1 hom (show b < 10 by omega)
    cases hob : om.testBit b with
    | true =>
      rw [hob] at x2 m3
      refine ⟨-1, I, J, s, I, J, ?_, ?_, zfr_refl _ _, Or.inl rfl⟩
      · show f_W_steps _ 0 _ = _
        simp (disch := (first | omega | assumption)) only [f_W_steps, zg_11, gi_4, gp_11_9, gp_11_2, gp_11_5, zbs, nI_add, pk_mul, znI_add1, znI_sub1, znI_subm, zle_nI, zlt_nI, zeq_nI, zle_0, zeq_0, zlt_0, zeq_m, zeq_1, zge_0, zbt0, zbt1, zB_0, zB_1, zB_b, zbool_0, zbool_1, ↓reduceIte, x2, Bool.not_true]
      · show f_M_steps _ 91 _ = _
        simp (disch := (first | omega | assumption)) only [f_M_steps, zg_12, gp_12_49, gp_12_53, al_111_30, ai_115, zbs, nI_add, pk_mul, znI_add1, znI_sub1, znI_subm, zle_nI, zlt_nI, zeq_nI, zle_0, zeq_0, zlt_0, zeq_m, zeq_1, zge_0, zbt0, zbt1, zB_0, zB_1, zB_b, zbool_0, zbool_1, ↓reduceIte, m2, m3, Bool.true_eq_false]
    | false =>
      rw [hob] at x2
      obtain ⟨I1, a1, a2, -, a4, a3⟩ := q_open (J := J) (t := t) (u := u) (i := i) (f := f) (s := s) (x := x) hC2
      obtain ⟨I2, k, c1, c2, c3⟩ := q_placeFor (J := J) (t := t) (u := u) (i := i) (f := f) (x := x) ht a4 a3 him.2 hbn hob
      have f2 : zfr zSg I I2 := zfr_trans a2 (zfr_g c2 zSg_xls)
      have hC3 := zCo_fr hC2 f2
      obtain ⟨I3, I4, b1, b2, b5, b3, b4⟩ := q_mlay (J := J) (t := t) (u := u) (i := i) (f := f) (s := t) (x := x) hC3 him.2
      rw [zL_fr f2] at b4
      have e := (b4.2.1 k b c3).2
      obtain ⟨hM3, hX3, -, hsh3, -⟩ := hC3.2.1
      have m2' := g_M_isBook (J := J) (t := t) (u := u) (i := i) (f := f) (s := t) (x := x) hM3.2.1.1 hM3.2.1.2 (nI b)
      have m3' := g_M_isOut (J := J) (t := t) (u := u) (i := i) (f := f) (s := t) (x := x) hC3.2.2.2.2.1.1 hom (show b < 10 by omega)
      rw [hb] at m2'
      rw [hob] at m3'
      have hk := zL_lt hnb c3
      have x5 : I1 30 3 = nI im := by rw [zfr_row a2 30 (fun _ => rfl)]; exact h3
      have x6 := g_D_stepsTo (p := k) (J := J) (t := t) (u := u) (i := i) (f := f) (s := t) (x := x) ht hsh3.2.1 hsh3.2.2.1 hsh3.2.2.2 (by omega)
      have y5 : I3 111 30 = nI im := by rw [zfr_row b5 111 (fun _ => rfl)]; exact hC3.2.2.2.2.2.1.1
      have y6 := g_M_stepsTo (p := k) (J := J) (t := t) (u := u) (i := i) (f := f) (s := t) (x := x) (zCo_fr hC3 b3).2.1.2.2.2.1.1 hsh.2.2.1 hsh.2.2.2 (by omega)
      refine ⟨nI (k + 1 + 2 * (k / sh)), I2, J, t, I4, J, ?_, ?_, zfr_trans f2 b3, Or.inr rfl⟩
      · show f_W_steps _ 0 _ = _
        simp (disch := (first | omega | assumption)) only [f_W_steps, zg_11, gi_4, gp_11_9, gp_11_2, gp_11_5, zbs, nI_add, pk_mul, znI_add1, znI_sub1, znI_subm, zle_nI, zlt_nI, zeq_nI, zle_0, zeq_0, zlt_0, zeq_m, zeq_1, zge_0, zbt0, zbt1, zB_0, zB_1, zB_b, zbool_0, zbool_1, ↓reduceIte, x2, a1, x5, c1, x6, Bool.true_eq_false, Bool.not_false]
      · show f_M_steps _ 91 _ = _
        simp (disch := (first | omega | assumption)) only [f_M_steps, zg_12, gp_12_49, gp_12_53, al_111_30, ai_115, zbs, nI_add, pk_mul, znI_add1, znI_sub1, znI_subm, zle_nI, zlt_nI, zeq_nI, zle_0, zeq_0, zlt_0, zeq_m, zeq_1, zge_0, zbt0, zbt1, zB_0, zB_1, zB_b, zbool_0, zbool_1, ↓reduceIte, m2', m3', b1, y5, b2, e, y6, Bool.true_eq_false]
  · rw [hb] at m2
    have x2 := g_W_isHere0 (J := J) (t := t) (u := u) (i := i) (f := f) (s := s) (x := x) ht hX.2.1.1 hb
    refine ⟨-1, I, J, s, I, J, ?_, ?_, zfr_refl _ _, Or.inl rfl⟩
    · show f_W_steps _ 0 _ = _
      simp (disch := (first | omega | assumption)) only [f_W_steps, zg_11, gi_4, gp_11_9, gp_11_2, gp_11_5, zbs, nI_add, pk_mul, znI_add1, znI_sub1, znI_subm, zle_nI, zlt_nI, zeq_nI, zle_0, zeq_0, zlt_0, zeq_m, zeq_1, zge_0, zbt0, zbt1, zB_0, zB_1, zB_b, zbool_0, zbool_1, ↓reduceIte, x2]
    · show f_M_steps _ 91 _ = _
      simp (disch := (first | omega | assumption)) only [f_M_steps, zg_12, gp_12_49, gp_12_53, al_111_30, ai_115, zbs, nI_add, pk_mul, znI_add1, znI_sub1, znI_subm, zle_nI, zlt_nI, zeq_nI, zle_0, zeq_0, zlt_0, zeq_m, zeq_1, zge_0, zbt0, zbt1, zB_0, zB_1, zB_b, zbool_0, zbool_1, ↓reduceIte, m2]
end ZQ2
