/-! rest, whole -/
section ZRh
variable {I : Nat → Nat → Int32} {J : Nat → Nat → Int64} {t u i f s x : Nat} {nt nb nr q sh md om im A : Nat} {LW BW : List Int32}
theorem x_layDownWants (hA : A = 52 ∨ A = 56) (hC : zCo I t nt nb nr q sh md om im LW BW) {m r : Nat} (hm : m ≤ 2) (hr : r < nr) {K : Nat → Nat → Int32} (hW : zRw I A nt nb m r K) {h : Option Nat} (hh : I A 1 = zoI h) (hhb : ∀ v, h = some v → v < (2 * m + 1) ^ nt) {V : List Int32} (hV : zLnx I V) (hVl : V.length ≤ 6) :
    ∃ I', f_W_layDownWants (zs I J (zPt t u i f s x)) 0 A (nI r) = some (zs I' J (zPt t u i f s x)) ∧ zfr (fun a k => a == 75 || (a == 0 && k == 18)) I I' ∧ zLnx I' (V ++ zwl I nt m r h) := by
  have ht := hC.1
  have hnt := hC.2.1.1.1.2
  have hnr := hC.2.1.1.2.2.1.2
  have hR := zR_le (m := m) hm hnt
  have h0 : I t 0 = nI nt := hC.2.1.2.1.1.1
  cases h with
  | none =>
    obtain ⟨I', ⟨a1, a2⟩, a3⟩ := zfor (fun fuel I' k => f_W_layDownWants_20L fuel (zs I' J (zPt t u i f s x)) 0 (nI r) (nI k)) nt (fun k I' => zfr (fun a k => a == 75 || (a == 0 && k == 18)) I I' ∧ zLnx I' (V ++ (List.range k).map (fun k => I 111 (4 * r + k)))) (fun I' => some (zs I' J (zPt t u i f s x)))
      (fun m' k I' hk hi => by
        have hle : ¬ nt ≤ k := by omega
        have e0 : I' t 0 = nI nt := by rw [zfr_row hi.1 t (fun k => by rcases ht with rfl | rfl <;> rfl)]; exact h0
        have e1 : I' 31 (4 * r + k) = I 111 (4 * r + k) := by rw [zfr_row hi.1 31 (fun _ => rfl)]; exact hC.2.2.1.1 (4 * r + k) (by omega)
        obtain ⟨I2, b1, b2, b3⟩ := g_W_layDown (J := J) (t := t) (u := u) (i := i) (f := f) (s := s) (x := x) hi.2 (by rw [List.length_append, List.length_map, List.length_range]; omega) (I 111 (4 * r + k))
        refine ⟨I2, ⟨zfr_trans hi.1 b2, ?_⟩, ?_⟩
        · rw [List.range_succ, List.map_append, ← List.append_assoc]; exact b3
        · show f_W_layDownWants_20L (m' + 1) _ _ _ _ = _
          rw [f_W_layDownWants_20L]
          simp (disch := (first | omega | assumption)) only [f_W_layDownWants_20, gi_10, gp_11_2, gp_11_5, gp_4_0, ai_4_0, mr4, zbs, nI_add, pk_mul, znI_add1, znI_sub1, znI_subm, zle_nI, zlt_nI, zeq_nI, zle_0, zeq_0, zlt_0, zeq_m, zeq_1, zge_0, zbt0, zbt1, zB_0, zB_1, zB_b, zbool_0, zbool_1, ↓reduceIte, e0, hle, Nat.reduceAdd, ai_31, e1, b1])
      (fun m' I' hi => by
        have e0 : I' t 0 = nI nt := by rw [zfr_row hi.1 t (fun k => by rcases ht with rfl | rfl <;> rfl)]; exact h0
        show f_W_layDownWants_20L (m' + 1) _ _ _ _ = _
        rw [f_W_layDownWants_20L]
        simp (disch := (first | omega | assumption)) only [f_W_layDownWants_20, gi_10, gp_11_2, gp_11_5, gp_4_0, ai_4_0, mr4, zbs, nI_add, pk_mul, znI_add1, znI_sub1, znI_subm, zle_nI, zlt_nI, zeq_nI, zle_0, zeq_0, zlt_0, zeq_m, zeq_1, zge_0, zbt0, zbt1, zB_0, zB_1, zB_b, zbool_0, zbool_1, ↓reduceIte, e0, Nat.le_refl]) nt 0 I zfu (by omega) ⟨zfr_refl _ _, by simpa using hV⟩ (zfu_lt (by omega))
    refine ⟨I', ?_, a1, a2⟩
    have hh' : I A 1 = -1 := hh
    simp (disch := (first | omega | assumption)) only [f_W_layDownWants, zg_11, gi_6, zbs, nI_add, pk_mul, znI_add1, znI_sub1, znI_subm, zle_nI, zlt_nI, zeq_nI, zle_0, zeq_0, zlt_0, zeq_m, zeq_1, zge_0, zbt0, zbt1, zB_0, zB_1, zB_b, zbool_0, zbool_1, ↓reduceIte, hh']
    exact a3
  | some v =>
    obtain ⟨I', a1, a2, a3⟩ := x_layDownRow (J := J) (t := t) (u := u) (i := i) (f := f) (s := s) (x := x) hA ht h0 hnt hW (hhb v rfl) hR hV hVl
    refine ⟨I', ?_, a2, a3⟩
    have hv := hhb v rfl
    have hh' : I A 1 = nI v := hh
    have n1 : ¬ nI v = -1 := znI_ne_m1 (by omega)
    simp (disch := (first | omega | assumption)) only [f_W_layDownWants, zg_11, gi_6, zbs, nI_add, pk_mul, znI_add1, znI_sub1, znI_subm, zle_nI, zlt_nI, zeq_nI, zle_0, zeq_0, zlt_0, zeq_m, zeq_1, zge_0, zbt0, zbt1, zB_0, zB_1, zB_b, zbool_0, zbool_1, ↓reduceIte, hh', n1, a1]
theorem m_putWants (hC : zCo I t nt nb nr q sh md om im LW BW) {m r : Nat} (hm : m ≤ 2) (hr : r < nr) {h : Option Nat} (hhb : ∀ v, h = some v → v < (2 * m + 1) ^ nt) {V : List Int32} (hV : zLnm I V) (hVl : V.length ≤ 6) :
    ∃ I', f_M_putWants (zs I J (zPt t u i f s x)) 91 (nI r) (zoI h) (nI m) = some (zs I' J (zPt t u i f s x)) ∧ zfr zSnm I I' ∧ zLnm I' (V ++ zwl I nt m r h) ∧ I' 91 69 = I 91 69 := by
  have hnt := hC.2.1.1.1.2
  have hnr := hC.2.1.1.2.2.1.2
  have hR := zR_le (m := m) hm hnt
  have loop : ∀ (I1 : Nat → Nat → Int32) (hd : Nat → Int32), zfr (zSl [112]) I I1 → (∀ k, k < 4 → I1 112 k = hd k) → ∃ I', f_M_putWants_22L zfu (zs I1 J (zPt t u i f s x)) 91 0 = some (zs I' J (zPt t u i f s x)) ∧ zfr zSnm I I' ∧ zLnm I' (V ++ (List.range nt).map hd) ∧ I' 91 69 = I 91 69 := fun I1 hd hf1 hh => by
    have f1 : zfr zSg I I1 := zfr_gl hf1 (fun a ha k => by simp at ha; subst ha; rfl)
    have hV1 := zLnm_sg hV f1
    obtain ⟨I', ⟨a1, a2⟩, a3⟩ := zfor (fun fuel I' k => f_M_putWants_22L fuel (zs I' J (zPt t u i f s x)) 91 (nI k)) nt (fun k I' => zfr (fun a k => a == 117 || (a == 91 && k == 59)) I1 I' ∧ zLnm I' (V ++ (List.range k).map hd)) (fun I' => some (zs I' J (zPt t u i f s x)))
      (fun m' k I' hk hi => by
        have hle : ¬ nt ≤ k := by omega
        have e0 : I' 91 41 = nI nt := (hi.1 91 41 rfl).trans ((f1 91 41 rfl).trans hC.2.1.1.1.1)
        have eh : I' 112 k = hd k := by rw [zfr_row hi.1 112 (fun _ => rfl)]; exact hh k (by omega)
        obtain ⟨I2, b1, b2, b3⟩ := g_M_lay (J := J) (t := t) (u := u) (i := i) (f := f) (s := s) (x := x) hi.2 (by rw [List.length_append, List.length_map, List.length_range]; omega) (hd k)
        refine ⟨I2, ⟨zfr_trans hi.1 b2, ?_⟩, ?_⟩
        · rw [List.range_succ, List.map_append, ← List.append_assoc]; exact b3
        · show f_M_putWants_22L (m' + 1) _ _ _ = _
          rw [f_M_putWants_22L]
          simp (disch := (first | omega | assumption)) only [f_M_putWants_22, gi_12, gp_12_50, ai_112, zbs, nI_add, pk_mul, znI_add1, znI_sub1, znI_subm, zle_nI, zlt_nI, zeq_nI, zle_0, zeq_0, zlt_0, zeq_m, zeq_1, zge_0, zbt0, zbt1, zB_0, zB_1, zB_b, zbool_0, zbool_1, ↓reduceIte, e0, hle, eh, b1])
      (fun m' I' hi => by
        have e0 : I' 91 41 = nI nt := (hi.1 91 41 rfl).trans ((f1 91 41 rfl).trans hC.2.1.1.1.1)
        show f_M_putWants_22L (m' + 1) _ _ _ = _
        rw [f_M_putWants_22L]
        simp (disch := (first | omega | assumption)) only [f_M_putWants_22, gi_12, gp_12_50, ai_112, zbs, nI_add, pk_mul, znI_add1, znI_sub1, znI_subm, zle_nI, zlt_nI, zeq_nI, zle_0, zeq_0, zlt_0, zeq_m, zeq_1, zge_0, zbt0, zbt1, zB_0, zB_1, zB_b, zbool_0, zbool_1, ↓reduceIte, e0, Nat.le_refl]) nt 0 I1 zfu (by omega) ⟨zfr_refl _ _, by simpa using hV1⟩ (zfu_lt (by omega))
    refine ⟨I', a3, zfr_trans (zfr_mono f1 zSg_nm) (zfr_mono a1 zSm117), a2, ?_⟩
    rw [a1 91 69 rfl, zfr_sl hf1 91 rfl]
  cases h with
  | none =>
    obtain ⟨I1, a1, a2, a3⟩ := g_M_layHand (I := I) (J := J) (t := t) (u := u) (i := i) (f := f) (s := s) (x := x) (show r < 6 by omega) (-1)
    obtain ⟨I', b1, b2, b3, b4⟩ := loop I1 (zhd I r (-1)) a2 a3
    have ez : (List.range nt).map (zhd I r (-1)) = zwl I nt m r none := by
      refine List.map_congr_left (fun k hk => ?_)
      have hk := List.mem_range.mp hk
      unfold zhd
      rw [if_neg (znI_ne_m1 (show k < 2 ^ 31 by omega)), Int32.add_zero]
    rw [ez] at b3
    refine ⟨I', ?_, b2, b3, b4⟩
    have n1 : ¬ (0 : Int32) ≤ zoI none := by decide
    simp (disch := (first | omega | assumption)) only [f_M_putWants, zg_12, zbs, nI_add, pk_mul, znI_add1, znI_sub1, znI_subm, zle_nI, zlt_nI, zeq_nI, zle_0, zeq_0, zlt_0, zeq_m, zeq_1, zge_0, zbt0, zbt1, zB_0, zB_1, zB_b, zbool_0, zbool_1, ↓reduceIte, n1, a1]
    exact b1
  | some v =>
    have hv := hhb v rfl
    obtain ⟨I1, a1, a2, a3⟩ := g_M_layRow (I := I) (J := J) (t := t) (u := u) (i := i) (f := f) (s := s) (x := x) hC.2.1.1.1.1 hnt hm (show v < 625 by omega)
    obtain ⟨I', b1, b2, b3, b4⟩ := loop I1 (zcell m nt v) a2 a3
    refine ⟨I', ?_, b2, b3, b4⟩
    have n1 : (0 : Int32) ≤ zoI (some v) := nI_pos' (show v < 2 ^ 31 by omega)
    have a1 : f_M_layRow (zs I J (zPt t u i f s x)) 91 (zoI (some v)) (nI m) = _ := a1
    simp (disch := (first | omega | assumption)) only [f_M_putWants, zg_12, zbs, nI_add, pk_mul, znI_add1, znI_sub1, znI_subm, zle_nI, zlt_nI, zeq_nI, zle_0, zeq_0, zlt_0, zeq_m, zeq_1, zge_0, zbt0, zbt1, zB_0, zB_1, zB_b, zbool_0, zbool_1, ↓reduceIte, n1, a1]
    exact b1
theorem zwl_fr {I' : Nat → Nat → Int32} (hf : I' 111 = I 111) (m r : Nat) (h : Option Nat) : zwl I' nt m r h = zwl I nt m r h := by
  cases h with
  | none =>
    unfold zwl
    rw [hf]
  | some v => rfl
theorem q_rest (hC : zCo I t nt nb nr q sh md om im LW BW) (r o p : Int32) : zOK3 I J t u i f s x (fun σ => f_W_rest σ 0 r o p) (fun σ => f_M_rest σ 91 r o p) := by
  have ht := hC.1
  have hnb := hC.2.1.1.2.1.2
  have hnr := hC.2.1.1.2.2.1.2
  have hnt := hC.2.1.1.1.2
  have f0 : zfr zSnx I (zup I 0 18 0) := zfr_up (zfr_refl _ _) rfl
  have hC0 := zCo_frn hC (zfr_mono f0 zSnx_n)
  have v0 : zLnx (zup I 0 18 0) [] := ⟨zup_s _ _ _ _, fun k v h => by simp at h⟩
  have x1 := g_W_canPretend (J := J) (t := t) (u := u) (i := i) (f := f) (s := s) (x := x) hC0 r o p
  cases hcan : zcanP r o p nr nb om with
  | false =>
    rw [hcan] at x1
    have f1 : zfr zSnm (zup I 0 18 0) (zup (zup I 0 18 0) 91 59 0) := zfr_up (zfr_refl _ _) rfl
    have hC1 := zCo_frn hC0 (zfr_mono f1 zSnm_n)
    have m1 := g_M_isPair (J := J) (t := t) (u := u) (i := i) (f := f) (s := s) (x := x) hC1 r o p
    rw [hcan] at m1
    refine ⟨-2, [], zup I 0 18 0, J, s, zup (zup I 0 18 0) 91 59 0, J, ?_, ?_, zfr_trans (zfr_mono f0 zSnx_n) (zfr_mono f1 zSnm_n), Or.inl rfl, zLnx_g v0 f1, ⟨zup_s _ _ _ _, fun k v h => by simp at h⟩, by simp⟩
    · show f_W_rest _ 0 _ _ _ = _
      simp (disch := (first | omega | assumption)) only [f_W_rest, zg_11, si_11, gp_11_9, gp_11_2, gp_11_5, gp_11_10, gp_11_11, zbs, nI_add, pk_mul, znI_add1, znI_sub1, znI_subm, zle_nI, zlt_nI, zeq_nI, zle_0, zeq_0, zlt_0, zeq_m, zeq_1, zge_0, zbt0, zbt1, zB_0, zB_1, zB_b, zbool_0, zbool_1, ↓reduceIte, x1]
    · show f_M_rest _ 91 _ _ _ = _
      simp (disch := (first | omega | assumption)) only [f_M_rest, zg_12, si_12, zbs, nI_add, pk_mul, znI_add1, znI_sub1, znI_subm, zle_nI, zlt_nI, zeq_nI, zle_0, zeq_0, zlt_0, zeq_m, zeq_1, zge_0, zbt0, zbt1, zB_0, zB_1, zB_b, zbool_0, zbool_1, ↓reduceIte, m1]
  | true =>
    rw [hcan] at x1
    obtain ⟨r, o, m, hr, ho, hro, hm1, hm, rfl, rfl, rfl, hall⟩ := zcanP_t hnr hcan
    have hR := zR_le (m := m) hm hnt
    have hor := zor_I hnr hr ho
    obtain ⟨b1, hbest1, hb1, ho1⟩ := zown_book hC0 hall r
    obtain ⟨b2, hbest2, hb2, ho2⟩ := zown_book hC0 hall o
    -- the class
    obtain ⟨I1, a1, a2, a5, a4, a3⟩ := q_open (J := J) (t := t) (u := u) (i := i) (f := f) (s := s) (x := x) hC0
    have first : ∀ r' b, r' < nr → zbest (zokO om) (zKy (zup I 0 18 0) nt LW r') nb = some b → f_S_firstOf (zs I1 J (zPt t u i f t x)) 47 (nI r') = some (nI b) := fun r' b hr' hb => by
      have p1 := g_S_firstOf (J := J) (t := t) (u := u) (i := i) (f := f) (x := x) ht a4.1 hnb a4.2.2.2.2.2.2.1 a4.2.2.2.2.2.2.2.1 (show r' < 6 by omega)
      have e : zbest (fun b => (zhm nb om).testBit b) (zKx I1 r') nb = some b := by
        rw [← hb]
        exact zbest_congr (fun b hb => zhm_ok hnb hb) (fun b hb _ => a3 r' b hr' hb)
      rw [e] at p1
      exact p1
    have p1 := first r b1 hr hbest1
    have p2 := first o b2 ho hbest2
    have hC1 := zCo_fr hC0 a2
    obtain ⟨I2, c1, c2, c4, c3⟩ := g_R_fill (A := 52) (J := J) (t := t) (u := u) (i := i) (f := f) (x := x) (Or.inl rfl) hC1 hm hr
    have f2 : zfr zSg (zup I 0 18 0) I2 := zfr_trans a2 (zfr_g c2 (zSg_rs (Or.inl rfl) ht))
    have hC2 := zCo_fr hC0 f2
    obtain ⟨I3, d1, d2, d4, d3⟩ := g_R_fill (A := 56) (J := J) (t := t) (u := u) (i := i) (f := f) (x := x) (Or.inr rfl) hC2 hm ho
    have f3 : zfr zSg (zup I 0 18 0) I3 := zfr_trans f2 (zfr_g d2 (zSg_rs (Or.inr rfl) ht))
    have eK1 : (fun v b => zkm I1 nt LW (zcell m nt v) r b) = fun v b => zkm (zup I 0 18 0) nt LW (zcell m nt v) r b := funext fun v => zfK_fr a2 m r v
    have eK2 : (fun v b => zkm I2 nt LW (zcell m nt v) o b) = fun v b => zkm (zup I 0 18 0) nt LW (zcell m nt v) o b := funext fun v => zfK_fr f2 m o v
    rw [eK1] at c3
    rw [eK2] at d3
    have r3 : ∀ a, a ≠ 56 → a ≠ 57 → a ≠ 58 → a ≠ 51 → a ≠ t + 7 → I3 a = I2 a := fun a h1 h2 h3 h4 h5 => zRs_row d2 a h1 h2 h3 h4 h5
    have c3' : zRw I3 52 nt nb m r (fun v b => zkm (zup I 0 18 0) nt LW (zcell m nt v) r b) := by
      unfold zRw
      rw [r3 52 (by decide) (by decide) (by decide) (by decide) (by omega), r3 (52 + 1) (by decide) (by decide) (by decide) (by decide) (by omega), r3 (52 + 2) (by decide) (by decide) (by decide) (by decide) (by omega)]
      exact c3
    have e52 : I3 52 1 = zoI none := by rw [r3 52 (by decide) (by decide) (by decide) (by decide) (by omega)]; exact c4.1
    have hS3 : zSh I3 t nb nr q (zhm nb om) := by
      unfold zSh
      rw [r3 t (by omega) (by omega) (by omega) (by omega) (by omega), r3 47 (by decide) (by decide) (by decide) (by decide) (by omega), zRs_row c2 t (by omega) (by omega) (by omega) (by omega) (by omega), zRs_row c2 47 (by decide) (by decide) (by decide) (by decide) (by omega)]
      exact a4
    have hKh0 : ∀ r' b, r' < nr → b < nb → zKy (zup I 0 18 0) nt LW r' b = zKh (zup I 0 18 0) nt m LW r o (none, none) r' b := fun r' b _ _ => by
      unfold zKh zKw zKA
      by_cases h1 : r' = o
      · rw [if_pos h1, h1]
      · rw [if_neg h1]
        by_cases h2 : r' = r
        · rw [if_pos h2, h2]
        · rw [if_neg h2]
    have hK3 : ∀ r' b, r' < nr → b < nb → zKx I3 r' b = zKh (zup I 0 18 0) nt m LW r o (none, none) r' b := fun r' b hr' hb => by
      rw [← hKh0 r' b hr' hb, ← a3 r' b hr' hb]
      unfold zKx
      rw [r3 48 (by decide) (by decide) (by decide) (by decide) (by omega), zRs_row c2 48 (by decide) (by decide) (by decide) (by decide) (by omega)]
    obtain ⟨I4, g1, g2, g3, g4⟩ := x_restL (J := J) (t := t) (u := u) (i := i) (f := f) (x := x) hC0 hm hr ho hro hb1 ho1 hb2 ho2 20 1 (none, none) I3 zfu (by decide) (zfu_lt (by decide)) f3 hS3 c3' d3 e52 d4.1 (fun v h => by cases h) (fun v h => by cases h) hK3
    have hC4 := zCo_fr hC0 g1
    have v4 := zLnx_sg v0 g1
    -- the reference
    have ref : ∀ I5, zfr zSnx (zup I 0 18 0) I5 → ∃ I6 I7, f_M_rest (zs I5 J (zPt t u i f t x)) 91 (nI r) (nI o) (nI m) = f_M_rest_49L zfu (zs I6 J (zPt t u i f t x)) 91 (nI r) (nI o) (nI m) (nI b1) (nI b2) 1 ∧ zfr zSnm I5 I7 ∧ zLnm I7 [] ∧ (match zrf (zrtn (zup I 0 18 0) nt nb nr q om m LW r o b1 b2) 20 1 (none, none) with
        | none => f_M_rest_49L zfu (zs I6 J (zPt t u i f t x)) 91 (nI r) (nI o) (nI m) (nI b1) (nI b2) 1 = some (-1, (zs I7 J (zPt t u i f t x)))
        | some p => f_M_rest_49L zfu (zs I6 J (zPt t u i f t x)) 91 (nI r) (nI o) (nI m) (nI b1) (nI b2) 1 = f_M_rest_119 (zs I7 J (zPt t u i f t x)) 91 (nI r) (nI o) (nI m) (nI p.1) ∧ I7 91 68 = zoI p.2.1 ∧ I7 91 69 = zoI p.2.2) := fun I5 f5 => by
      have g0 : zfr zSnm I5 (zup I5 91 59 0) := zfr_up (zfr_refl _ _) rfl
      have hC5 := zCo_frn hC0 (zfr_trans (zfr_mono f5 zSnx_n) (zfr_mono g0 zSnm_n))
      have w0 : zLnm (zup I5 91 59 0) [] := ⟨zup_s _ _ _ _, fun k v h => by simp at h⟩
      have hk5 : zKy (zup I5 91 59 0) nt LW = zKy (zup I 0 18 0) nt LW := by rw [zKy_frn (zfr_mono g0 zSnm_n), zKy_frn (zfr_mono f5 zSnx_n)]
      have m1 := g_M_isPair (J := J) (t := t) (u := u) (i := i) (f := f) (s := t) (x := x) hC5 (nI r) (nI o) (nI m)
      rw [hcan] at m1
      obtain ⟨I8, v, o1', o2', -, o4⟩ := g_M_ownBook (J := J) (t := t) (u := u) (i := i) (f := f) (s := t) (x := x) hC5 hr
      rw [hk5] at o4
      have hv := o4 b1 hbest1
      subst hv
      have hC8 := zCo_fr hC5 o2'
      obtain ⟨I9, v, n1, n2, -, n4⟩ := g_M_ownBook (J := J) (t := t) (u := u) (i := i) (f := f) (s := t) (x := x) hC8 ho
      rw [zKy_fr o2', hk5] at n4
      have hv := n4 b2 hbest2
      subst hv
      have f9 : zfr zSg (zup I5 91 59 0) (zup (zup I9 91 68 (-1)) 91 69 (-1)) := zfr_up (zfr_up (zfr_trans o2' n2) rfl) rfl
      have hC9 := zCo_fr hC5 f9
      obtain ⟨I10, l1, l2, l4, l3⟩ := q_layAll (J := J) (t := t) (u := u) (i := i) (f := f) (s := t) (x := x) hC9
      rw [zKy_fr f9, hk5] at l3
      have f10 : zfr zSg (zup I5 91 59 0) I10 := zfr_trans f9 l2
      have hky : ∀ h r' b', zKh (zup I5 91 59 0) nt m LW r o h r' b' = zKh (zup I 0 18 0) nt m LW r o h r' b' := fun h r' b' => by
        have ez : ∀ r k, zKA (zup I5 91 59 0) nt m LW r k = zKA (zup I 0 18 0) nt m LW r k := fun r k => by
          cases k with
          | none => show zKy _ nt LW r = zKy _ nt LW r; rw [hk5]
          | some v =>
            funext b
            show zkm _ nt LW _ r b = zkm _ nt LW _ r b
            unfold zkm
            rw [zup_ne _ _ _ (by decide), zup_ne _ _ _ (by decide), zup_ne _ _ _ (by decide), zfr_row f5 107 (fun _ => rfl), zfr_row f5 109 (fun _ => rfl), zfr_row f5 111 (fun _ => rfl)]
        unfold zKh
        rw [ez, ez, hk5]
      have hzk : ∀ r v, (fun b => zkm (zup I5 91 59 0) nt LW (zcell m nt v) r b) = fun b => zkm (zup I 0 18 0) nt LW (zcell m nt v) r b := fun r v => by
        funext b
        unfold zkm
        rw [zup_ne _ _ _ (by decide), zup_ne _ _ _ (by decide), zup_ne _ _ _ (by decide), zfr_row f5 107 (fun _ => rfl), zfr_row f5 109 (fun _ => rfl), zfr_row f5 111 (fun _ => rfl)]
      have hstep : zrtn (zup I5 91 59 0) nt nb nr q om m LW r o b1 b2 = zrtn (zup I 0 18 0) nt nb nr q om m LW r o b1 b2 := by
        funext h
        have hkh : ∀ h, zKh (zup I5 91 59 0) nt m LW r o h = zKh (zup I 0 18 0) nt m LW r o h := fun h => by
          funext r' b'
          exact hky h r' b'
        have htk : ∀ r b K h, ztk (zup I5 91 59 0) nt nb nr q om m (2 ^ r ||| 2 ^ o) LW r b K h = ztk (zup I 0 18 0) nt nb nr q om m (2 ^ r ||| 2 ^ o) LW r b K h := fun r b K h => by
          unfold ztk zcs
          simp only [hzk]
        have htk2 : ∀ b K h, ztk (zup I5 91 59 0) nt nb nr q om m (2 ^ r ||| 2 ^ o) LW o b K h = ztk (zup I 0 18 0) nt nb nr q om m (2 ^ r ||| 2 ^ o) LW o b K h := fun b K h => by
          unfold ztk zcs
          simp only [hzk]
        unfold zrtn
        rw [hkh, htk, hkh, htk2]
      obtain ⟨I11, q1, q2⟩ := m_restL (J := J) (t := t) (u := u) (i := i) (f := f) (s := t) (x := x) hC5 hm hr ho hro hb1 ho1 hb2 ho2 20 1 (none, none) I10 zfu (by decide) (zfu_lt (by decide)) f10 (by rw [zfr_sl l4 91 rfl, zup_k _ _ (by decide), zup_s]; rfl) (by rw [zfr_sl l4 91 rfl, zup_s]; rfl) (fun v h => by cases h) (fun v h => by cases h) (fun r' b hr' hb => by rw [hky, ← hKh0 r' b hr' hb]; exact l3 r' b hr' hb)
      rw [hstep] at q2
      refine ⟨I10, I11, ?_, zfr_trans g0 (zfr_mono q1 zSg_nm), zLnm_sg w0 q1, ?_⟩
      · simp (disch := (first | omega | assumption)) only [f_M_rest, zg_12, si_12, zbs, nI_add, pk_mul, znI_add1, znI_sub1, znI_subm, zle_nI, zlt_nI, zeq_nI, zle_0, zeq_0, zlt_0, zeq_m, zeq_1, zge_0, zbt0, zbt1, zB_0, zB_1, zB_b, zbool_0, zbool_1, ↓reduceIte, m1, o1', n1, l1, Bool.true_eq_false]
      · cases hz : zrf (zrtn (zup I 0 18 0) nt nb nr q om m LW r o b1 b2) 20 1 (none, none) with
        | none =>
          rw [hz] at q2
          exact q2
        | some p =>
          rw [hz] at q2
          exact ⟨q2.1, q2.2.1, q2.2.2.1⟩
    have xhead : f_W_rest (zs I J (zPt t u i f s x)) 0 (nI r) (nI o) (nI m) = f_W_rest_99L zfu (zs I3 J (zPt t u i f t x)) 0 (nI r) (nI o) (nI (2 ^ r ||| 2 ^ o)) (nI b1) (nI b2) 1 := by
      simp (disch := (first | omega | assumption)) only [f_W_rest, zg_11, si_11, gp_11_9, gp_11_2, gp_11_5, gp_11_10, gp_11_11, zbs, nI_add, pk_mul, znI_add1, znI_sub1, znI_subm, zle_nI, zlt_nI, zeq_nI, zle_0, zeq_0, zlt_0, zeq_m, zeq_1, zge_0, zbt0, zbt1, zB_0, zB_1, zB_b, zbool_0, zbool_1, ↓reduceIte, x1, a1, p1, p2, c1, d1, hor, Bool.true_eq_false]
    cases hz : zrf (zrtn (zup I 0 18 0) nt nb nr q om m LW r o b1 b2) 20 1 (none, none) with
    | none =>
      rw [hz] at g4
      obtain ⟨I6, I7, r1, r2, r4, r5⟩ := ref I4 (zfr_mono g1 zSg_nx)
      rw [hz] at r5
      refine ⟨-1, [], I4, J, t, I7, J, xhead.trans g4, r1.trans r5, zfr_trans (zfr_mono (zfr_trans f0 (zfr_mono g1 zSg_nx)) zSnx_n) (zfr_mono r2 zSnm_n), Or.inr rfl, zLnx_g v4 r2, r4, by simp⟩
    | some p =>
      rw [hz] at g4
      obtain ⟨n, h1, h2⟩ := p
      dsimp only at g4
      obtain ⟨g4, g5, g6, g7, g8⟩ := g4
      obtain ⟨I5, y1, y2, y3⟩ := x_layDownWants (A := 52) (J := J) (t := t) (u := u) (i := i) (f := f) (s := t) (x := x) (Or.inl rfl) hC4 hm hr g2 g5 g7 v4 (by simp)
      rw [List.nil_append] at y3
      have R5 : ∀ a, a ≠ 75 → a ≠ 0 → I5 a = I4 a := fun a h1 h2 => zfr_row y2 a (fun k => by simp [h1, h2])
      have hC5 := zCo_frn hC4 (zfr_mono (zfr_mono y2 zSx75) zSnx_n)
      have g3' : zRw I5 56 nt nb m o (fun v b => zkm (zup I 0 18 0) nt LW (zcell m nt v) o b) := by
        unfold zRw
        rw [R5 56 (by decide) (by decide), R5 (56 + 1) (by decide) (by decide), R5 (56 + 2) (by decide) (by decide)]
        exact g3
      obtain ⟨I6, z1, z2, z3⟩ := x_layDownWants (A := 56) (h := h2) (J := J) (t := t) (u := u) (i := i) (f := f) (s := t) (x := x) (Or.inr rfl) hC5 hm ho g3' (by rw [R5 56 (by decide) (by decide)]; exact g6) g8 y3 (by rw [zwl_len]; omega)
      have f6 : zfr zSnx (zup I 0 18 0) I6 := zfr_trans (zfr_mono g1 zSg_nx) (zfr_trans (zfr_mono y2 zSx75) (zfr_mono z2 zSx75))
      obtain ⟨I7, I8, r1, r2, r4, r5⟩ := ref I6 f6
      rw [hz] at r5
      dsimp only at r5
      have hC6 := zCo_frn hC0 (zfr_mono f6 zSnx_n)
      have hC8 := zCo_frn hC6 (zfr_mono r2 zSnm_n)
      obtain ⟨I9, w1, w2, w3, w4⟩ := m_putWants (h := h1) (J := J) (t := t) (u := u) (i := i) (f := f) (s := t) (x := x) hC8 hm hr g7 r4 (by simp)
      rw [List.nil_append] at w3
      have hC9 := zCo_frn hC8 (zfr_mono w2 zSnm_n)
      obtain ⟨I10, q1, q2, q3, -⟩ := m_putWants (h := h2) (J := J) (t := t) (u := u) (i := i) (f := f) (s := t) (x := x) hC9 hm ho g8 w3 (by rw [zwl_len]; omega)
      have e1 : I4 111 = (zup I 0 18 0) 111 := zfr_row g1 111 (fun _ => rfl)
      have e5 : I5 111 = (zup I 0 18 0) 111 := by rw [R5 111 (by decide) (by decide), e1]
      have e8 : I8 111 = (zup I 0 18 0) 111 := by rw [zfr_row r2 111 (fun _ => rfl), zfr_row f6 111 (fun _ => rfl)]
      have e9 : I9 111 = (zup I 0 18 0) 111 := by rw [zfr_row w2 111 (fun _ => rfl), e8]
      rw [zwl_fr e1, zwl_fr e5] at z3
      rw [zwl_fr e8, zwl_fr e9] at q3
      have f10 : zfr zSnm I6 I10 := zfr_trans r2 (zfr_trans w2 q2)
      refine ⟨nI n, _, I6, J, t, I10, J, ?_, ?_, zfr_trans (zfr_mono (zfr_trans f0 f6) zSnx_n) (zfr_mono f10 zSnm_n), Or.inr rfl, zLnx_g z3 f10, q3, ?_⟩
      · refine xhead.trans (Eq.trans g4 ?_)
        simp (disch := (first | omega | assumption)) only [f_W_rest_156, gp_11_10, gp_11_11, zbs, nI_add, pk_mul, znI_add1, znI_sub1, znI_subm, zle_nI, zlt_nI, zeq_nI, zle_0, zeq_0, zlt_0, zeq_m, zeq_1, zge_0, zbt0, zbt1, zB_0, zB_1, zB_b, zbool_0, zbool_1, ↓reduceIte, y1, z1]
      · refine r1.trans (Eq.trans r5.1 ?_)
        have e69 : I9 91 69 = zoI h2 := by rw [w4]; exact r5.2.2
        simp (disch := (first | omega | assumption)) only [f_M_rest_119, gi_12, zbs, nI_add, pk_mul, znI_add1, znI_sub1, znI_subm, zle_nI, zlt_nI, zeq_nI, zle_0, zeq_0, zlt_0, zeq_m, zeq_1, zge_0, zbt0, zbt1, zB_0, zB_1, zB_b, zbool_0, zbool_1, ↓reduceIte, r5.2.1, w1, e69, q1]
      · rw [List.length_append, zwl_len, zwl_len]
        omega
end ZRh
