/-! hide -/
section ZHq
variable {I : Nat → Nat → Int32} {J : Nat → Nat → Int64} {t u i f s x : Nat} {nt nb nr q sh md om im A : Nat} {LW BW : List Int32}
theorem zisIn9 (p : Int32) : f_M_isIn p 0 9 = some (zB (zlt p 10)) := g_M_isIn p (n := 10) (by decide)
theorem zlt10 {p : Int32} (h : zlt p 10 = false) : p < 0 ∨ ¬ p < 0 ∧ (10 : Int32) ≤ p := by
  unfold zlt at h
  simp at h
  by_cases h0 : p < 0
  · exact Or.inl h0
  · refine Or.inr ⟨h0, ?_⟩
    exact h (by simpa using h0)
theorem x_hide_end {I0 I1 I3 I4 I6 : Nat → Nat → Int32} {J4 : Nat → Nat → Int64} {r b m : Int32} {p h v n : Nat} (hI : zup I 0 18 0 = I0) (x1 : f_W_isReader (zs I0 J (zPt t u i f s x)) 0 r = some (zB true)) (x2 : f_W_isHere (zs I0 J (zPt t u i f s x)) 0 b = some (zB (!false))) (hp : ¬ 10 ≤ p) (hp' : p < 10) (x3 : f_R_canBe m = some (zB true))
    (a1 : f_S_open (zs I0 J (zPt t u i f s x)) 47 t 30 = some (zs I1 J (zPt t u i f t x))) (c1 : f_R_fill (zs I1 J (zPt t u i f t x)) 52 47 30 r m = some (zs I3 J (zPt t u i f t x))) (d1 : f_O_collect (zs I3 J (zPt t u i f t x)) 60 47 52 r = some (zs I4 J4 (zPt t u i f t x))) (e1 : f_O_mostHad (zs I4 J4 (zPt t u i f t x)) 60 b (nI p) = some (nI h)) (hh : h < 625) (u2 : I4 62 h = nI v)
    (y1 : f_W_layDownRow (zs I4 J4 (zPt t u i f t x)) 0 52 (nI v) = some (zs I6 J4 (zPt t u i f t x))) (u4 : I6 63 h = nI n) : f_W_hide (zs I J (zPt t u i f s x)) 0 r b (nI p) m = some (nI n, (zs I6 J4 (zPt t u i f t x))) := by
  have q1 : f_O_firstRow (zs I4 J4 (zPt t u i f t x)) 60 (nI h) = some (nI v) := by
    simp (disch := (first | omega | assumption)) only [f_O_firstRow, zg_5, gp_5_1, ai_62, zbs, nI_add, pk_mul, znI_add1, znI_sub1, znI_subm, zle_nI, zlt_nI, zeq_nI, zle_0, zeq_0, zlt_0, zeq_m, zeq_1, zge_0, zbt0, zbt1, zB_0, zB_1, zB_b, zbool_0, zbool_1, ↓reduceIte, u2]
  have q2 : f_O_howMany (zs I6 J4 (zPt t u i f t x)) 60 (nI h) = some (nI n) := by
    simp (disch := (first | omega | assumption)) only [f_O_howMany, zg_5, gp_5_2, ai_63, zbs, nI_add, pk_mul, znI_add1, znI_sub1, znI_subm, zle_nI, zlt_nI, zeq_nI, zle_0, zeq_0, zlt_0, zeq_m, zeq_1, zge_0, zbt0, zbt1, zB_0, zB_1, zB_b, zbool_0, zbool_1, ↓reduceIte, u4]
  have hne : (nI h = -1) = False := zeq_m (by omega)
  clear u2 u4
  simp (disch := (first | omega | assumption)) only [f_W_hide, zg_11, si_11, gp_11_9, gp_11_2, gp_11_5, gp_11_10, gp_11_12, ge10, zbs, nI_add, pk_mul, znI_add1, znI_sub1, znI_subm, zle_nI, zlt_nI, zeq_nI, zle_0, zeq_0, zlt_0, zeq_m, zeq_1, zge_0, zbt0, zbt1, zB_0, zB_1, zB_b, zbool_0, zbool_1, ↓reduceIte, hI, x1, x2, x3, hp, a1, c1, d1, e1, hne, q1, y1, q2, Bool.true_eq_false, Bool.not_false]
theorem q_hide (hC : zCo I t nt nb nr q sh md om im LW BW) (r b p m : Int32) : zOK3 I J t u i f s x (fun σ => f_W_hide σ 0 r b p m) (fun σ => f_M_hide σ 91 r b p m) := by
  have ht := hC.1
  have hnb := hC.2.1.1.2.1.2
  have hnr := hC.2.1.1.2.2.1.2
  have hnt := hC.2.1.1.1.2
  have f0 : zfr zSnx I (zup I 0 18 0) := zfr_up (zfr_refl _ _) rfl
  have hC0 := zCo_frn hC (zfr_mono f0 zSnx_n)
  have v0 : zLnx (zup I 0 18 0) [] := ⟨zup_s _ _ _ _, fun k v h => by simp at h⟩
  have f1 : zfr zSnm (zup I 0 18 0) (zup (zup I 0 18 0) 91 59 0) := zfr_up (zfr_refl _ _) rfl
  have hC1 := zCo_frn hC0 (zfr_mono f1 zSnm_n)
  have hom := z2n hnb hC.2.2.2.2.1.2
  have refuse : f_W_hide (zs I J (zPt t u i f s x)) 0 r b p m = some (-1, (zs (zup I 0 18 0) J (zPt t u i f s x))) → f_M_hide (zs (zup I 0 18 0) J (zPt t u i f s x)) 91 r b p m = some (-1, (zs (zup (zup I 0 18 0) 91 59 0) J (zPt t u i f s x))) → zOK3 I J t u i f s x (fun σ => f_W_hide σ 0 r b p m) (fun σ => f_M_hide σ 91 r b p m) := fun h1 h2 =>
    ⟨-1, [], zup I 0 18 0, J, s, zup (zup I 0 18 0) 91 59 0, J, h1, h2, zfr_trans (zfr_mono f0 zSnx_n) (zfr_mono f1 zSnm_n), Or.inl rfl, zLnx_g v0 f1, ⟨zup_s _ _ _ _, fun k v h => by simp at h⟩, by simp⟩
  have x1 := g_W_isReader (J := J) (t := t) (u := u) (i := i) (f := f) (s := s) (x := x) ht hC0.2.1.2.1.2.2.1.1 r
  have m1 := g_M_isReader (J := J) (t := t) (u := u) (i := i) (f := f) (s := s) (x := x) hC1.2.1.1.2.2.1.1 hnr r
  rcases zlt_cases r (n := nr) (by omega) with ⟨hr, r', hr', rfl⟩ | hr
  rotate_left 1
  · rw [hr] at x1 m1
    refine refuse ?_ ?_
    · simp (disch := (first | omega | assumption)) only [f_W_hide, zg_11, si_11, gp_11_9, gp_11_2, gp_11_5, gp_11_10, gp_11_12, ge10, zbs, nI_add, pk_mul, znI_add1, znI_sub1, znI_subm, zle_nI, zlt_nI, zeq_nI, zle_0, zeq_0, zlt_0, zeq_m, zeq_1, zge_0, zbt0, zbt1, zB_0, zB_1, zB_b, zbool_0, zbool_1, ↓reduceIte, x1]
    · simp (disch := (first | omega | assumption)) only [f_M_hide, zg_12, si_12, zbs, nI_add, pk_mul, znI_add1, znI_sub1, znI_subm, zle_nI, zlt_nI, zeq_nI, zle_0, zeq_0, zlt_0, zeq_m, zeq_1, zge_0, zbt0, zbt1, zB_0, zB_1, zB_b, zbool_0, zbool_1, ↓reduceIte, m1]
  rw [hr] at x1 m1
  have m2 := g_M_isBook (J := J) (t := t) (u := u) (i := i) (f := f) (s := s) (x := x) hC1.2.1.1.2.1.1 hnb b
  rcases zlt_cases b (n := nb) (by omega) with ⟨hb, b', hb', rfl⟩ | hb
  rotate_left 1
  · have x2 := g_W_isHere0 (J := J) (t := t) (u := u) (i := i) (f := f) (s := s) (x := x) ht hC0.2.1.2.1.2.1.1 hb
    rw [hb] at m2
    refine refuse ?_ ?_
    · simp (disch := (first | omega | assumption)) only [f_W_hide, zg_11, si_11, gp_11_9, gp_11_2, gp_11_5, gp_11_10, gp_11_12, ge10, zbs, nI_add, pk_mul, znI_add1, znI_sub1, znI_subm, zle_nI, zlt_nI, zeq_nI, zle_0, zeq_0, zlt_0, zeq_m, zeq_1, zge_0, zbt0, zbt1, zB_0, zB_1, zB_b, zbool_0, zbool_1, ↓reduceIte, x1, x2, Bool.true_eq_false]
    · simp (disch := (first | omega | assumption)) only [f_M_hide, zg_12, si_12, zbs, nI_add, pk_mul, znI_add1, znI_sub1, znI_subm, zle_nI, zlt_nI, zeq_nI, zle_0, zeq_0, zlt_0, zeq_m, zeq_1, zge_0, zbt0, zbt1, zB_0, zB_1, zB_b, zbool_0, zbool_1, ↓reduceIte, m1, m2, Bool.true_eq_false]
  rw [hb] at m2
  have h4 : zup I 0 18 0 30 4 = nI om := hC0.2.2.1.2.2.2.1.trans hC0.2.2.2.2.1.1
  have x2 := g_W_isHere1 (J := J) (t := t) (u := u) (i := i) (f := f) (s := s) (x := x) ht hC0.2.1.2.1.2.1.1 hnb h4 hom hb'
  have m3 := g_M_isOut (J := J) (t := t) (u := u) (i := i) (f := f) (s := s) (x := x) hC1.2.2.2.2.1.1 hom (show b' < 10 by omega)
  cases hob : om.testBit b' with
  | true =>
    rw [hob] at x2 m3
    refine refuse ?_ ?_
    · simp (disch := (first | omega | assumption)) only [f_W_hide, zg_11, si_11, gp_11_9, gp_11_2, gp_11_5, gp_11_10, gp_11_12, ge10, zbs, nI_add, pk_mul, znI_add1, znI_sub1, znI_subm, zle_nI, zlt_nI, zeq_nI, zle_0, zeq_0, zlt_0, zeq_m, zeq_1, zge_0, zbt0, zbt1, zB_0, zB_1, zB_b, zbool_0, zbool_1, ↓reduceIte, x1, x2, Bool.true_eq_false, Bool.not_true]
    · simp (disch := (first | omega | assumption)) only [f_M_hide, zg_12, si_12, zbs, nI_add, pk_mul, znI_add1, znI_sub1, znI_subm, zle_nI, zlt_nI, zeq_nI, zle_0, zeq_0, zlt_0, zeq_m, zeq_1, zge_0, zbt0, zbt1, zB_0, zB_1, zB_b, zbool_0, zbool_1, ↓reduceIte, m1, m2, m3, Bool.true_eq_false]
  | false =>
    rw [hob] at x2 m3
    have m4 := zisIn9 p
    rcases zlt_cases p (n := 10) (by omega) with ⟨hp, p', hp', rfl⟩ | hp
    rotate_left 1
    · rw [hp] at m4
      refine refuse ?_ ?_
      · rcases zlt10 hp with h | ⟨h, h'⟩
        · simp (disch := (first | omega | assumption)) only [f_W_hide, zg_11, si_11, gp_11_9, gp_11_2, gp_11_5, gp_11_10, gp_11_12, ge10, zbs, nI_add, pk_mul, znI_add1, znI_sub1, znI_subm, zle_nI, zlt_nI, zeq_nI, zle_0, zeq_0, zlt_0, zeq_m, zeq_1, zge_0, zbt0, zbt1, zB_0, zB_1, zB_b, zbool_0, zbool_1, ↓reduceIte, x1, x2, h, Bool.true_eq_false, Bool.not_false]
        · simp (disch := (first | omega | assumption)) only [f_W_hide, zg_11, si_11, gp_11_9, gp_11_2, gp_11_5, gp_11_10, gp_11_12, ge10, zbs, nI_add, pk_mul, znI_add1, znI_sub1, znI_subm, zle_nI, zlt_nI, zeq_nI, zle_0, zeq_0, zlt_0, zeq_m, zeq_1, zge_0, zbt0, zbt1, zB_0, zB_1, zB_b, zbool_0, zbool_1, ↓reduceIte, x1, x2, h, h', Bool.true_eq_false, Bool.not_false]
      · simp (disch := (first | omega | assumption)) only [f_M_hide, zg_12, si_12, zbs, nI_add, pk_mul, znI_add1, znI_sub1, znI_subm, zle_nI, zlt_nI, zeq_nI, zle_0, zeq_0, zlt_0, zeq_m, zeq_1, zge_0, zbt0, zbt1, zB_0, zB_1, zB_b, zbool_0, zbool_1, ↓reduceIte, m1, m2, m3, m4, Bool.true_eq_false]
    rw [hp] at m4
    have hp10 : ¬ 10 ≤ p' := by omega
    have x3 := zcanBe m
    have m5 := zisIn12 m
    cases hmm : (decide (m = 1) || decide (m = 2)) with
    | false =>
      rw [hmm] at x3 m5
      refine refuse ?_ ?_
      · simp (disch := (first | omega | assumption)) only [f_W_hide, zg_11, si_11, gp_11_9, gp_11_2, gp_11_5, gp_11_10, gp_11_12, ge10, zbs, nI_add, pk_mul, znI_add1, znI_sub1, znI_subm, zle_nI, zlt_nI, zeq_nI, zle_0, zeq_0, zlt_0, zeq_m, zeq_1, zge_0, zbt0, zbt1, zB_0, zB_1, zB_b, zbool_0, zbool_1, ↓reduceIte, x1, x2, x3, hp10, Bool.true_eq_false, Bool.not_false]
      · simp (disch := (first | omega | assumption)) only [f_M_hide, zg_12, si_12, zbs, nI_add, pk_mul, znI_add1, znI_sub1, znI_subm, zle_nI, zlt_nI, zeq_nI, zle_0, zeq_0, zlt_0, zeq_m, zeq_1, zge_0, zbt0, zbt1, zB_0, zB_1, zB_b, zbool_0, zbool_1, ↓reduceIte, m1, m2, m3, m4, m5, Bool.true_eq_false]
    | true =>
      rw [hmm] at x3 m5
      obtain ⟨m', hm1, hm, rfl⟩ : ∃ m', 1 ≤ m' ∧ m' ≤ 2 ∧ m = nI m' := by
        simp only [Bool.or_eq_true, decide_eq_true_eq] at hmm
        rcases hmm with rfl | rfl
        · exact ⟨1, by decide, by decide, rfl⟩
        · exact ⟨2, by decide, by decide, rfl⟩
      have hR := zR_le (m := m') hm hnt
      generalize hKR : (fun v b => zkm (zup I 0 18 0) nt LW (zcell m' nt v) r' b) = KR
      -- the class
      obtain ⟨I1, a1, a2, a5, a4, a3⟩ := q_open (J := J) (t := t) (u := u) (i := i) (f := f) (s := s) (x := x) hC0
      have hC2 := zCo_fr hC0 a2
      obtain ⟨I3, c1, c2, -, c3⟩ := g_R_fill (A := 52) (J := J) (t := t) (u := u) (i := i) (f := f) (x := x) (Or.inl rfl) hC2 hm hr'
      have eKR : (fun v b => zkm I1 nt LW (zcell m' nt v) r' b) = KR := by
        rw [← hKR]
        funext v
        exact zfK_fr a2 m' r' v
      rw [eKR] at c3
      have hS3 : zSh I3 t nb nr q (zhm nb om) := by
        unfold zSh
        rw [zRs_row c2 t (by omega) (by omega) (by omega) (by omega) (by omega), zRs_row c2 47 (by decide) (by decide) (by decide) (by decide) (by omega)]
        exact a4
      obtain ⟨I4, J4, d1, d2, d3, d4⟩ := x_collect (A := 52) (J := J) (t := t) (u := u) (i := i) (f := f) (x := x) (K := fun r' b => zKx I3 r' b) (Or.inl rfl) ht hS3 c3 hR hr' (fun _ _ _ _ => rfl)
      have eO : (fun v => zco (zOv (fun r' b => zKx I3 r' b) KR r' q nr nb om v)) = fun v => zco (zOv (zKy I nt LW) KR r' q nr nb om v) := by
        funext v
        rw [zOv_K (K' := zKy I nt LW) hnr hr']
      rw [eO] at d3
      have hod := fun v => zOv_od (K := zKy I nt LW) (KR := KR) (r := r') (q := q) (nr := nr) (om := om) (v := v) hnb
      have hf4 : zfr zSg (zup I 0 18 0) I4 := zfr_trans a2 (zfr_trans (zfr_g c2 (zSg_rs (Or.inl rfl) ht)) (zfr_g d2 zSg_o))
      have hC4 := zCo_fr hC0 hf4
      have v4 := zLnx_sg v0 hf4
      obtain ⟨w, e1, e2⟩ := x_mostHad (I := I4) (J := J4) (t := t) (u := u) (i := i) (f := f) (s := t) (x := x) (b := b') (p := p') (pl := fun v => zps (zOv (zKy I nt LW) KR r' q nr nb om v) b') d3 hR hp' (fun k v hk => by
        obtain ⟨o1, o2, o3, o4, o5⟩ := hod v
        have hmem := o5 b' hb' hob
        obtain ⟨j, hj⟩ := List.getElem?_of_mem hmem
        have hjl := (List.getElem?_eq_some_iff.mp hj).1
        have hjp := zps_at o1 hj
        rw [(d3.2 k v hk).1]
        refine ⟨g_O_placeIn (t := t) (u := u) (i := i) (f := f) (s := t) (x := x) (by rw [o2]; exact d4) o3 o4 o1 hmem, by omega⟩) rfl
      have hce : ∀ v v', zco (zOv (zKy I nt LW) KR r' q nr nb om v) = zco (zOv (zKy I nt LW) KR r' q nr nb om v') → zps (zOv (zKy I nt LW) KR r' q nr nb om v) b' = zps (zOv (zKy I nt LW) KR r' q nr nb om v') b' := fun v v' h => by
        have one : ∀ v, f_O_placeIn (zs I4 J4 (zPt t u i f t x)) 60 (nJ (zco (zOv (zKy I nt LW) KR r' q nr nb om v))) (nI b') = some (nI (zps (zOv (zKy I nt LW) KR r' q nr nb om v) b')) ∧ zps (zOv (zKy I nt LW) KR r' q nr nb om v) b' < 10 := fun v => by
          obtain ⟨o1, o2, o3, o4, o5⟩ := hod v
          have hmem := o5 b' hb' hob
          obtain ⟨j, hj⟩ := List.getElem?_of_mem hmem
          have hjl := (List.getElem?_eq_some_iff.mp hj).1
          have hjp := zps_at o1 hj
          exact ⟨g_O_placeIn (t := t) (u := u) (i := i) (f := f) (s := t) (x := x) (by rw [o2]; exact d4) o3 o4 o1 hmem, by omega⟩
        have h1 := one v
        have h2 := one v'
        rw [h, h2.1] at h1
        have h3 := Option.some.inj h1.1
        have h4 := (zeq_nI (a := zps (zOv (zKy I nt LW) KR r' q nr nb om v') b') (b := zps (zOv (zKy I nt LW) KR r' q nr nb om v) b') (by omega) (by omega)).mp h3
        exact h4.symm
      have hcR : ∀ v, zco (zOv (zKy I nt LW) KR r' q nr nb om v) < 2 ^ 63 := fun v => by
        obtain ⟨o1, o2, o3, o4, o5⟩ := hod v
        exact zco_63 o3 o4
      generalize hPe : (zE (fun v => zco (zOv (zKy I nt LW) KR r' q nr nb om v)) ((2 * m' + 1) ^ nt)).foldl (zhs (fun v => decide (zps (zOv (zKy I nt LW) KR r' q nr nb om v) b' ≤ p')) (fun v => zcnt (fun v => zco (zOv (zKy I nt LW) KR r' q nr nb om v)) ((2 * m' + 1) ^ nt) (zco (zOv (zKy I nt LW) KR r' q nr nb om v)))) (0, 0) = P at e2
      have hPr : P = (List.range ((2 * m' + 1) ^ nt)).foldl (zhs (fun v => decide (zps (zOv (zKy I nt LW) KR r' q nr nb om v) b' ≤ p')) (fun v => zcnt (fun v => zco (zOv (zKy I nt LW) KR r' q nr nb om v)) ((2 * m' + 1) ^ nt) (zco (zOv (zKy I nt LW) KR r' q nr nb om v)))) (0, 0) := by
        rw [← hPe]
        exact (zhs_E (c := fun v => zco (zOv (zKy I nt LW) KR r' q nr nb om v)) (fun v v' h => by rw [hce v v' h]) (fun v v' h => by rw [h]) _).symm
      have ref : ∀ I6, zCo I6 t nt nb nr q sh md om im LW BW → (fun v b => zkm I6 nt LW (zcell m' nt v) r' b) = KR →
          ∃ I7 J7 v6, f_M_hide (zs I6 J4 (zPt t u i f t x)) 91 (nI r') (nI b') (nI p') (nI m') = f_M_hide_269 (zs I7 J7 (zPt t u i f t x)) 91 (nI m') v6 (nI P.2) ∧ zfr zSnm I6 I7 ∧ zLnm I7 [] ∧ ((P.2 = 0 ∧ v6 = -1) ∨ (0 < P.2 ∧ v6 = nI P.1 ∧ P.1 < (2 * m' + 1) ^ nt)) := fun I6 hC6 hkr => by
        have g0 : zfr zSnm I6 (zup I6 91 59 0) := zfr_up (zfr_refl _ _) rfl
        have hC7 := zCo_frn hC6 (zfr_mono g0 zSnm_n)
        have w0 : zLnm (zup I6 91 59 0) [] := ⟨zup_s _ _ _ _, fun k v h => by simp at h⟩
        have n1 := g_M_isReader (J := J4) (t := t) (u := u) (i := i) (f := f) (s := t) (x := x) hC7.2.1.1.2.2.1.1 hnr (nI r')
        have n2 := g_M_isBook (J := J4) (t := t) (u := u) (i := i) (f := f) (s := t) (x := x) hC7.2.1.1.2.1.1 hnb (nI b')
        have n3 := g_M_isOut (J := J4) (t := t) (u := u) (i := i) (f := f) (s := t) (x := x) hC7.2.2.2.2.1.1 hom (show b' < 10 by omega)
        rw [hr] at n1
        rw [hb] at n2
        rw [hob] at n3
        have n6 := g_M_rows (I := zup I6 91 59 0) (J := J4) (t := t) (u := u) (i := i) (f := f) (s := t) (x := x) hC7.2.1.1.1.1 hnt hm
        obtain ⟨I8, J8, y1, y2, y3⟩ := m_codes (J := J4) (t := t) (u := u) (i := i) (f := f) (s := t) (x := x) (K := zKy I nt LW) hC7 hm hr' hb' hob hp'
        have hkr7 : (fun v b => zkm (zup I6 91 59 0) nt LW (zcell m' nt v) r' b) = KR := by
          rw [← hkr]
          funext v b
          unfold zkm
          rw [zup_ne _ _ _ (by decide), zup_ne _ _ _ (by decide), zup_ne _ _ _ (by decide)]
        rw [hkr7] at y3
        obtain ⟨v6, z1, z2⟩ := m_best (I := I8) (J := J8) (t := t) (u := u) (i := i) (f := f) (s := t) (x := x) (c := fun v => zco (zOv (zKy I nt LW) KR r' q nr nb om v)) (g := fun v => decide (zps (zOv (zKy I nt LW) KR r' q nr nb om v) b' ≤ p')) hR (fun v hv => (y3 v hv).1) hcR (fun v hv => (y3 v hv).2) (nI m') hPr
        refine ⟨I8, J8, v6, ?_, zfr_trans g0 (zfr_mono y2 zSg_nm), zLnm_sg w0 y2, z2⟩
        rw [← z1, ← y1]
        simp (disch := (first | omega | assumption)) only [f_M_hide, zg_12, si_12, zbs, nI_add, pk_mul, znI_add1, znI_sub1, znI_subm, zle_nI, zlt_nI, zeq_nI, zle_0, zeq_0, zlt_0, zeq_m, zeq_1, zge_0, zbt0, zbt1, zB_0, zB_1, zB_b, zbool_0, zbool_1, ↓reduceIte, n1, n2, n3, m4, m5, n6, Bool.true_eq_false]
      rcases e2 with ⟨h0, rfl⟩ | ⟨h0, h, hh1, hh2, rfl⟩
      · obtain ⟨I7, J7, v6, r1, r2, r3, r4⟩ := ref I4 hC4 (by rw [← hKR]; funext v; exact zfK_fr hf4 m' r' v)
        have r4 : v6 = -1 := by rcases r4 with ⟨-, h⟩ | ⟨h, -⟩; exact h; omega
        subst r4
        refine ⟨-1, [], I4, J4, t, I7, J7, ?_, ?_, zfr_trans (zfr_mono (zfr_trans f0 (zfr_mono hf4 zSg_nx)) zSnx_n) (zfr_mono r2 zSnm_n), Or.inr rfl, zLnx_g v4 r2, r3, by simp⟩
        · show f_W_hide _ 0 _ _ _ _ = _
          simp (disch := (first | omega | assumption)) only [f_W_hide, zg_11, si_11, gp_11_9, gp_11_2, gp_11_5, gp_11_10, gp_11_12, ge10, zbs, nI_add, pk_mul, znI_add1, znI_sub1, znI_subm, zle_nI, zlt_nI, zeq_nI, zle_0, zeq_0, zlt_0, zeq_m, zeq_1, zge_0, zbt0, zbt1, zB_0, zB_1, zB_b, zbool_0, zbool_1, ↓reduceIte, x1, x2, x3, hp10, a1, c1, d1, e1, Bool.true_eq_false, Bool.not_false]
        · show f_M_hide _ 91 _ _ _ _ = _
          rw [r1]
          have em : ((0 : Int32) ≤ -1) = False := eq_false (by decide)
          simp (disch := (first | omega | assumption)) only [f_M_hide_269, zbs, nI_add, pk_mul, znI_add1, znI_sub1, znI_subm, zle_nI, zlt_nI, zeq_nI, zle_0, zeq_0, zlt_0, zeq_m, zeq_1, zge_0, zbt0, zbt1, zB_0, zB_1, zB_b, zbool_0, zbool_1, ↓reduceIte, em]
      · have hhl := (List.getElem?_eq_some_iff.mp hh1).1
        have hEl := zE_len (fun v => zco (zOv (zKy I nt LW) KR r' q nr nb om v)) ((2 * m' + 1) ^ nt)
        have hc := zE_mem _ _ _ (List.mem_of_getElem? hh1)
        obtain ⟨-, u2, u3⟩ := d3.2 h _ hh1
        have hh625 : h < 625 := by omega
        have hW4 : zRw I4 52 nt nb m' r' KR := by
          unfold zRw
          rw [zfr_row d2 52 (fun _ => rfl), zfr_row d2 53 (fun _ => rfl), zfr_row d2 54 (fun _ => rfl)]
          exact c3
        obtain ⟨I6, y1, y2, y3⟩ := x_layDownRow (A := 52) (J := J4) (t := t) (u := u) (i := i) (f := f) (s := t) (x := x) (Or.inl rfl) ht hC4.2.1.2.1.1.1 hnt hW4 hc hR v4 (by simp)
        rw [List.nil_append] at y3
        have f6 : zfr zSnx (zup I 0 18 0) I6 := zfr_trans (zfr_mono hf4 zSg_nx) (zfr_mono y2 zSx75)
        have hC6 := zCo_frn hC0 (zfr_mono f6 zSnx_n)
        have u4 : I6 63 h = nI P.2 := by rw [zfr_row y2 63 (fun _ => rfl), u3, hh2]
        obtain ⟨I7, J7, v6, r1, r2, r3, r4⟩ := ref I6 hC6 (by
          rw [← hKR]
          funext v b
          unfold zkm
          rw [zfr_row f6 107 (fun _ => rfl), zfr_row f6 109 (fun _ => rfl), zfr_row f6 111 (fun _ => rfl)])
        have r5 : v6 = nI P.1 := by rcases r4 with ⟨h, -⟩ | ⟨-, h, -⟩; omega; exact h
        subst r5
        have hC7 := zCo_frn hC6 (zfr_mono r2 zSnm_n)
        obtain ⟨I8, w1, w2, w3⟩ := g_M_layRow (I := I7) (J := J7) (t := t) (u := u) (i := i) (f := f) (s := t) (x := x) hC7.2.1.1.1.1 hnt hm (show P.1 < 625 by omega)
        have g8 : zfr zSg I7 I8 := zfr_gl w2 (fun a ha k => by simp at ha; subst ha; rfl)
        have hC8 := zCo_fr hC7 g8
        obtain ⟨I9, z1, z2, z3⟩ := m_layRow0 (J := J7) (t := t) (u := u) (i := i) (f := f) (s := t) (x := x) hC8 w3 (zLnm_sg r3 g8) (nI P.2)
        have f9 : zfr zSnm I6 I9 := zfr_trans r2 (zfr_trans (zfr_mono g8 zSg_nm) (zfr_mono z2 zSm117))
        refine ⟨nI P.2, zrow m' nt P.1, I6, J4, t, I9, J7, ?_, ?_, zfr_trans (zfr_mono (zfr_trans f0 f6) zSnx_n) (zfr_mono f9 zSnm_n), Or.inr rfl, zLnx_g y3 f9, z3, ?_⟩
        · show f_W_hide _ 0 _ _ _ _ = _
          exact x_hide_end rfl x1 x2 hp10 hp' x3 a1 c1 d1 e1 hh625 u2 y1 u4
        · show f_M_hide _ 91 _ _ _ _ = _
          rw [r1]
          have hP1 : P.1 < 2 ^ 31 := by omega
          simp (disch := (first | omega | assumption)) only [f_M_hide_269, zbs, nI_add, pk_mul, znI_add1, znI_sub1, znI_subm, zle_nI, zlt_nI, zeq_nI, zle_0, zeq_0, zlt_0, zeq_m, zeq_1, zge_0, zbt0, zbt1, zB_0, zB_1, zB_b, zbool_0, zbool_1, ↓reduceIte, w1, z1]
        · unfold zrow
          rw [List.length_map, List.length_range]
          omega
end ZHq
