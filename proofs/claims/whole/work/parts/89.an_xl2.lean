/-! the class reads a text: a book's line, a reader's -/
theorem ybd_bd {α β γ : Type} (r : yRs α) (k : α → yRs β) (h : β → yRs γ) : (r.bd k).bd h = r.bd fun a => (k a).bd h := by cases r <;> rfl
section ZXb
variable {I : Nat → Nat → Int32} {J : Nat → Nat → Int64} {t u f s : Nat} {B : Nat → Nat} {n : Nat} {ps : yPs}
theorem x_bookLine (hu : u = 2 ∨ u = 13) (hq : yXq I J B n ps.1) (hi : yPi n ps) (hd : yXD I J u ps) (hk : ¬ (ytok B n ps.1).1 = 1) (hl : ps.2.2.1.length < 10) : yLR B n u t s I J (f_T_bookLine (zs I J (zPt t u u f s 1)) 24) ((ynew (ytok B n) ps.2.2.1 (ytok B n ps.1).2.2.2.2).bd fun a => (ybl (ytok B n) ps.2.1 ps.2.2.1.length 5 0 ps.2.2.2.2.1 a.2).bd fun v => yfin (ytok B n) (v.2, ps.2.1, ps.2.2.1 ++ [a.1], ps.2.2.2.1, v.1, ps.2.2.2.2.2.1, ps.2.2.2.2.2.2.1, ps.2.2.2.2.2.2.2.1, ps.2.2.2.2.2.2.2.2.1, ps.2.2.2.2.2.2.2.2.2.1, ps.2.2.2.2.2.2.2.2.2.2.1, ps.2.2.2.2.2.2.2.2.2.2.2.1, ps.2.2.2.2.2.2.2.2.2.2.2.2.1, ps.2.2.2.2.2.2.2.2.2.2.2.2.2.1, ps.2.2.2.2.2.2.2.2.2.2.2.2.2.2)) := by
  obtain ⟨I1, J1, a1, a2, a3⟩ := x_adv (t := t) (u := u) (i := u) (f := f) (s := s) hq hk
  have hd1 := yXD_fs hd a2 hu
  have e0 := hd1.1.2.1
  have e0' : I u 1 = nI ps.2.2.1.length := hd.1.2.1
  have hN := x_new (t := t) (u := u) (f := f) (s := s) zl_28 (by decide) (by decide) hl hi.2.2.2.2.2.1 hd1.2.2.2.2.1 a3
  cases hx : ynew (ytok B n) ps.2.2.1 (ytok B n ps.1).2.2.2.2 with
  | error cp_ =>
    obtain ⟨c, pl⟩ := cp_
    rw [hx] at hN
    obtain ⟨σ', b1, b2⟩ := hN
    refine ⟨σ', ?_, yEX_fr (yfX_fs a2) b2⟩
    simp (disch := (first | omega | assumption)) only [f_T_bookLine, zg_9, gi_10, si_10, gp_9_6, gp_9_2, gp_9_4, zbs, nI_add, pk_mul, znI_add1, znI_sub1, znI_subm, zle_nI, zlt_nI, zeq_nI, zle_0, zeq_0, zlt_0, zeq_m, zeq_1, zge_0, zbt0, zbt1, zB_0, zB_1, zB_b, zbool_0, zbool_1, ↓reduceIte, a1, e0', b1]
  | ok x =>
    rw [hx] at hN
    obtain ⟨I2, J2, b1, b2, b3⟩ := hN
    have e2 : I2 u 1 = nI ps.2.2.1.length := by rw [b2.1 u (by omega)]; exact e0
    have n1 : ¬ (1 : Int32) = 0 := by decide
    have f3 : yfX u I J (zup I2 u 1 (nI (ps.2.2.1.length + 1))) J2 := yfX_trans (yfX_fs a2) (yfX_trans (yfX_J (yfX_refl u I1 J1) (Or.inr (Or.inl rfl))) (yfX_up (yfX_fs b2) (by omega)))
    refine yLR_fr f3 ?_
    have hd3 : yXD (zup I2 u 1 (nI (ps.2.2.1.length + 1))) J2 u (x.2, ps.2.1, ps.2.2.1 ++ [x.1], ps.2.2.2.1, ps.2.2.2.2.1, ps.2.2.2.2.2.1, ps.2.2.2.2.2.2.1, ps.2.2.2.2.2.2.2.1, ps.2.2.2.2.2.2.2.2.1, ps.2.2.2.2.2.2.2.2.2.1, ps.2.2.2.2.2.2.2.2.2.2.1, ps.2.2.2.2.2.2.2.2.2.2.2.1, ps.2.2.2.2.2.2.2.2.2.2.2.2.1, ps.2.2.2.2.2.2.2.2.2.2.2.2.2.1, ps.2.2.2.2.2.2.2.2.2.2.2.2.2.2) := by
      obtain ⟨⟨c0, c1, c2, c3, c4, c5, c6, c9⟩, ⟨r1, r2, r3, r4⟩, ⟨l1, l2⟩, n1, n2, n3⟩ := hd1
      have hz : ∀ a, a ≠ u → a ≠ 25 → zup I2 u 1 (nI (ps.2.2.1.length + 1)) a = I1 a := fun a h1 h2 => (zup_ne _ _ _ h1).trans (b2.1 a h2)
      have hzu : ∀ k, k ≠ 1 → zup I2 u 1 (nI (ps.2.2.1.length + 1)) u k = I1 u k := fun k h => (zup_k _ _ h).trans (by rw [b2.1 u (by omega)])
      unfold yXD yFm yNa
      rw [hz 24 (by omega) (by decide), hz (u + 1) (by omega) (by omega), hz (u + 2) (by omega) (by omega), hz (u + 3) (by omega) (by omega), hz (u + 4) (by omega) (by omega), hz (u + 5) (by omega) (by omega), hz (u + 5 + 1) (by omega) (by omega), hz (u + 8) (by omega) (by omega), hz (u + 8 + 1) (by omega) (by omega), hzu 0 (by decide), hzu 2 (by decide), hzu 3 (by decide), hzu 4 (by decide), hzu 5 (by decide), hzu 6 (by decide)]
      refine ⟨⟨c0, ?_, c2, c3, c4, c5, c6, c9⟩, ⟨r1, r2, r3, r4⟩, ⟨l1, l2⟩, ?_, ?_, ?_⟩
      · rw [zup_s]; simp
      · rw [b2.2 27 (by decide), zup_ne _ _ _ (by decide)]
        exact n1
      · have := yNa_snoc (w := x.1) n2
        rw [b2.2 28 (by decide)]
        exact this
      · rw [b2.2 29 (by decide), zup_ne _ _ _ (by decide)]
        exact n3
    have nx := x_bookLoop (t := t) (f := f) (s := s) (B := B) (n := n) (ps := (x.2, ps.2.1, ps.2.2.1 ++ [x.1], ps.2.2.2.1, ps.2.2.2.2.1, ps.2.2.2.2.2.1, ps.2.2.2.2.2.2.1, ps.2.2.2.2.2.2.2.1, ps.2.2.2.2.2.2.2.2.1, ps.2.2.2.2.2.2.2.2.2.1, ps.2.2.2.2.2.2.2.2.2.2.1, ps.2.2.2.2.2.2.2.2.2.2.2.1, ps.2.2.2.2.2.2.2.2.2.2.2.2.1, ps.2.2.2.2.2.2.2.2.2.2.2.2.2.1, ps.2.2.2.2.2.2.2.2.2.2.2.2.2.2)) hu hl hi.2.1 hi.2.2.2.2.1 5 0 zfu (by decide) (zfu_lt (by decide)) (zup I2 u 1 (nI (ps.2.2.1.length + 1))) J2 0 ps.2.2.2.2.1 x.2 (by decide) (yXq_fr b3 (zup_ne _ _ _ (by omega)) (zup_ne _ _ _ (by omega)) rfl) hd3
    have hres : f_T_bookLine (zs I J (zPt t u u f s 1)) 24 = (f_T_bookLine_46L zfu (zs (zup I2 u 1 (nI (ps.2.2.1.length + 1))) J2 (zPt t u u f s 1)) 24 (nI ps.2.2.1.length) 0 0).bind fun q => (zbool q.1).bind fun x => some (x, q.2) := by
      simp (disch := (first | omega | assumption)) only [f_T_bookLine, zg_9, gi_10, si_10, gp_9_6, gp_9_2, gp_9_4, zbs, nI_add, pk_mul, znI_add1, znI_sub1, znI_subm, zle_nI, zlt_nI, zeq_nI, zle_0, zeq_0, zlt_0, zeq_m, zeq_1, zge_0, zbt0, zbt1, zB_0, zB_1, zB_b, zbool_0, zbool_1, ↓reduceIte, a1, e0', b1, n1, e2]
    rw [hres]
    exact yLR_zb nx
/-- a reader's wants and oughts -/
theorem x_readerLoop (hu : u = 2 ∨ u = 13) {r : Nat} (hr : r < 6) (hL : ps.2.1.length ≤ 4) (hLt : ∀ w ∈ ps.2.1, yLt w) : ∀ (d i fuel : Nat), i + d = 9 → d < fuel → ∀ (I : Nat → Nat → Int32) (J : Nat → Nat → Int64) (gw go : Nat) (wa ou : Nat → Int32) (p : Nat), gw < 16 → go < 16 → yXq I J B n p → yXD I J u (ps.1, ps.2.1, ps.2.2.1, ps.2.2.2.1, ps.2.2.2.2.1, wa, ou, ps.2.2.2.2.2.2.2.1, ps.2.2.2.2.2.2.2.2.1, ps.2.2.2.2.2.2.2.2.2.1, ps.2.2.2.2.2.2.2.2.2.2.1, ps.2.2.2.2.2.2.2.2.2.2.2.1, ps.2.2.2.2.2.2.2.2.2.2.2.2.1, ps.2.2.2.2.2.2.2.2.2.2.2.2.2.1, ps.2.2.2.2.2.2.2.2.2.2.2.2.2.2) →
    yLR B n u t s I J (f_T_readerLine_81L fuel (zs I J (zPt t u u f s 1)) 24 (nI r) (nI gw) (nI go) (nI i)) ((yrl (ytok B n) ps.2.1 r d gw go wa ou p).bd fun v => yfin (ytok B n) (v.2.2, ps.2.1, ps.2.2.1, ps.2.2.2.1, ps.2.2.2.2.1, v.1, v.2.1, ps.2.2.2.2.2.2.2.1, ps.2.2.2.2.2.2.2.2.1, ps.2.2.2.2.2.2.2.2.2.1, ps.2.2.2.2.2.2.2.2.2.2.1, ps.2.2.2.2.2.2.2.2.2.2.2.1, ps.2.2.2.2.2.2.2.2.2.2.2.2.1, ps.2.2.2.2.2.2.2.2.2.2.2.2.2.1, ps.2.2.2.2.2.2.2.2.2.2.2.2.2.2)) := by
  intro d
  induction d with
  | zero =>
    intro i fuel hi hf I J gw go wa ou p hg hg2 hq hd
    obtain ⟨m, rfl⟩ : ∃ m, fuel = m + 1 := ⟨fuel - 1, by omega⟩
    obtain rfl : i = 9 := by omega
    have hfin := x_fin (t := t) (f := f) (s := s) (ps := (p, ps.2.1, ps.2.2.1, ps.2.2.2.1, ps.2.2.2.2.1, wa, ou, ps.2.2.2.2.2.2.2.1, ps.2.2.2.2.2.2.2.2.1, ps.2.2.2.2.2.2.2.2.2.1, ps.2.2.2.2.2.2.2.2.2.2.1, ps.2.2.2.2.2.2.2.2.2.2.2.1, ps.2.2.2.2.2.2.2.2.2.2.2.2.1, ps.2.2.2.2.2.2.2.2.2.2.2.2.2.1, ps.2.2.2.2.2.2.2.2.2.2.2.2.2.2)) hu hq hd
    rw [f_T_readerLine_81L, f_T_readerLine_81, if_pos (by decide), f_T_readerLine_251, ybid]
    exact hfin
  | succ d ih =>
    intro i fuel hi hf I J gw go wa ou p hg hg2 hq hd
    obtain ⟨m, rfl⟩ : ∃ m, fuel = m + 1 := ⟨fuel - 1, by omega⟩
    have h0 := hq.2.1.1
    have hkb := (ytok_To (B := B) hq.2.2).1
    have c8 : ¬ (8 : Int32) < nI i := by rw [gt8 (by omega)]; omega
    have n1 : ¬ (1 : Int32) = 0 := by decide
    rw [f_T_readerLine_81L]
    unfold yrl
    by_cases h13 : (ytok B n p).1 = 13
    · rw [if_pos h13]
      rw [h13] at h0
      have e13 : (nI 13 : Int32) = 13 := rfl
      obtain ⟨I1, J1, a1, a2, a3⟩ := x_adv (t := t) (u := u) (i := u) (f := f) (s := s) hq (by omega)
      have hd1 := yXD_fs hd a2 hu
      have ht := x_top (t := t) (f := f) (s := s) hu hL hd1.1.1 hLt hd1.2.2.2.1 hg a3
      cases hx : ytop (ytok B n) ps.2.1 gw (ytok B n p).2.2.2.2 with
      | error cp_ =>
        obtain ⟨c, pl⟩ := cp_
        rw [hx] at ht
        obtain ⟨σ', b1, b2⟩ := ht
        refine ⟨σ', ?_, yEX_fr (yfX_fs a2) b2⟩
        simp (disch := (first | omega | assumption)) only [f_T_readerLine_81, f_T_readerLine_112, f_T_readerLine_129, f_T_readerLine_149, gi_7, gp_9_2, gt8, zbs, nI_add, pk_mul, znI_add1, znI_sub1, znI_subm, zle_nI, zlt_nI, zeq_nI, zle_0, zeq_0, zlt_0, zeq_m, zeq_1, zge_0, zbt0, zbt1, zB_0, zB_1, zB_b, zbool_0, zbool_1, ↓reduceIte, c8, h0, e13, n1, a1, b1]
      | ok x =>
        rw [hx] at ht
        obtain ⟨I2, J2, b1, b2, b3⟩ := ht
        have hx4 := ytop_ok a3.2.2 hx
        have hd2 := yXD_fs hd1 b2 hu
        have hm1 : ¬ nI x.1 = -1 := znI_ne_m1 (by omega)
        have hn := x_sgd (t := t) (u := u) (f := f) (s := s) b3
        simp only [yRs.bd]
        cases hy : ysgd (ytok B n) x.2 with
        | error cp_ =>
          obtain ⟨c, pl⟩ := cp_
          rw [hy] at hn
          obtain ⟨σ', c1, c2⟩ := hn
          refine ⟨σ', ?_, yEX_fr (yfX_fs (yfs_trans a2 b2)) c2⟩
          simp (disch := (first | omega | assumption)) only [f_T_readerLine_81, f_T_readerLine_112, f_T_readerLine_129, f_T_readerLine_149, gi_7, gp_9_2, gt8, zbs, nI_add, pk_mul, znI_add1, znI_sub1, znI_subm, zle_nI, zlt_nI, zeq_nI, zle_0, zeq_0, zlt_0, zeq_m, zeq_1, zge_0, zbt0, zbt1, zB_0, zB_1, zB_b, zbool_0, zbool_1, ↓reduceIte, c8, h0, e13, n1, a1, b1, hm1, c1]
        | ok v =>
          rw [hy] at hn
          obtain ⟨I3, J3, I4, J4, c1, c2, c3, c4⟩ := hn
          have e10 : I4 24 10 = v.1 := by rw [c3.1 24 (by decide), zup_s]
          have hor := ygor gw hg x.1 (by omega)
          have hidx : 4 * r + x.1 < 24 := by omega
          have hd3 := yXD_fs hd2 c2 hu
          have hd4 : yXD (zup I4 (u + 2) (4 * r + x.1) v.1) J4 u (ps.1, ps.2.1, ps.2.2.1, ps.2.2.2.1, ps.2.2.2.2.1, va_up wa (4 * r + x.1) v.1, ou, ps.2.2.2.2.2.2.2.1, ps.2.2.2.2.2.2.2.2.1, ps.2.2.2.2.2.2.2.2.2.1, ps.2.2.2.2.2.2.2.2.2.2.1, ps.2.2.2.2.2.2.2.2.2.2.2.1, ps.2.2.2.2.2.2.2.2.2.2.2.2.1, ps.2.2.2.2.2.2.2.2.2.2.2.2.2.1, ps.2.2.2.2.2.2.2.2.2.2.2.2.2.2) := by
            have hz : ∀ a, a ≠ u + 2 → a ≠ 24 → a ≠ 25 → zup I4 (u + 2) (4 * r + x.1) v.1 a = I3 a := fun a h1 h2 h3 => (zup_ne _ _ _ h1).trans ((c3.1 a h3).trans (zup_ne _ _ _ h2))
            obtain ⟨g1, g2, g3, g4⟩ := hd3
            unfold yXD yFm yNa
            rw [hz u (by omega) (by omega) (by omega), hz (u + 1) (by omega) (by omega) (by omega), hz (u + 3) (by omega) (by omega) (by omega), hz (u + 4) (by omega) (by omega) (by omega), hz (u + 5) (by omega) (by omega) (by omega), hz (u + 5 + 1) (by omega) (by omega) (by omega), hz (u + 8) (by omega) (by omega) (by omega), hz (u + 8 + 1) (by omega) (by omega) (by omega), c3.2 27 (by decide), c3.2 28 (by decide), c3.2 29 (by decide), zup_ne _ _ _ (show 24 ≠ u + 2 by omega), c3.1 24 (by decide), zup_k _ _ (show 9 ≠ 10 by decide), zup_k _ _ (show 0 ≠ 10 by decide), zup_k _ _ (show 1 ≠ 10 by decide)]
            refine ⟨g1, ⟨g2.1, yup_row (fun k hk => ?_), g2.2.2⟩, g3, g4⟩
            rw [c3.1 (u + 2) (by omega), zup_ne _ _ _ (by omega)]
            exact g2.2.1 k hk
          have hf2 : yfX u I J (zup I4 (u + 2) (4 * r + x.1) v.1) J4 := yfX_trans (yfX_fs (yfs_trans a2 (yfs_trans b2 c2))) (yfX_up (yfX_trans (yfX_24 (yfX_refl u I3 J3)) (yfX_fs c3)) (by omega))
          have nx := ih (i + 1) m (by omega) (by omega) (zup I4 (u + 2) (4 * r + x.1) v.1) J4 (gw ||| 2 ^ x.1) go (va_up wa (4 * r + x.1) v.1) ou v.2 hor.2 hg2 (yXq_fr c4 (zup_ne _ _ _ (by omega)) (zup_ne _ _ _ (by omega)) rfl) hd4
          refine yLR_fr hf2 ?_
          have hres : f_T_readerLine_81 (f_T_readerLine_81L m) (zs I J (zPt t u u f s 1)) 24 (nI r) (nI gw) (nI go) (nI i) = f_T_readerLine_81L m (zs (zup I4 (u + 2) (4 * r + x.1) v.1) J4 (zPt t u u f s 1)) 24 (nI r) (nI (gw ||| 2 ^ x.1)) (nI go) (nI (i + 1)) := by
            simp (disch := (first | omega | assumption)) only [f_T_readerLine_81, f_T_readerLine_112, f_T_readerLine_129, f_T_readerLine_149, f_T_readerLine_187, gi_7, gp_9_2, gt8, gi_9, gp_9_6, gp_10_9, gp_10_8, wi_10_9, wi_10_8, mr4, zbs, nI_add, pk_mul, znI_add1, znI_sub1, znI_subm, zle_nI, zlt_nI, zeq_nI, zle_0, zeq_0, zlt_0, zeq_m, zeq_1, zge_0, zbt0, zbt1, zB_0, zB_1, zB_b, zbool_0, zbool_1, ↓reduceIte, c8, h0, e13, n1, a1, b1, hm1, c1, e10, hor.1]
          rw [hres]
          exact nx
    · rw [if_neg h13]
      have e13 : ¬ nI (ytok B n p).1 = 13 := by rw [show (13 : Int32) = nI 13 from rfl, zeq_nI (by omega) (by decide)]; exact h13
      by_cases h22 : (ytok B n p).1 = 22
      · rw [if_pos h22]
        have e22 : nI (ytok B n p).1 = 22 := by rw [h22]; rfl
        have m13 : ¬ (22 : Int32) = 13 := by decide
        obtain ⟨I1, J1, a1, a2, a3⟩ := x_adv (t := t) (u := u) (i := u) (f := f) (s := s) hq (by omega)
        have hst : f_T_readerLine_81 (f_T_readerLine_81L m) (zs I J (zPt t u u f s 1)) 24 (nI r) (nI gw) (nI go) (nI i) = f_T_readerLine_149 (f_T_readerLine_81L m) (zs I1 J1 (zPt t u u f s 1)) 24 (nI r) (nI gw) (nI go) (nI i) 0 (nI go) 24 := by
          simp (disch := (first | omega | assumption)) only [f_T_readerLine_81, f_T_readerLine_112, f_T_readerLine_129, gi_7, gp_9_2, gt8, zbs, nI_add, pk_mul, znI_add1, znI_sub1, znI_subm, zle_nI, zlt_nI, zeq_nI, zle_0, zeq_0, zlt_0, zeq_m, zeq_1, zge_0, zbt0, zbt1, zB_0, zB_1, zB_b, zbool_0, zbool_1, ↓reduceIte, c8, h0, e22, m13, a1]
        rw [hst]
        have hd1 := yXD_fs hd a2 hu
        have ht := x_top (t := t) (f := f) (s := s) hu hL hd1.1.1 hLt hd1.2.2.2.1 hg2 a3
        cases hx : ytop (ytok B n) ps.2.1 go (ytok B n p).2.2.2.2 with
        | error cp_ =>
          obtain ⟨c, pl⟩ := cp_
          rw [hx] at ht
          obtain ⟨σ', b1, b2⟩ := ht
          refine ⟨σ', ?_, yEX_fr (yfX_fs a2) b2⟩
          simp (disch := (first | omega | assumption)) only [f_T_readerLine_149, zbs, nI_add, pk_mul, znI_add1, znI_sub1, znI_subm, zle_nI, zlt_nI, zeq_nI, zle_0, zeq_0, zlt_0, zeq_m, zeq_1, zge_0, zbt0, zbt1, zB_0, zB_1, zB_b, zbool_0, zbool_1, ↓reduceIte, b1]
        | ok x =>
          rw [hx] at ht
          obtain ⟨I2, J2, b1, b2, b3⟩ := ht
          have hx4 := ytop_ok a3.2.2 hx
          have hd2 := yXD_fs hd1 b2 hu
          have hm1 : ¬ nI x.1 = -1 := znI_ne_m1 (by omega)
          have hn := x_num (t := t) (u := u) (f := f) (s := s) (lo := 0) (hi := 9) (by decide) (by decide) b3
          simp only [yRs.bd]
          cases hy : ynum (ytok B n) 0 9 x.2 with
          | error cp_ =>
            obtain ⟨c, pl⟩ := cp_
            rw [hy] at hn
            obtain ⟨σ', c1, c2⟩ := hn
            have c1 : f_T_takeNumber (zs I2 J2 (zPt t u u f s 1)) 24 0 9 = some (0, σ') := c1
            refine ⟨σ', ?_, yEX_fr (yfX_fs (yfs_trans a2 b2)) c2⟩
            simp (disch := (first | omega | assumption)) only [f_T_readerLine_149, zbs, nI_add, pk_mul, znI_add1, znI_sub1, znI_subm, zle_nI, zlt_nI, zeq_nI, zle_0, zeq_0, zlt_0, zeq_m, zeq_1, zge_0, zbt0, zbt1, zB_0, zB_1, zB_b, zbool_0, zbool_1, ↓reduceIte, b1, hm1, c1]
          | ok v =>
            rw [hy] at hn
            obtain ⟨I4, J4, c1, c3, c4⟩ := hn
            have c1 : f_T_takeNumber (zs I2 J2 (zPt t u u f s 1)) 24 0 9 = some (1, zs I4 J4 (zPt t u u f s 1)) := c1
            have e10 : I4 24 10 = nI v.1 := by rw [c3.1 24 (by decide), zup_s]
            have hor := ygor go hg2 x.1 (by omega)
            have hidx : 4 * r + x.1 < 24 := by omega
            have hd4 : yXD (zup I4 (u + 3) (4 * r + x.1) (nI v.1)) J4 u (ps.1, ps.2.1, ps.2.2.1, ps.2.2.2.1, ps.2.2.2.2.1, wa, va_up ou (4 * r + x.1) (nI v.1), ps.2.2.2.2.2.2.2.1, ps.2.2.2.2.2.2.2.2.1, ps.2.2.2.2.2.2.2.2.2.1, ps.2.2.2.2.2.2.2.2.2.2.1, ps.2.2.2.2.2.2.2.2.2.2.2.1, ps.2.2.2.2.2.2.2.2.2.2.2.2.1, ps.2.2.2.2.2.2.2.2.2.2.2.2.2.1, ps.2.2.2.2.2.2.2.2.2.2.2.2.2.2) := by
              have hz : ∀ a, a ≠ u + 3 → a ≠ 24 → a ≠ 25 → zup I4 (u + 3) (4 * r + x.1) (nI v.1) a = I2 a := fun a h1 h2 h3 => (zup_ne _ _ _ h1).trans ((c3.1 a h3).trans (zup_ne _ _ _ h2))
              obtain ⟨g1, g2, g3, g4⟩ := hd2
              unfold yXD yFm yNa
              rw [hz u (by omega) (by omega) (by omega), hz (u + 1) (by omega) (by omega) (by omega), hz (u + 2) (by omega) (by omega) (by omega), hz (u + 4) (by omega) (by omega) (by omega), hz (u + 5) (by omega) (by omega) (by omega), hz (u + 5 + 1) (by omega) (by omega) (by omega), hz (u + 8) (by omega) (by omega) (by omega), hz (u + 8 + 1) (by omega) (by omega) (by omega), c3.2 27 (by decide), c3.2 28 (by decide), c3.2 29 (by decide), zup_ne _ _ _ (show 24 ≠ u + 3 by omega), c3.1 24 (by decide), zup_k _ _ (show 9 ≠ 10 by decide), zup_k _ _ (show 0 ≠ 10 by decide), zup_k _ _ (show 1 ≠ 10 by decide)]
              refine ⟨g1, ⟨g2.1, g2.2.1, yup_row (fun k hk => ?_), g2.2.2.2⟩, g3, g4⟩
              rw [c3.1 (u + 3) (by omega), zup_ne _ _ _ (by omega)]
              exact g2.2.2.1 k hk
            have hf2 : yfX u I J (zup I4 (u + 3) (4 * r + x.1) (nI v.1)) J4 := yfX_trans (yfX_fs (yfs_trans a2 b2)) (yfX_up (yfX_trans (yfX_24 (yfX_refl u I2 J2)) (yfX_fs c3)) (by omega))
            have nx := ih (i + 1) m (by omega) (by omega) (zup I4 (u + 3) (4 * r + x.1) (nI v.1)) J4 gw (go ||| 2 ^ x.1) wa (va_up ou (4 * r + x.1) (nI v.1)) v.2 hg hor.2 (yXq_fr c4 (zup_ne _ _ _ (by omega)) (zup_ne _ _ _ (by omega)) rfl) hd4
            refine yLR_fr hf2 ?_
            have hres : f_T_readerLine_149 (f_T_readerLine_81L m) (zs I1 J1 (zPt t u u f s 1)) 24 (nI r) (nI gw) (nI go) (nI i) 0 (nI go) 24 = f_T_readerLine_81L m (zs (zup I4 (u + 3) (4 * r + x.1) (nI v.1)) J4 (zPt t u u f s 1)) 24 (nI r) (nI gw) (nI (go ||| 2 ^ x.1)) (nI (i + 1)) := by
              simp (disch := (first | omega | assumption)) only [f_T_readerLine_149, f_T_readerLine_187, gi_9, gp_9_6, gp_10_9, gp_10_8, wi_10_9, wi_10_8, mr4, zbs, nI_add, pk_mul, znI_add1, znI_sub1, znI_subm, zle_nI, zlt_nI, zeq_nI, zle_0, zeq_0, zlt_0, zeq_m, zeq_1, zge_0, zbt0, zbt1, zB_0, zB_1, zB_b, zbool_0, zbool_1, ↓reduceIte, b1, hm1, c1, n1, e10, hor.1]
            rw [hres]
            exact nx
      · rw [if_neg h22]
        have e22 : ¬ nI (ytok B n p).1 = 22 := by rw [show (22 : Int32) = nI 22 from rfl, zeq_nI (by omega) (by decide)]; exact h22
        have hfin := x_fin (t := t) (f := f) (s := s) (ps := (p, ps.2.1, ps.2.2.1, ps.2.2.2.1, ps.2.2.2.2.1, wa, ou, ps.2.2.2.2.2.2.2.1, ps.2.2.2.2.2.2.2.2.1, ps.2.2.2.2.2.2.2.2.2.1, ps.2.2.2.2.2.2.2.2.2.2.1, ps.2.2.2.2.2.2.2.2.2.2.2.1, ps.2.2.2.2.2.2.2.2.2.2.2.2.1, ps.2.2.2.2.2.2.2.2.2.2.2.2.2.1, ps.2.2.2.2.2.2.2.2.2.2.2.2.2.2)) hu hq hd
        have hres : f_T_readerLine_81 (f_T_readerLine_81L m) (zs I J (zPt t u u f s 1)) 24 (nI r) (nI gw) (nI go) (nI i) = f_T_take (zs I J (zPt t u u f s 1)) 24 59 := by
          simp (disch := (first | omega | assumption)) only [f_T_readerLine_81, gi_7, gp_9_2, gt8, zbs, nI_add, pk_mul, znI_add1, znI_sub1, znI_subm, zle_nI, zlt_nI, zeq_nI, zle_0, zeq_0, zlt_0, zeq_m, zeq_1, zge_0, zbt0, zbt1, zB_0, zB_1, zB_b, zbool_0, zbool_1, ↓reduceIte, c8, h0, e13, e22, f_T_readerLine_251, ybid]
        rw [hres]
        exact hfin
theorem x_readerLine (hu : u = 2 ∨ u = 13) (hq : yXq I J B n ps.1) (hi : yPi n ps) (hd : yXD I J u ps) (hk : ¬ (ytok B n ps.1).1 = 1) (hl : ps.2.2.2.1.length < 6) : yLR B n u t s I J (f_T_readerLine (zs I J (zPt t u u f s 1)) 24) ((ynew (ytok B n) ps.2.2.2.1 (ytok B n ps.1).2.2.2.2).bd fun a => (ytake (ytok B n) 12 a.2).bd fun p2 => (ynum (ytok B n) 0 100 p2).bd fun o => (yrl (ytok B n) ps.2.1 ps.2.2.2.1.length 9 0 0 ps.2.2.2.2.2.1 ps.2.2.2.2.2.2.1 o.2).bd fun v => yfin (ytok B n) (v.2.2, ps.2.1, ps.2.2.1, ps.2.2.2.1 ++ [a.1], ps.2.2.2.2.1, v.1, v.2.1, va_up ps.2.2.2.2.2.2.2.1 ps.2.2.2.1.length (nI o.1), ps.2.2.2.2.2.2.2.2.1, ps.2.2.2.2.2.2.2.2.2.1, ps.2.2.2.2.2.2.2.2.2.2.1, ps.2.2.2.2.2.2.2.2.2.2.2.1, ps.2.2.2.2.2.2.2.2.2.2.2.2.1, ps.2.2.2.2.2.2.2.2.2.2.2.2.2.1, ps.2.2.2.2.2.2.2.2.2.2.2.2.2.2)) := by
  obtain ⟨I1, J1, a1, a2, a3⟩ := x_adv (t := t) (u := u) (i := u) (f := f) (s := s) hq hk
  have hd1 := yXD_fs hd a2 hu
  have e0 := hd1.1.2.2.1
  have e0' : I u 2 = nI ps.2.2.2.1.length := hd.1.2.2.1
  have n1 : ¬ (1 : Int32) = 0 := by decide
  have hN := x_new (t := t) (u := u) (f := f) (s := s) zl_29 (by decide) (by decide) hl hi.2.2.2.2.2.2.1 hd1.2.2.2.2.2 a3
  cases hx : ynew (ytok B n) ps.2.2.2.1 (ytok B n ps.1).2.2.2.2 with
  | error cp_ =>
    obtain ⟨c, pl⟩ := cp_
    rw [hx] at hN
    obtain ⟨σ', b1, b2⟩ := hN
    refine ⟨σ', ?_, yEX_fr (yfX_fs a2) b2⟩
    simp (disch := (first | omega | assumption)) only [f_T_readerLine, zg_9, gi_10, gi_9, si_10, gp_9_6, gp_9_2, gp_9_5, gp_10_10, wi_10_10, zbs, nI_add, pk_mul, znI_add1, znI_sub1, znI_subm, zle_nI, zlt_nI, zeq_nI, zle_0, zeq_0, zlt_0, zeq_m, zeq_1, zge_0, zbt0, zbt1, zB_0, zB_1, zB_b, zbool_0, zbool_1, ↓reduceIte, a1, e0', b1]
  | ok x =>
    rw [hx] at hN
    obtain ⟨I2, J2, b1, b2, b3⟩ := hN
    have f2 : yfX u I J I2 J2 := yfX_trans (yfX_fs a2) (yfX_trans (yfX_J (yfX_refl u I1 J1) (Or.inr (Or.inr rfl))) (yfX_fs b2))
    have hT := x_tak (t := t) (u := u) (f := f) (s := s) (k := 12) (by decide) (by decide) b3
    simp only [yRs.bd]
    cases hy : ytake (ytok B n) 12 x.2 with
    | error cp_ =>
      obtain ⟨c, pl⟩ := cp_
      rw [hy] at hT
      obtain ⟨σ', c1, c2⟩ := hT
      have c1 : f_T_take (zs I2 J2 (zPt t u u f s 1)) 24 12 = some (0, σ') := c1
      refine ⟨σ', ?_, yEX_fr f2 c2⟩
      simp (disch := (first | omega | assumption)) only [f_T_readerLine, zg_9, gi_10, gi_9, si_10, gp_9_6, gp_9_2, gp_9_5, gp_10_10, wi_10_10, zbs, nI_add, pk_mul, znI_add1, znI_sub1, znI_subm, zle_nI, zlt_nI, zeq_nI, zle_0, zeq_0, zlt_0, zeq_m, zeq_1, zge_0, zbt0, zbt1, zB_0, zB_1, zB_b, zbool_0, zbool_1, ↓reduceIte, a1, e0', b1, n1, c1]
    | ok p2 =>
      rw [hy] at hT
      obtain ⟨I3, J3, c1, c2, c3⟩ := hT
      have c1 : f_T_take (zs I2 J2 (zPt t u u f s 1)) 24 12 = some (1, zs I3 J3 (zPt t u u f s 1)) := c1
      have hO := x_num (t := t) (u := u) (f := f) (s := s) (lo := 0) (hi := 100) (by decide) (by decide) c3
      simp only [yRs.bd]
      cases hz : ynum (ytok B n) 0 100 p2 with
      | error cp_ =>
        obtain ⟨c, pl⟩ := cp_
        rw [hz] at hO
        obtain ⟨σ', d1, d2⟩ := hO
        have d1 : f_T_takeNumber (zs I3 J3 (zPt t u u f s 1)) 24 0 100 = some (0, σ') := d1
        refine ⟨σ', ?_, yEX_fr (yfX_trans f2 (yfX_fs c2)) d2⟩
        simp (disch := (first | omega | assumption)) only [f_T_readerLine, zg_9, gi_10, gi_9, si_10, gp_9_6, gp_9_2, gp_9_5, gp_10_10, wi_10_10, zbs, nI_add, pk_mul, znI_add1, znI_sub1, znI_subm, zle_nI, zlt_nI, zeq_nI, zle_0, zeq_0, zlt_0, zeq_m, zeq_1, zge_0, zbt0, zbt1, zB_0, zB_1, zB_b, zbool_0, zbool_1, ↓reduceIte, a1, e0', b1, n1, c1, d1]
      | ok o =>
        rw [hz] at hO
        obtain ⟨I4, J4, d1, d2, d3⟩ := hO
        have d1 : f_T_takeNumber (zs I3 J3 (zPt t u u f s 1)) 24 0 100 = some (1, zs I4 J4 (zPt t u u f s 1)) := d1
        have e10 : I4 24 10 = nI o.1 := by rw [d2.1 24 (by decide), zup_s]
        have e2 : zup I4 (u + 4) ps.2.2.2.1.length (nI o.1) u 2 = nI ps.2.2.2.1.length := by rw [zup_ne _ _ _ (by omega), d2.1 u (by omega), zup_ne _ _ _ (by omega), c2.1 u (by omega), b2.1 u (by omega)]; exact e0
        have f4 : yfX u I J (zup (zup I4 (u + 4) ps.2.2.2.1.length (nI o.1)) u 2 (nI (ps.2.2.2.1.length + 1))) J4 := yfX_trans (yfX_trans f2 (yfX_fs c2)) (yfX_up (yfX_up (yfX_trans (yfX_24 (yfX_refl u I3 J3)) (yfX_fs d2)) (by omega)) (by omega))
        refine yLR_fr f4 ?_
        have hd5 : yXD (zup (zup I4 (u + 4) ps.2.2.2.1.length (nI o.1)) u 2 (nI (ps.2.2.2.1.length + 1))) J4 u (o.2, ps.2.1, ps.2.2.1, ps.2.2.2.1 ++ [x.1], ps.2.2.2.2.1, ps.2.2.2.2.2.1, ps.2.2.2.2.2.2.1, va_up ps.2.2.2.2.2.2.2.1 ps.2.2.2.1.length (nI o.1), ps.2.2.2.2.2.2.2.2.1, ps.2.2.2.2.2.2.2.2.2.1, ps.2.2.2.2.2.2.2.2.2.2.1, ps.2.2.2.2.2.2.2.2.2.2.2.1, ps.2.2.2.2.2.2.2.2.2.2.2.2.1, ps.2.2.2.2.2.2.2.2.2.2.2.2.2.1, ps.2.2.2.2.2.2.2.2.2.2.2.2.2.2) := by
          obtain ⟨⟨k0, k1, k2, k3, k4, k5, k6, k9⟩, ⟨r1, r2, r3, r4⟩, ⟨l1, l2⟩, m1, m2, m3⟩ := hd1
          have hz : ∀ a, a ≠ u → a ≠ u + 4 → a ≠ 24 → a ≠ 25 → zup (zup I4 (u + 4) ps.2.2.2.1.length (nI o.1)) u 2 (nI (ps.2.2.2.1.length + 1)) a = I1 a := fun a h1 h2 h3 h4 => (zup_ne _ _ _ h1).trans ((zup_ne _ _ _ h2).trans ((d2.1 a h4).trans ((zup_ne _ _ _ h3).trans ((c2.1 a h4).trans (b2.1 a h4)))))
          have hzu : ∀ k, k ≠ 2 → zup (zup I4 (u + 4) ps.2.2.2.1.length (nI o.1)) u 2 (nI (ps.2.2.2.1.length + 1)) u k = I1 u k := fun k h => (zup_k _ _ h).trans (by rw [zup_ne _ _ _ (by omega), d2.1 u (by omega), zup_ne _ _ _ (by omega), c2.1 u (by omega), b2.1 u (by omega)])
          have h24 : ∀ k, k ≠ 10 → zup (zup I4 (u + 4) ps.2.2.2.1.length (nI o.1)) u 2 (nI (ps.2.2.2.1.length + 1)) 24 k = I1 24 k := fun k hk => by rw [zup_ne _ _ _ (by omega), zup_ne _ _ _ (by omega), d2.1 24 (by decide), zup_k _ _ hk, c2.1 24 (by decide), b2.1 24 (by decide)]
          unfold yXD yFm yNa
          rw [h24 9 (by decide), h24 0 (by decide), h24 1 (by decide), hz (u + 1) (by omega) (by omega) (by omega) (by omega), hz (u + 2) (by omega) (by omega) (by omega) (by omega), hz (u + 3) (by omega) (by omega) (by omega) (by omega), hz (u + 5) (by omega) (by omega) (by omega) (by omega), hz (u + 5 + 1) (by omega) (by omega) (by omega) (by omega), hz (u + 8) (by omega) (by omega) (by omega) (by omega), hz (u + 8 + 1) (by omega) (by omega) (by omega) (by omega), hzu 0 (by decide), hzu 1 (by decide), hzu 3 (by decide), hzu 4 (by decide), hzu 5 (by decide), hzu 6 (by decide)]
          refine ⟨⟨k0, k1, ?_, k3, k4, k5, k6, k9⟩, ⟨r1, r2, r3, ?_⟩, ⟨l1, l2⟩, ?_, ?_, ?_⟩
          · rw [zup_s]; simp
          · rw [zup_ne _ _ _ (by omega)]
            refine yup_row (fun k hk => ?_)
            rw [d2.1 (u + 4) (by omega), zup_ne _ _ _ (by omega), c2.1 (u + 4) (by omega), b2.1 (u + 4) (by omega)]
            exact r4 k hk
          · rw [d2.2 27 (by decide), c2.2 27 (by decide), b2.2 27 (by decide), zup_ne _ _ _ (by decide)]
            exact m1
          · rw [d2.2 28 (by decide), c2.2 28 (by decide), b2.2 28 (by decide), zup_ne _ _ _ (by decide)]
            exact m2
          · have := yNa_snoc (w := x.1) m3
            rw [d2.2 29 (by decide), c2.2 29 (by decide), b2.2 29 (by decide)]
            exact this
        have nx := x_readerLoop (t := t) (f := f) (s := s) (B := B) (n := n) (ps := (o.2, ps.2.1, ps.2.2.1, ps.2.2.2.1 ++ [x.1], ps.2.2.2.2.1, ps.2.2.2.2.2.1, ps.2.2.2.2.2.2.1, va_up ps.2.2.2.2.2.2.2.1 ps.2.2.2.1.length (nI o.1), ps.2.2.2.2.2.2.2.2.1, ps.2.2.2.2.2.2.2.2.2.1, ps.2.2.2.2.2.2.2.2.2.2.1, ps.2.2.2.2.2.2.2.2.2.2.2.1, ps.2.2.2.2.2.2.2.2.2.2.2.2.1, ps.2.2.2.2.2.2.2.2.2.2.2.2.2.1, ps.2.2.2.2.2.2.2.2.2.2.2.2.2.2)) hu hl hi.2.1 hi.2.2.2.2.1 9 0 zfu (by decide) (zfu_lt (by decide)) (zup (zup I4 (u + 4) ps.2.2.2.1.length (nI o.1)) u 2 (nI (ps.2.2.2.1.length + 1))) J4 0 0 ps.2.2.2.2.2.1 ps.2.2.2.2.2.2.1 o.2 (by decide) (by decide) (yXq_fr d3 ((zup_ne _ _ _ (by omega)).trans (zup_ne _ _ _ (by omega))) ((zup_ne _ _ _ (by omega)).trans (zup_ne _ _ _ (by omega))) rfl) hd5
        have hres : f_T_readerLine (zs I J (zPt t u u f s 1)) 24 = (f_T_readerLine_81L zfu (zs (zup (zup I4 (u + 4) ps.2.2.2.1.length (nI o.1)) u 2 (nI (ps.2.2.2.1.length + 1))) J4 (zPt t u u f s 1)) 24 (nI ps.2.2.2.1.length) 0 0 0).bind fun q => (zbool q.1).bind fun x => some (x, q.2) := by
          simp (disch := (first | omega | assumption)) only [f_T_readerLine, zg_9, gi_10, gi_9, si_10, gp_9_6, gp_9_2, gp_9_5, gp_10_10, wi_10_10, zbs, nI_add, pk_mul, znI_add1, znI_sub1, znI_subm, zle_nI, zlt_nI, zeq_nI, zle_0, zeq_0, zlt_0, zeq_m, zeq_1, zge_0, zbt0, zbt1, zB_0, zB_1, zB_b, zbool_0, zbool_1, ↓reduceIte, a1, e0', b1, n1, c1, d1, e10, e2]
        rw [hres]
        exact yLR_zb nx
end ZXb
