/-! the class reads a text: lines -/
def yfin (T : Nat → yTk) (s1 : yPs) : yRs yPs := (ytake T 59 s1.1).bd fun p => .ok (p, s1.2.1, s1.2.2.1, s1.2.2.2.1, s1.2.2.2.2.1, s1.2.2.2.2.2.1, s1.2.2.2.2.2.2.1, s1.2.2.2.2.2.2.2.1, s1.2.2.2.2.2.2.2.2.1, s1.2.2.2.2.2.2.2.2.2.1, s1.2.2.2.2.2.2.2.2.2.2.1, s1.2.2.2.2.2.2.2.2.2.2.2.1, s1.2.2.2.2.2.2.2.2.2.2.2.2.1, s1.2.2.2.2.2.2.2.2.2.2.2.2.2.1, s1.2.2.2.2.2.2.2.2.2.2.2.2.2.2)
def yLR (B : Nat → Nat) (n u t s : Nat) (I : Nat → Nat → Int32) (J : Nat → Nat → Int64) (res : Option (Int32 × zSt)) (r : yRs yPs) : Prop := match r with
  | .error (c, pl) => ∃ σ', res = some (0, σ') ∧ yEX u t s I J σ' c pl
  | .ok s' => ∃ I' J' f', res = some (1, zs I' J' (zPt t u u f' s 1)) ∧ yfX u I J I' J' ∧ yXq I' J' B n s'.1 ∧ yXD I' J' u s'
theorem ybid (r : Option (Int32 × zSt)) : (r.bind fun q => some (q.1, q.2)) = r := by cases r <;> rfl
theorem yup_row {I : Nat → Nat → Int32} {a m j : Nat} {v : Int32} {R : Nat → Int32} (h : ∀ k, k < m → I a k = R k) : ∀ k, k < m → zup I a j v a k = va_up R j v k := by
  intro k hk
  rw [zup_at]
  unfold va_up
  split
  · rfl
  · exact h k hk
section ZXL
variable {I : Nat → Nat → Int32} {J : Nat → Nat → Int64} {t u f s : Nat} {B : Nat → Nat} {n : Nat} {ps : yPs}
theorem yLR_fr {I' : Nat → Nat → Int32} {J' : Nat → Nat → Int64} {res : Option (Int32 × zSt)} {r : yRs yPs} (hf : yfX u I J I' J') (h : yLR B n u t s I' J' res r) : yLR B n u t s I J res r := by
  cases r with
  | error cp_ =>
    obtain ⟨c, pl⟩ := cp_
    obtain ⟨σ', e1, e2⟩ := h
    exact ⟨σ', e1, yEX_fr hf e2⟩
  | ok s' =>
    obtain ⟨I2, J2, f2, e1, e2, e3⟩ := h
    exact ⟨I2, J2, f2, e1, yfX_trans hf e2, e3⟩
theorem yLR_zb {res : Option (Int32 × zSt)} {r : yRs yPs} (h : yLR B n u t s I J res r) : yLR B n u t s I J (res.bind fun q => (zbool q.1).bind fun x => some (x, q.2)) r := by
  cases r with
  | error cp_ =>
    obtain ⟨c, pl⟩ := cp_
    obtain ⟨σ', e1, e2⟩ := h
    exact ⟨σ', by rw [e1, yzb0], e2⟩
  | ok s' =>
    obtain ⟨I2, J2, f2, e1, e2⟩ := h
    exact ⟨I2, J2, f2, by rw [e1, yzb1], e2⟩
theorem x_fin (hu : u = 2 ∨ u = 13) (hq : yXq I J B n ps.1) (hd : yXD I J u ps) : yLR B n u t s I J (f_T_take (zs I J (zPt t u u f s 1)) 24 59) (yfin (ytok B n) ps) := by
  have h := x_tak (t := t) (u := u) (f := f) (s := s) (k := 59) (by decide) (by decide) hq
  unfold yfin
  cases hx : ytake (ytok B n) 59 ps.1 with
  | error cp_ => obtain ⟨c, pl⟩ := cp_; rw [hx] at h; exact h
  | ok p =>
    rw [hx] at h
    obtain ⟨I', J', e1, e2, e3⟩ := h
    exact ⟨I', J', f, e1, yfX_fs e2, e3, yXD_fs (s := (p, ps.2.1, ps.2.2.1, ps.2.2.2.1, ps.2.2.2.2.1, ps.2.2.2.2.2.1, ps.2.2.2.2.2.2.1, ps.2.2.2.2.2.2.2.1, ps.2.2.2.2.2.2.2.2.1, ps.2.2.2.2.2.2.2.2.2.1, ps.2.2.2.2.2.2.2.2.2.2.1, ps.2.2.2.2.2.2.2.2.2.2.2.1, ps.2.2.2.2.2.2.2.2.2.2.2.2.1, ps.2.2.2.2.2.2.2.2.2.2.2.2.2.1, ps.2.2.2.2.2.2.2.2.2.2.2.2.2.2)) hd e2 hu⟩
theorem x_topicLine (hu : u = 2 ∨ u = 13) (hq : yXq I J B n ps.1) (hi : yPi n ps) (hd : yXD I J u ps) (hk : ¬ (ytok B n ps.1).1 = 1) (hl : ps.2.1.length < 4) : yLR B n u t s I J (f_T_topicLine (zs I J (zPt t u u f s 1)) 24) ((ynew (ytok B n) ps.2.1 (ytok B n ps.1).2.2.2.2).bd fun a => yfin (ytok B n) (a.2, ps.2.1 ++ [a.1], ps.2.2.1, ps.2.2.2.1, ps.2.2.2.2.1, ps.2.2.2.2.2.1, ps.2.2.2.2.2.2.1, ps.2.2.2.2.2.2.2.1, ps.2.2.2.2.2.2.2.2.1, ps.2.2.2.2.2.2.2.2.2.1, ps.2.2.2.2.2.2.2.2.2.2.1, ps.2.2.2.2.2.2.2.2.2.2.2.1, ps.2.2.2.2.2.2.2.2.2.2.2.2.1, ps.2.2.2.2.2.2.2.2.2.2.2.2.2.1, ps.2.2.2.2.2.2.2.2.2.2.2.2.2.2)) := by
  obtain ⟨I1, J1, a1, a2, a3⟩ := x_adv (t := t) (u := u) (i := u) (f := f) (s := s) hq hk
  have hd1 := yXD_fs hd a2 hu
  have e0 := hd1.1.1
  have hN := x_new (t := t) (u := u) (f := f) (s := s) zl_27 (by decide) (by decide) hl hi.2.2.2.2.1 hd1.2.2.2.1 a3
  cases hx : ynew (ytok B n) ps.2.1 (ytok B n ps.1).2.2.2.2 with
  | error cp_ =>
    obtain ⟨c, pl⟩ := cp_
    rw [hx] at hN
    obtain ⟨σ', b1, b2⟩ := hN
    refine ⟨σ', ?_, yEX_fr (yfX_fs a2) b2⟩
    simp (disch := (first | omega | assumption)) only [f_T_topicLine, zg_9, gi_10, si_10, gp_9_2, gp_9_3, gp_9_6, zbs, nI_add, pk_mul, znI_add1, znI_sub1, znI_subm, zle_nI, zlt_nI, zeq_nI, zle_0, zeq_0, zlt_0, zeq_m, zeq_1, zge_0, zbt0, zbt1, zB_0, zB_1, zB_b, zbool_0, zbool_1, ↓reduceIte, a1, e0, b1]
  | ok x =>
    rw [hx] at hN
    obtain ⟨I2, J2, b1, b2, b3⟩ := hN
    have e2 : I2 u 0 = nI ps.2.1.length := by rw [b2.1 u (by omega)]; exact e0
    have n1 : ¬ (1 : Int32) = 0 := by decide
    have f3 : yfX u I J (zup I2 u 0 (nI (ps.2.1.length + 1))) J2 := yfX_trans (yfX_fs a2) (yfX_trans (yfX_J (yfX_refl u I1 J1) (Or.inl rfl)) (yfX_up (yfX_fs b2) (by omega)))
    refine yLR_fr f3 ?_
    have hfin := x_fin (I := zup I2 u 0 (nI (ps.2.1.length + 1))) (J := J2) (B := B) (n := n) (t := t) (f := f) (s := s) (ps := (x.2, ps.2.1 ++ [x.1], ps.2.2.1, ps.2.2.2.1, ps.2.2.2.2.1, ps.2.2.2.2.2.1, ps.2.2.2.2.2.2.1, ps.2.2.2.2.2.2.2.1, ps.2.2.2.2.2.2.2.2.1, ps.2.2.2.2.2.2.2.2.2.1, ps.2.2.2.2.2.2.2.2.2.2.1, ps.2.2.2.2.2.2.2.2.2.2.2.1, ps.2.2.2.2.2.2.2.2.2.2.2.2.1, ps.2.2.2.2.2.2.2.2.2.2.2.2.2.1, ps.2.2.2.2.2.2.2.2.2.2.2.2.2.2)) hu (yXq_fr b3 (zup_ne _ _ _ (by omega)) (zup_ne _ _ _ (by omega)) rfl) (by
      obtain ⟨g1, g2, g3, g4⟩ := hd1
      have hz : ∀ a, a ≠ u → a ≠ 25 → zup I2 u 0 (nI (ps.2.1.length + 1)) a = I1 a := fun a h1 h2 => (zup_ne _ _ _ h1).trans (b2.1 a h2)
      have hzu : ∀ k, k ≠ 0 → zup I2 u 0 (nI (ps.2.1.length + 1)) u k = I1 u k := fun k h => (zup_k _ _ h).trans (by rw [b2.1 u (by omega)])
      refine ⟨⟨?_, ?_, ?_, ?_, ?_, ?_, ?_, ?_⟩, ?_, ?_, ?_, ?_, ?_⟩
      · rw [zup_s]; simp
      · rw [hzu _ (by decide)]; exact g1.2.1
      · rw [hzu _ (by decide)]; exact g1.2.2.1
      · rw [hzu _ (by decide)]; exact g1.2.2.2.1
      · rw [hzu _ (by decide)]; exact g1.2.2.2.2.1
      · rw [hzu _ (by decide)]; exact g1.2.2.2.2.2.1
      · rw [hzu _ (by decide)]; exact g1.2.2.2.2.2.2.1
      · rw [hz 24 (by omega) (by decide)]; exact g1.2.2.2.2.2.2.2
      · rw [hz (u + 1) (by omega) (by omega), hz (u + 2) (by omega) (by omega), hz (u + 3) (by omega) (by omega), hz (u + 4) (by omega) (by omega)]; exact g2
      · unfold yFm; rw [hz (u + 5) (by omega) (by omega), hz (u + 5 + 1) (by omega) (by omega), hz (u + 8) (by omega) (by omega), hz (u + 8 + 1) (by omega) (by omega)]; exact g3
      · have := yNa_snoc (w := x.1) g4.1
        intro k w hkw
        rw [b2.2 27 (by decide)]
        exact this k w hkw
      · intro k w hkw
        rw [b2.2 28 (by decide), zup_ne _ _ _ (by decide)]
        exact g4.2.1 k w hkw
      · intro k w hkw
        rw [b2.2 29 (by decide), zup_ne _ _ _ (by decide)]
        exact g4.2.2 k w hkw)
    have hres : f_T_topicLine (zs I J (zPt t u u f s 1)) 24 = (f_T_take (zs (zup I2 u 0 (nI (ps.2.1.length + 1))) J2 (zPt t u u f s 1)) 24 59).bind fun q => (zbool q.1).bind fun x => some (x, q.2) := by
      simp (disch := (first | omega | assumption)) only [f_T_topicLine, zg_9, gi_10, si_10, gp_9_2, gp_9_3, gp_9_6, zbs, nI_add, pk_mul, znI_add1, znI_sub1, znI_subm, zle_nI, zlt_nI, zeq_nI, zle_0, zeq_0, zlt_0, zeq_m, zeq_1, zge_0, zbt0, zbt1, zB_0, zB_1, zB_b, zbool_0, zbool_1, ↓reduceIte, a1, e0, b1, n1, e2, ybid]
    rw [hres]
    exact yLR_zb hfin
/-- a book's weights -/
theorem x_bookLoop (hu : u = 2 ∨ u = 13) {b : Nat} (hb : b < 10) (hL : ps.2.1.length ≤ 4) (hLt : ∀ w ∈ ps.2.1, yLt w) : ∀ (d i fuel : Nat), i + d = 5 → d < fuel → ∀ (I : Nat → Nat → Int32) (J : Nat → Nat → Int64) (g : Nat) (W : Nat → Int32) (p : Nat), g < 16 → yXq I J B n p → yXD I J u (ps.1, ps.2.1, ps.2.2.1, ps.2.2.2.1, W, ps.2.2.2.2.2.1, ps.2.2.2.2.2.2.1, ps.2.2.2.2.2.2.2.1, ps.2.2.2.2.2.2.2.2.1, ps.2.2.2.2.2.2.2.2.2.1, ps.2.2.2.2.2.2.2.2.2.2.1, ps.2.2.2.2.2.2.2.2.2.2.2.1, ps.2.2.2.2.2.2.2.2.2.2.2.2.1, ps.2.2.2.2.2.2.2.2.2.2.2.2.2.1, ps.2.2.2.2.2.2.2.2.2.2.2.2.2.2) →
    yLR B n u t s I J (f_T_bookLine_46L fuel (zs I J (zPt t u u f s 1)) 24 (nI b) (nI g) (nI i)) ((ybl (ytok B n) ps.2.1 b d g W p).bd fun v => yfin (ytok B n) (v.2, ps.2.1, ps.2.2.1, ps.2.2.2.1, v.1, ps.2.2.2.2.2.1, ps.2.2.2.2.2.2.1, ps.2.2.2.2.2.2.2.1, ps.2.2.2.2.2.2.2.2.1, ps.2.2.2.2.2.2.2.2.2.1, ps.2.2.2.2.2.2.2.2.2.2.1, ps.2.2.2.2.2.2.2.2.2.2.2.1, ps.2.2.2.2.2.2.2.2.2.2.2.2.1, ps.2.2.2.2.2.2.2.2.2.2.2.2.2.1, ps.2.2.2.2.2.2.2.2.2.2.2.2.2.2)) := by
  intro d
  induction d with
  | zero =>
    intro i fuel hi hf I J g W p hg hq hd
    obtain ⟨m, rfl⟩ : ∃ m, fuel = m + 1 := ⟨fuel - 1, by omega⟩
    obtain rfl : i = 5 := by omega
    have hfin := x_fin (t := t) (f := f) (s := s) (ps := (p, ps.2.1, ps.2.2.1, ps.2.2.2.1, W, ps.2.2.2.2.2.1, ps.2.2.2.2.2.2.1, ps.2.2.2.2.2.2.2.1, ps.2.2.2.2.2.2.2.2.1, ps.2.2.2.2.2.2.2.2.2.1, ps.2.2.2.2.2.2.2.2.2.2.1, ps.2.2.2.2.2.2.2.2.2.2.2.1, ps.2.2.2.2.2.2.2.2.2.2.2.2.1, ps.2.2.2.2.2.2.2.2.2.2.2.2.2.1, ps.2.2.2.2.2.2.2.2.2.2.2.2.2.2)) hu hq hd
    rw [f_T_bookLine_46L, f_T_bookLine_46, if_pos (by decide), f_T_bookLine_118, ybid]
    exact hfin
  | succ d ih =>
    intro i fuel hi hf I J g W p hg hq hd
    obtain ⟨m, rfl⟩ : ∃ m, fuel = m + 1 := ⟨fuel - 1, by omega⟩
    have h0 := hq.2.1.1
    have hkb := (ytok_To (B := B) hq.2.2).1
    have c4 : ¬ (4 : Int32) < nI i := by rw [gt4 (by omega)]; omega
    rw [f_T_bookLine_46L]
    unfold ybl
    by_cases h3 : (ytok B n p).1 = 3
    · rw [if_pos h3]
      rw [h3] at h0
      have e3 : (nI 3 : Int32) = 3 := rfl
      have ht := x_top (t := t) (f := f) (s := s) hu hL hd.1.1 hLt hd.2.2.2.1 hg hq
      cases hx : ytop (ytok B n) ps.2.1 g p with
      | error cp_ =>
        obtain ⟨c, pl⟩ := cp_
        rw [hx] at ht
        obtain ⟨σ', b1, b2⟩ := ht
        refine ⟨σ', ?_, b2⟩
        simp (disch := (first | omega | assumption)) only [f_T_bookLine_46, gi_7, gi_9, gp_9_2, gp_9_6, gp_10_7, wi_10_7, eq3, mr4, gt4, zbs, nI_add, pk_mul, znI_add1, znI_sub1, znI_subm, zle_nI, zlt_nI, zeq_nI, zle_0, zeq_0, zlt_0, zeq_m, zeq_1, zge_0, zbt0, zbt1, zB_0, zB_1, zB_b, zbool_0, zbool_1, ↓reduceIte, c4, h0, e3, b1]
      | ok x =>
        rw [hx] at ht
        obtain ⟨I1, J1, b1, b2, b3⟩ := ht
        have hx4 := ytop_ok hq.2.2 hx
        have hd1 := yXD_fs hd b2 hu
        have hm1 : ¬ nI x.1 = -1 := znI_ne_m1 (by omega)
        have hn := x_num (t := t) (u := u) (f := f) (s := s) (lo := 0) (hi := 9) (by decide) (by decide) b3
        simp only [yRs.bd]
        cases hy : ynum (ytok B n) 0 9 x.2 with
        | error cp_ =>
          obtain ⟨c, pl⟩ := cp_
          rw [hy] at hn
          obtain ⟨σ', c1, c2⟩ := hn
          have c1 : f_T_takeNumber (zs I1 J1 (zPt t u u f s 1)) 24 0 9 = some (0, σ') := c1
          refine ⟨σ', ?_, yEX_fr (yfX_fs b2) c2⟩
          simp (disch := (first | omega | assumption)) only [f_T_bookLine_46, gi_7, gi_9, gp_9_2, gp_9_6, gp_10_7, wi_10_7, eq3, mr4, gt4, zbs, nI_add, pk_mul, znI_add1, znI_sub1, znI_subm, zle_nI, zlt_nI, zeq_nI, zle_0, zeq_0, zlt_0, zeq_m, zeq_1, zge_0, zbt0, zbt1, zB_0, zB_1, zB_b, zbool_0, zbool_1, ↓reduceIte, c4, h0, e3, b1, hm1, c1]
        | ok v =>
          rw [hy] at hn
          obtain ⟨I2, J2, c1, c2, c3⟩ := hn
          have c1 : f_T_takeNumber (zs I1 J1 (zPt t u u f s 1)) 24 0 9 = some (1, zs I2 J2 (zPt t u u f s 1)) := c1
          have n1 : ¬ (1 : Int32) = 0 := by decide
          have e10 : I2 24 10 = nI v.1 := by rw [c2.1 24 (by decide), zup_s]
          have hor := ygor g hg x.1 (by omega)
          have hidx : 4 * b + x.1 < 40 := by omega
          have hd2 : yXD (zup I2 (u + 1) (4 * b + x.1) (nI v.1)) J2 u (ps.1, ps.2.1, ps.2.2.1, ps.2.2.2.1, va_up W (4 * b + x.1) (nI v.1), ps.2.2.2.2.2.1, ps.2.2.2.2.2.2.1, ps.2.2.2.2.2.2.2.1, ps.2.2.2.2.2.2.2.2.1, ps.2.2.2.2.2.2.2.2.2.1, ps.2.2.2.2.2.2.2.2.2.2.1, ps.2.2.2.2.2.2.2.2.2.2.2.1, ps.2.2.2.2.2.2.2.2.2.2.2.2.1, ps.2.2.2.2.2.2.2.2.2.2.2.2.2.1, ps.2.2.2.2.2.2.2.2.2.2.2.2.2.2) := by
            have hz : ∀ a, a ≠ u + 1 → a ≠ 24 → a ≠ 25 → zup I2 (u + 1) (4 * b + x.1) (nI v.1) a = I1 a := fun a h1 h2 h3 => (zup_ne _ _ _ h1).trans ((c2.1 a h3).trans (zup_ne _ _ _ h2))
            obtain ⟨g1, g2, g3, g4⟩ := hd1
            unfold yXD yFm yNa
            rw [hz u (by omega) (by omega) (by omega), hz (u + 2) (by omega) (by omega) (by omega), hz (u + 3) (by omega) (by omega) (by omega), hz (u + 4) (by omega) (by omega) (by omega), hz (u + 5) (by omega) (by omega) (by omega), hz (u + 5 + 1) (by omega) (by omega) (by omega), hz (u + 8) (by omega) (by omega) (by omega), hz (u + 8 + 1) (by omega) (by omega) (by omega), c2.2 27 (by decide), c2.2 28 (by decide), c2.2 29 (by decide), zup_ne _ _ _ (show 24 ≠ u + 1 by omega), c2.1 24 (by decide), zup_k _ _ (show 9 ≠ 10 by decide), zup_k _ _ (show 0 ≠ 10 by decide), zup_k _ _ (show 1 ≠ 10 by decide)]
            refine ⟨g1, ⟨yup_row (fun k hk => ?_), g2.2⟩, g3, g4⟩
            rw [c2.1 (u + 1) (by omega), zup_ne _ _ _ (by omega)]
            exact g2.1 k hk
          have hf2 : yfX u I J (zup I2 (u + 1) (4 * b + x.1) (nI v.1)) J2 := yfX_trans (yfX_fs b2) (yfX_up (yfX_trans (yfX_24 (yfX_refl u I1 J1)) (yfX_fs c2)) (by omega))
          have nx := ih (i + 1) m (by omega) (by omega) (zup I2 (u + 1) (4 * b + x.1) (nI v.1)) J2 (g ||| 2 ^ x.1) (va_up W (4 * b + x.1) (nI v.1)) v.2 hor.2 (yXq_fr c3 (zup_ne _ _ _ (by omega)) (zup_ne _ _ _ (by omega)) rfl) hd2
          refine yLR_fr hf2 ?_
          have hres : f_T_bookLine_46 (f_T_bookLine_46L m) (zs I J (zPt t u u f s 1)) 24 (nI b) (nI g) (nI i) = f_T_bookLine_46L m (zs (zup I2 (u + 1) (4 * b + x.1) (nI v.1)) J2 (zPt t u u f s 1)) 24 (nI b) (nI (g ||| 2 ^ x.1)) (nI (i + 1)) := by
            simp (disch := (first | omega | assumption)) only [f_T_bookLine_46, gi_7, gi_9, gp_9_2, gp_9_6, gp_10_7, wi_10_7, eq3, mr4, gt4, zbs, nI_add, pk_mul, znI_add1, znI_sub1, znI_subm, zle_nI, zlt_nI, zeq_nI, zle_0, zeq_0, zlt_0, zeq_m, zeq_1, zge_0, zbt0, zbt1, zB_0, zB_1, zB_b, zbool_0, zbool_1, ↓reduceIte, c4, h0, e3, b1, hm1, c1, n1, e10, hor.1]
          rw [hres]
          exact nx
    · rw [if_neg h3]
      have e3 : ¬ nI (ytok B n p).1 = 3 := by rw [eq3 (by omega)]; exact h3
      have hfin := x_fin (t := t) (f := f) (s := s) (ps := (p, ps.2.1, ps.2.2.1, ps.2.2.2.1, W, ps.2.2.2.2.2.1, ps.2.2.2.2.2.2.1, ps.2.2.2.2.2.2.2.1, ps.2.2.2.2.2.2.2.2.1, ps.2.2.2.2.2.2.2.2.2.1, ps.2.2.2.2.2.2.2.2.2.2.1, ps.2.2.2.2.2.2.2.2.2.2.2.1, ps.2.2.2.2.2.2.2.2.2.2.2.2.1, ps.2.2.2.2.2.2.2.2.2.2.2.2.2.1, ps.2.2.2.2.2.2.2.2.2.2.2.2.2.2)) hu hq hd
      have hres : f_T_bookLine_46 (f_T_bookLine_46L m) (zs I J (zPt t u u f s 1)) 24 (nI b) (nI g) (nI i) = f_T_take (zs I J (zPt t u u f s 1)) 24 59 := by
        simp (disch := (first | omega | assumption)) only [f_T_bookLine_46, gi_7, gi_9, gp_9_2, gp_9_6, gp_10_7, wi_10_7, eq3, mr4, gt4, zbs, nI_add, pk_mul, znI_add1, znI_sub1, znI_subm, zle_nI, zlt_nI, zeq_nI, zle_0, zeq_0, zlt_0, zeq_m, zeq_1, zge_0, zbt0, zbt1, zB_0, zB_1, zB_b, zbool_0, zbool_1, ↓reduceIte, c4, h0, e3, f_T_bookLine_118, ybid]
      rw [hres]
      exact hfin
end ZXL
