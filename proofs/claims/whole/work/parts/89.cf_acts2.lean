/-! acts: comes, mood, out, read -/
theorem zxrd : ∀ a, a < 64 → ∀ r, r < 6 → nI a ^^^ (1 <<< (nI r &&& 31)) = nI (a ^^^ 2 ^ r) := by decide +kernel
set_option maxRecDepth 100000 in
theorem zxbk : ∀ b, b < 10 → ∀ a, a < 1024 → nI a ^^^ (1 <<< (nI b &&& 31)) = nI (a ^^^ 2 ^ b) := by decide +kernel
section ZAb
variable {I : Nat → Nat → Int32} {J : Nat → Nat → Int64} {t u i f s x : Nat} {nt nb nr q sh md om im : Nat} {LW BW : List Int32}
theorem zIv_act {I2 : Nat → Nat → Int32} (h : zIv2 I t u nt nb nr q sh md om im LW BW) (hf : zfr (zSa t) I I2) (hN : zNow I2 30 (I2 111)) (hR : zRow (I2 111) nt nb nr) (hB : zBx I2 nt nb nr) (hA : zAc I2 nt nb nr BW) : ∃ om' im', zIv2 I2 t u nt nb nr q sh md om' im' LW BW := by
  obtain ⟨h1, ⟨ht, hT, -, -, -, -, w2, w3⟩, h3, h4, h5, h6, h7, h8, h9, h10, h11⟩ := h
  obtain ⟨im', hi1, hi2⟩ := hR.1.2.2.1
  obtain ⟨om', ho1, ho2⟩ := hR.1.2.2.2
  have r : ∀ a, (∀ k, zSa t a k = false) → I2 a = I a := fun a ha => zfr_row hf a ha
  have c : ∀ k, k ≠ 56 → k ≠ 57 → I2 91 k = I 91 k := fun k g1 g2 => hf 91 k (decide_eq_false (by omega))
  have T : ∀ a, a = 97 ∨ a = 98 ∨ a = 99 ∨ a = 107 ∨ a = 109 ∨ a = 110 ∨ a = t ∨ a = t + 1 ∨ a = t + 3 ∨ a = t + 4 ∨ a = t + 5 ∨ a = t + 6 ∨ a = t + 8 ∨ a = t + 9 ∨ a = 0 ∨ a = 1 ∨ a = 24 ∨ a = 51 ∨ a = 92 ∨ a = 96 ∨ a = 74 ∨ a = 124 ∨ a = 75 ∨ a = 117 ∨ (68 ≤ a ∧ a ≤ 73) ∨ (126 ≤ a ∧ a ≤ 130) → I2 a = I a := fun a ha => r a (fun k => decide_eq_false (by omega))
  refine ⟨om', im', h1, ⟨ht, ?_, hN, hR.1, ⟨ho2, ho1⟩, ⟨hi2, hi1⟩, by rw [T 51 (by simp)]; exact w2, by rw [T 51 (by simp)]; exact w3⟩, hR, zTp_rows h4 (T 1 (by simp)) (T 92 (by simp)) (by rw [T 0 (by simp)]) (c 1 (by decide) (by decide)), ?_, ?_, hB, hA, zLf_rows h9 (by rw [T 0 (by simp)]) (c 71 (by decide) (by decide)) (T 74 (by simp)) (T 124 (by simp)), zLy_rows h10 (by rw [T 0 (by simp)]) (c 59 (by decide) (by decide)) (T 75 (by simp)) (T 117 (by simp)), zLk_rows h11 (c 78 (by decide) (by decide)) (c 79 (by decide) (by decide)) (fun a ha => T a (by omega))⟩
  · unfold zTold zMd zXd zBd at hT ⊢
    rw [T 97 (by simp), T 98 (by simp), T 99 (by simp), T 107 (by simp), T 109 (by simp), T 110 (by simp), T t (by simp), T (t + 1) (by simp), T (t + 3) (by simp), T (t + 4) (by simp), T (t + 5) (by simp), T (t + 6) (by simp), T (t + 8) (by simp), T (t + 9) (by simp), c 22 (by decide) (by decide), c 41 (by decide) (by decide), c 42 (by decide) (by decide), c 43 (by decide) (by decide), c 44 (by decide) (by decide), c 45 (by decide) (by decide), c 46 (by decide) (by decide), c 47 (by decide) (by decide), c 48 (by decide) (by decide)]
    exact hT
  · rw [T 24 (by simp), c 2 (by decide) (by decide), c 3 (by decide) (by decide)]; exact h5
  · intro g hg
    rw [T 96 (by simp)]; exact h6 g hg
theorem zIs_ex {I' : Nat → Nat → Int32} {J' : Nat → Nat → Int64} {t u i f s x : Nat} (h : ∃ om' im', zIv2 I' t u nt nb nr q sh md om' im' LW BW) : zIs (zs I' J' (zPt t u i f s x)) := by
  obtain ⟨om', im', h⟩ := h
  exact zIs_mk h
theorem zBx_ac {I2 : Nat → Nat → Int32} (h : zBx I nt nb nr) (hr : ∀ a, (76 ≤ a ∧ a ≤ 90) ∨ a = 132 ∨ a = 133 → I2 a = I a) : zBx I2 nt nb nr := zBx_rows h (hr 132 (by omega)) (hr 133 (by omega)) (fun a h1 h2 => hr a (by omega))
theorem s_comes (h : zIv2 I t u nt nb nr q sh md om im LW BW) (p : Int32) : zOKs (zs I J (zPt t u i f s x)) (fun σ => f_W_comes σ 0 p) (fun σ => f_M_comes σ 91 p) := by
  obtain ⟨d, w, o, Q, hA⟩ := h.2.2.2.2.2.2.2.1
  obtain ⟨ht, hT, hN, hNb, -⟩ := h.2.1
  obtain ⟨hM, hX, -⟩ := hT
  have hnr := hM.2.2.1.2
  have hnb := hM.2.1.2
  have hnt := hM.1.2
  have hR := h.2.2.1
  have zt : ¬ zB true = 0 := by decide
  have zf : zB false = 0 := rfl
  have x1 := g_W_isReader (J := J) (t := t) (u := u) (i := i) (f := f) (s := s) (x := x) ht hX.2.2.1.1 p
  have m1 := fun I' (h : ∀ k, k ≠ 56 → k ≠ 57 → I' 91 k = I 91 k) => g_M_isReader (I := I') (J := J) (t := t) (u := u) (i := i) (f := f) (s := s) (x := x) (by rw [h 43 (by decide) (by decide)]; exact hM.2.2.1.1) hnr p
  rcases zlt_cases p (n := nr) (by omega) with ⟨h1, r, hr, rfl⟩ | h1
  · rw [h1] at x1 m1
    obtain ⟨⟨g1, g1'⟩, ⟨c0, c1, c2, c56, c57⟩, -⟩ := id hA
    obtain ⟨I1, a1, a2, a3, a4, a5, a6, a7⟩ := x_add (J := J) (t := t) (u := u) (i := i) (f := f) (s := s) (x := x) (p0 := 0) (p1 := nI r) (p2 := 0) (p3 := 0) (show d ≤ 40 by omega) g1' c0 c2
    obtain ⟨ia, hb1, hb2⟩ := hNb.2.2.1
    have e3 : I1 30 3 = I 111 30 := by rw [a2 30 (by omega)]; exact hN.2.2.1
    generalize hv : I 111 30 ^^^ (1 <<< (nI r &&& 31)) = v at *
    have hx : f_W_comes (zs I J (zPt t u i f s x)) 0 (nI r) = some ((v >>> (nI r &&& 31)) &&& 1, (zs (zup I1 30 3 v) J (zPt t u i f s x))) := by
      have z : zup I1 30 3 v 30 3 = v := zup_s _ _ _ _
      rw [f_W_comes, zg_11, x1, zbs, if_neg zt, gp_11_8, zbs, a1, zbs, gp_11_5, zbs, f_N_turnIn, zg_4 (Or.inl rfl), gi_4 (Or.inl rfl), zbs, e3, hv, si_4 (Or.inl rfl), zbs, zbs, gp_11_5, zbs, gi_4 (Or.inl rfl), zbs, z]
    have e91 : ∀ k, zup I1 30 3 v 91 k = I 91 k := fun k => by rw [zup_ne _ _ _ (by decide), a2 91 (by omega)]
    obtain ⟨I3, b1, b2, b3, b4, b5⟩ := m_act (I := zup I1 30 3 v) (J := J) (t := t) (u := u) (i := i) (f := f) (s := s) (x := x) (show d ≤ 40 by omega) (by rw [e91]; exact c56)
    have r3 : ∀ a, a ≠ 91 → a ≠ 116 → a ≠ 30 → (a < 41 ∨ 45 < a) → I3 a = I a := fun a q1 q2 q3 q4 => by rw [zfr_row b2 a (fun k => by simp [q1, q2]), zup_ne _ _ _ q3, a2 a q4]
    have e111 : I3 111 = I 111 := r3 111 (by decide) (by decide) (by decide) (by decide)
    have hm : f_M_comes (zs (zup I1 30 3 v) J (zPt t u i f s x)) 91 (nI r) = some ((v >>> (nI r &&& 31)) &&& 1, (zs (zup I3 111 30 v) J (zPt t u i f s x))) := by
      have z : zup I3 111 30 v 111 30 = v := zup_s _ _ _ _
      rw [f_M_comes, zg_12, m1 _ (fun k _ _ => e91 k), zbs, if_neg zt, b1, zbs, gp_12_49, zbs, al_111_30, zbs, e111, hv, wl_111_30, zbs, gp_12_49, zbs, al_111_30, zbs, z]
    have r4 : ∀ a, a ≠ 91 → a ≠ 111 → a ≠ 116 → a ≠ 30 → (a < 41 ∨ 45 < a) → zup I3 111 30 v a = I a := fun a q1 q2 q3 q4 q5 => (zup_ne _ _ _ q2).trans (r3 a q1 q3 q4 q5)
    have q4x : ∀ a, 41 ≤ a → a ≤ 45 → zup I3 111 30 v a = I1 a := fun a q1 q2 => by rw [zup_ne _ _ _ (by omega), zfr_row b2 a (fun k => by simp; omega), zup_ne _ _ _ (by omega)]
    have row : zup I3 111 30 v 111 = va_up (I 111) 30 v := by rw [zup_self, e111]
    have hvb : ∃ a, a < 2 ^ nr ∧ v = nI a := by
      refine ⟨ia ^^^ 2 ^ r, Nat.xor_lt_two_pow hb1 (Nat.pow_lt_pow_right (by decide) hr), ?_⟩
      rw [← hv, hb2]
      exact zxrd _ (z64 hnr hb1) r (by omega)
    have hrow : zRow (zup I3 111 30 v 111) nt nb nr := by
      rw [row]
      obtain ⟨⟨n1, n2, n3, n4⟩, n5⟩ := hR
      refine ⟨⟨fun k hk => ?_, fun k hk => ?_, ?_, ?_⟩, fun k hk => ?_⟩
      · unfold va_up; rw [if_neg (by omega)]; exact n1 k hk
      · unfold va_up; rw [if_neg (by omega)]; exact n2 k hk
      · unfold va_up; rw [if_pos rfl]; exact hvb
      · unfold va_up; rw [if_neg (by decide)]; exact n4
      · unfold va_up; rw [if_neg (by omega)]; exact n5 k hk
    refine ⟨_, _, _, hx, hm, zIs_ex (zIv_act h (fun a k ha => ?_) ?_ hrow (zBx_ac h.2.2.2.2.2.2.1 (fun a ha => r4 a (by omega) (by omega) (by omega) (by omega) (by omega))) (zAc_new hnt hnr hnb hA ⟨?_, ?_, ?_, ?_, ?_⟩ (fun k hk => ?_) (fun k _ => ?_) ?_ (fun k hk => ?_) (fun j hj k hk => ?_) hrow ?_))⟩
    · by_cases q91 : a = 91
      · subst q91
        have : k ≠ 56 ∧ k ≠ 57 := by have := zSa_n ha; omega
        rw [zup_ne _ _ _ (by decide), b2 91 k (by simp [this]), e91]
      · have : a ≠ 111 ∧ a ≠ 116 ∧ a ≠ 30 ∧ (a < 41 ∨ 45 < a) := by
          have := zSa_n ha
          omega
        rw [r4 a q91 this.1 this.2.1 this.2.2.1 this.2.2.2]
    · rw [row]
      refine ⟨fun k hk => ?_, fun k hk => ?_, ?_, ?_, fun k hk => ?_⟩
      · rw [r4 31 (by decide) (by decide) (by decide) (by decide) (by decide), hN.1 k hk]; unfold va_up; rw [if_neg (by omega)]
      · rw [r4 32 (by decide) (by decide) (by decide) (by decide) (by decide), hN.2.1 k hk]; unfold va_up; rw [if_neg (by omega)]
      · rw [zup_ne _ _ _ (by decide), zfr_row b2 30 (fun _ => rfl)]; rw [zup_s]; unfold va_up; rw [if_pos rfl]
      · rw [zup_ne _ _ _ (by decide), zfr_row b2 30 (fun _ => rfl)]; rw [zup_k _ _ (by decide), a2 30 (by omega), hN.2.2.2.1]; unfold va_up; rw [if_neg (by decide)]
      · rw [r4 33 (by decide) (by decide) (by decide) (by decide) (by decide), hN.2.2.2.2 k hk]; unfold va_up; rw [if_neg (by omega)]
    · rw [q4x 41 (by decide) (by decide)]; exact a3.1
    · rw [q4x 41 (by decide) (by decide)]; exact a3.2.1
    · rw [q4x 41 (by decide) (by decide)]; exact a3.2.2
    · rw [zup_ne _ _ _ (by decide)]; exact b3.1
    · rw [zup_ne _ _ _ (by decide)]; exact b3.2
    · rw [q4x 42 (by decide) (by decide), q4x 43 (by decide) (by decide), q4x 44 (by decide) (by decide), q4x 45 (by decide) (by decide), a4, a5, a6, a7]
      unfold va_up
      simp only [if_neg hk]
      exact ⟨trivial, trivial, trivial, trivial⟩
    · rw [r4 46 (by decide) (by decide) (by decide) (by decide) (by decide)]
    · rw [r4 107 (by decide) (by decide) (by decide) (by decide) (by decide)]
    · rw [zup_ne _ _ _ (by decide), b4 k hk, zup_ne _ _ _ (by decide), a2 111 (by omega)]
    · rw [zup_ne _ _ _ (by decide), b5 j hj k hk, zup_ne _ _ _ (by decide), a2 116 (by omega)]
    · left
      refine ⟨?_, r, hr, ?_, fun k _ => ?_⟩
      · rw [q4x 42 (by decide) (by decide), a4]; unfold va_up; rw [if_pos rfl]
      · rw [q4x 43 (by decide) (by decide), a5]; unfold va_up; rw [if_pos rfl]
      · rw [row, hv]
  · rw [h1] at x1 m1
    refine ⟨-1, (zs I J (zPt t u i f s x)), (zs I J (zPt t u i f s x)), ?_, ?_, zIs_mk h⟩
    · show f_W_comes _ _ _ = _
      rw [f_W_comes, zg_11, x1, zbs, if_pos zf]
    · show f_M_comes _ _ _ = _
      rw [f_M_comes, zg_12, m1 I (fun _ _ _ => rfl), zbs, if_pos zf]
theorem s_out (h : zIv2 I t u nt nb nr q sh md om im LW BW) (p : Int32) : zOKs (zs I J (zPt t u i f s x)) (fun σ => f_W_out σ 0 p) (fun σ => f_M_out σ 91 p) := by
  obtain ⟨d, w, o, Q, hA⟩ := h.2.2.2.2.2.2.2.1
  obtain ⟨ht, hT, hN, hNb, -⟩ := h.2.1
  obtain ⟨hM, hX, -⟩ := hT
  have hnr := hM.2.2.1.2
  have hnb := hM.2.1.2
  have hnt := hM.1.2
  have hR := h.2.2.1
  have zt : ¬ zB true = 0 := by decide
  have zf : zB false = 0 := rfl
  have x1 := g_W_isBook (J := J) (t := t) (u := u) (i := i) (f := f) (s := s) (x := x) ht hX.2.1.1 p
  have m1 := fun I' (h : ∀ k, k ≠ 56 → k ≠ 57 → I' 91 k = I 91 k) => g_M_isBook (I := I') (J := J) (t := t) (u := u) (i := i) (f := f) (s := s) (x := x) (by rw [h 42 (by decide) (by decide)]; exact hM.2.1.1) hnb p
  rcases zlt_cases p (n := nb) (by omega) with ⟨h1, r, hr, rfl⟩ | h1
  · rw [h1] at x1 m1
    obtain ⟨⟨g1, g1'⟩, ⟨c0, c1, c2, c56, c57⟩, -⟩ := id hA
    obtain ⟨I1, a1, a2, a3, a4, a5, a6, a7⟩ := x_add (J := J) (t := t) (u := u) (i := i) (f := f) (s := s) (x := x) (p0 := 2) (p1 := nI r) (p2 := 0) (p3 := 0) (show d ≤ 40 by omega) g1' c0 c2
    obtain ⟨ia, hb1, hb2⟩ := hNb.2.2.2
    have e3 : I1 30 4 = I 111 31 := by rw [a2 30 (by omega)]; exact hN.2.2.2.1
    generalize hv : I 111 31 ^^^ (1 <<< (nI r &&& 31)) = v at *
    have hx : f_W_out (zs I J (zPt t u i f s x)) 0 (nI r) = some ((v >>> (nI r &&& 31)) &&& 1, (zs (zup I1 30 4 v) J (zPt t u i f s x))) := by
      have z : zup I1 30 4 v 30 4 = v := zup_s _ _ _ _
      rw [f_W_out, zg_11, x1, zbs, if_neg zt, gp_11_8, zbs, a1, zbs, gp_11_5, zbs, f_N_turnOut, zg_4 (Or.inl rfl), gi_4 (Or.inl rfl), zbs, e3, hv, si_4 (Or.inl rfl), zbs, zbs, gp_11_5, zbs, gi_4 (Or.inl rfl), zbs, z]
    have e91 : ∀ k, zup I1 30 4 v 91 k = I 91 k := fun k => by rw [zup_ne _ _ _ (by decide), a2 91 (by omega)]
    obtain ⟨I3, b1, b2, b3, b4, b5⟩ := m_act (I := zup I1 30 4 v) (J := J) (t := t) (u := u) (i := i) (f := f) (s := s) (x := x) (show d ≤ 40 by omega) (by rw [e91]; exact c56)
    have r3 : ∀ a, a ≠ 91 → a ≠ 116 → a ≠ 30 → (a < 41 ∨ 45 < a) → I3 a = I a := fun a q1 q2 q3 q4 => by rw [zfr_row b2 a (fun k => by simp [q1, q2]), zup_ne _ _ _ q3, a2 a q4]
    have e111 : I3 111 = I 111 := r3 111 (by decide) (by decide) (by decide) (by decide)
    have hm : f_M_out (zs (zup I1 30 4 v) J (zPt t u i f s x)) 91 (nI r) = some ((v >>> (nI r &&& 31)) &&& 1, (zs (zup I3 111 31 v) J (zPt t u i f s x))) := by
      have z : zup I3 111 31 v 111 31 = v := zup_s _ _ _ _
      rw [f_M_out, zg_12, m1 _ (fun k _ _ => e91 k), zbs, if_neg zt, b1, zbs, gp_12_49, zbs, al_111_31, zbs, e111, hv, wl_111_31, zbs, gp_12_49, zbs, al_111_31, zbs, z]
    have r4 : ∀ a, a ≠ 91 → a ≠ 111 → a ≠ 116 → a ≠ 30 → (a < 41 ∨ 45 < a) → zup I3 111 31 v a = I a := fun a q1 q2 q3 q4 q5 => (zup_ne _ _ _ q2).trans (r3 a q1 q3 q4 q5)
    have q4x : ∀ a, 41 ≤ a → a ≤ 45 → zup I3 111 31 v a = I1 a := fun a q1 q2 => by rw [zup_ne _ _ _ (by omega), zfr_row b2 a (fun k => by simp; omega), zup_ne _ _ _ (by omega)]
    have row : zup I3 111 31 v 111 = va_up (I 111) 31 v := by rw [zup_self, e111]
    have hvb : ∃ a, a < 2 ^ nb ∧ v = nI a := by
      refine ⟨ia ^^^ 2 ^ r, Nat.xor_lt_two_pow hb1 (Nat.pow_lt_pow_right (by decide) hr), ?_⟩
      rw [← hv, hb2]
      exact zxbk r (by omega) _ (z2n hnb hb1)
    have hrow : zRow (zup I3 111 31 v 111) nt nb nr := by
      rw [row]
      obtain ⟨⟨n1, n2, n3, n4⟩, n5⟩ := hR
      refine ⟨⟨fun k hk => ?_, fun k hk => ?_, ?_, ?_⟩, fun k hk => ?_⟩
      · unfold va_up; rw [if_neg (by omega)]; exact n1 k hk
      · unfold va_up; rw [if_neg (by omega)]; exact n2 k hk
      · unfold va_up; rw [if_neg (by decide)]; exact n3
      · unfold va_up; rw [if_pos rfl]; exact hvb
      · unfold va_up; rw [if_neg (by omega)]; exact n5 k hk
    refine ⟨_, _, _, hx, hm, zIs_ex (zIv_act h (fun a k ha => ?_) ?_ hrow (zBx_ac h.2.2.2.2.2.2.1 (fun a ha => r4 a (by omega) (by omega) (by omega) (by omega) (by omega))) (zAc_new hnt hnr hnb hA ⟨?_, ?_, ?_, ?_, ?_⟩ (fun k hk => ?_) (fun k _ => ?_) ?_ (fun k hk => ?_) (fun j hj k hk => ?_) hrow ?_))⟩
    · by_cases q91 : a = 91
      · subst q91
        have : k ≠ 56 ∧ k ≠ 57 := by have := zSa_n ha; omega
        rw [zup_ne _ _ _ (by decide), b2 91 k (by simp [this]), e91]
      · have : a ≠ 111 ∧ a ≠ 116 ∧ a ≠ 30 ∧ (a < 41 ∨ 45 < a) := by
          have := zSa_n ha
          omega
        rw [r4 a q91 this.1 this.2.1 this.2.2.1 this.2.2.2]
    · rw [row]
      refine ⟨fun k hk => ?_, fun k hk => ?_, ?_, ?_, fun k hk => ?_⟩
      · rw [r4 31 (by decide) (by decide) (by decide) (by decide) (by decide), hN.1 k hk]; unfold va_up; rw [if_neg (by omega)]
      · rw [r4 32 (by decide) (by decide) (by decide) (by decide) (by decide), hN.2.1 k hk]; unfold va_up; rw [if_neg (by omega)]
      · rw [zup_ne _ _ _ (by decide), zfr_row b2 30 (fun _ => rfl)]; rw [zup_k _ _ (by decide), a2 30 (by omega), hN.2.2.1]; unfold va_up; rw [if_neg (by decide)]
      · rw [zup_ne _ _ _ (by decide), zfr_row b2 30 (fun _ => rfl)]; rw [zup_s]; unfold va_up; rw [if_pos rfl]
      · rw [r4 33 (by decide) (by decide) (by decide) (by decide) (by decide), hN.2.2.2.2 k hk]; unfold va_up; rw [if_neg (by omega)]
    · rw [q4x 41 (by decide) (by decide)]; exact a3.1
    · rw [q4x 41 (by decide) (by decide)]; exact a3.2.1
    · rw [q4x 41 (by decide) (by decide)]; exact a3.2.2
    · rw [zup_ne _ _ _ (by decide)]; exact b3.1
    · rw [zup_ne _ _ _ (by decide)]; exact b3.2
    · rw [q4x 42 (by decide) (by decide), q4x 43 (by decide) (by decide), q4x 44 (by decide) (by decide), q4x 45 (by decide) (by decide), a4, a5, a6, a7]
      unfold va_up
      simp only [if_neg hk]
      exact ⟨trivial, trivial, trivial, trivial⟩
    · rw [r4 46 (by decide) (by decide) (by decide) (by decide) (by decide)]
    · rw [r4 107 (by decide) (by decide) (by decide) (by decide) (by decide)]
    · rw [zup_ne _ _ _ (by decide), b4 k hk, zup_ne _ _ _ (by decide), a2 111 (by omega)]
    · rw [zup_ne _ _ _ (by decide), b5 j hj k hk, zup_ne _ _ _ (by decide), a2 116 (by omega)]
    · right; right; left
      refine ⟨?_, r, hr, ?_, fun k _ => ?_⟩
      · rw [q4x 42 (by decide) (by decide), a4]; unfold va_up; rw [if_pos rfl]
      · rw [q4x 43 (by decide) (by decide), a5]; unfold va_up; rw [if_pos rfl]
      · rw [row, hv]
  · rw [h1] at x1 m1
    refine ⟨-1, (zs I J (zPt t u i f s x)), (zs I J (zPt t u i f s x)), ?_, ?_, zIs_mk h⟩
    · show f_W_out _ _ _ = _
      rw [f_W_out, zg_11, x1, zbs, if_pos zf]
    · show f_M_out _ _ _ = _
      rw [f_M_out, zg_12, m1 I (fun _ _ _ => rfl), zbs, if_pos zf]
end ZAb
