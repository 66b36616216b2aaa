/-! acts: mood, read -/
section ZAc
variable {I : Nat → Nat → Int32} {J : Nat → Nat → Int64} {t u i f s x : Nat} {nt nb nr q sh md om im : Nat} {LW BW : List Int32}
theorem s_mood1 (h : zIv2 I t u nt nb nr q sh md om im LW BW) {r : Nat} {v : Int32} (hr : r < nr) (hv : v = -1 ∨ ∃ k, k < nt ∧ v = nI k) : zOKs (zs I J (zPt t u i f s x)) (fun σ => f_W_mood_24 σ 0 (nI r) v) (fun σ => f_M_mood_24 σ 91 (nI r) v) := by
  obtain ⟨d, w, o, Q, hA⟩ := h.2.2.2.2.2.2.2.1
  obtain ⟨ht, hT, hN, hNb, -⟩ := h.2.1
  obtain ⟨hM, hX, -⟩ := hT
  have hnr := hM.2.2.1.2
  have hnb := hM.2.1.2
  have hnt := hM.1.2
  have hR := h.2.2.1
  have hr6 : r < 6 := by omega
  obtain ⟨⟨g1, g1'⟩, ⟨c0, c1, c2, c56, c57⟩, -⟩ := id hA
  have e32 : I 32 r = I 111 (24 + r) := hN.2.1 r hr6
  obtain ⟨I1, a1, a2, a3, a4, a5, a6, a7⟩ := x_add (J := J) (t := t) (u := u) (i := i) (f := f) (s := s) (x := x) (p0 := 1) (p1 := nI r) (p2 := I 111 (24 + r)) (p3 := v) (show d ≤ 40 by omega) g1' c0 c2
  have hx : f_W_mood_24 (zs I J (zPt t u i f s x)) 0 (nI r) v = some (I 111 (24 + r), (zs (zup I1 32 r v) J (zPt t u i f s x))) := by
    rw [f_W_mood_24, gp_11_5, zbs, gp_4_1 (Or.inl rfl), zbs, ai_4_1 (Or.inl rfl) hr6, zbs, gp_11_8, zbs, show I (30 + 2) r = I 111 (24 + r) from e32, a1, zbs, gp_11_5, zbs, gp_4_1 (Or.inl rfl), zbs, wi_4_1 (Or.inl rfl) hr6, zbs]
  have e91 : ∀ k, zup I1 32 r v 91 k = I 91 k := fun k => by rw [zup_ne _ _ _ (by decide), a2 91 (by omega)]
  obtain ⟨I3, b1, b2, b3, b4, b5⟩ := m_act (I := zup I1 32 r v) (J := J) (t := t) (u := u) (i := i) (f := f) (s := s) (x := x) (show d ≤ 40 by omega) (by rw [e91]; exact c56)
  have r3 : ∀ a, a ≠ 91 → a ≠ 116 → a ≠ 32 → (a < 41 ∨ 45 < a) → I3 a = I a := fun a q1 q2 q3 q4 => by rw [zfr_row b2 a (fun k => by simp [q1, q2]), zup_ne _ _ _ q3, a2 a q4]
  have e111 : I3 111 = I 111 := r3 111 (by decide) (by decide) (by decide) (by decide)
  have hm : f_M_mood_24 (zs (zup I1 32 r v) J (zPt t u i f s x)) 91 (nI r) v = some (I 111 (24 + r), (zs (zup I3 111 (24 + r) v) J (zPt t u i f s x))) := by
    rw [f_M_mood_24, b1, zbs, gp_12_49, zbs, show (24 : Int32) = nI 24 from rfl, nI_add, ai_111 (by omega), zbs, zbs, wi_111 (by omega), zbs, e111]
  have r4 : ∀ a, a ≠ 91 → a ≠ 111 → a ≠ 116 → a ≠ 32 → (a < 41 ∨ 45 < a) → zup I3 111 (24 + r) v a = I a := fun a q1 q2 q3 q4 q5 => (zup_ne _ _ _ q2).trans (r3 a q1 q3 q4 q5)
  have q4x : ∀ a, 41 ≤ a → a ≤ 45 → zup I3 111 (24 + r) v a = I1 a := fun a q1 q2 => by rw [zup_ne _ _ _ (by omega), zfr_row b2 a (fun k => by simp; omega), zup_ne _ _ _ (by omega)]
  have row : zup I3 111 (24 + r) v 111 = va_up (I 111) (24 + r) v := by rw [zup_self, e111]
  have hrow : zRow (zup I3 111 (24 + r) v 111) nt nb nr := by
    rw [row]
    obtain ⟨⟨n1, n2, n3, n4⟩, n5⟩ := hR
    refine ⟨⟨fun k hk => ?_, fun k hk => ?_, ?_, ?_⟩, fun k hk => ?_⟩
    · unfold va_up; rw [if_neg (by omega)]; exact n1 k hk
    · unfold va_up
      by_cases e : 24 + k = 24 + r
      · rw [if_pos e]; exact hv
      · rw [if_neg e]; exact n2 k hk
    · unfold va_up; rw [if_neg (by omega)]; exact n3
    · unfold va_up; rw [if_neg (by omega)]; exact n4
    · unfold va_up; rw [if_neg (by omega)]; exact n5 k hk
  refine ⟨_, _, _, hx, hm, zIs_ex (zIv_act h (fun a k ha => ?_) ?_ hrow (zBx_ac h.2.2.2.2.2.2.1 (fun a ha => r4 a (by omega) (by omega) (by omega) (by omega) (by omega))) (zAc_new hnt hnr hnb hA ⟨?_, ?_, ?_, ?_, ?_⟩ (fun k hk => ?_) (fun k _ => ?_) ?_ (fun k hk => ?_) (fun j hj k hk => ?_) hrow ?_))⟩
  · have hz := zSa_n ha
    by_cases q91 : a = 91
    · subst q91
      have : k ≠ 56 ∧ k ≠ 57 := by omega
      rw [zup_ne _ _ _ (by decide), b2 91 k (by simp [this]), e91]
    · rw [r4 a q91 (by omega) (by omega) (by omega) (by omega)]
  · rw [row]
    refine ⟨fun k hk => ?_, fun k hk => ?_, ?_, ?_, fun k hk => ?_⟩
    · rw [r4 31 (by decide) (by decide) (by decide) (by decide) (by decide), hN.1 k hk]; unfold va_up; rw [if_neg (by omega)]
    · rw [zup_ne _ _ _ (by decide), zfr_row b2 32 (fun _ => rfl), zup_at]
      unfold va_up
      by_cases e : k = r
      · rw [if_pos e, if_pos (by omega)]
      · rw [if_neg e, if_neg (by omega), a2 32 (by omega)]; exact hN.2.1 k hk
    · rw [r4 30 (by decide) (by decide) (by decide) (by decide) (by decide), hN.2.2.1]; unfold va_up; rw [if_neg (by omega)]
    · rw [r4 30 (by decide) (by decide) (by decide) (by decide) (by decide), hN.2.2.2.1]; unfold va_up; rw [if_neg (by omega)]
    · rw [r4 33 (by decide) (by decide) (by decide) (by decide) (by decide), hN.2.2.2.2 k hk]; unfold va_up; rw [if_neg (by omega)]
  · rw [q4x 41 (by decide) (by decide)]; exact a3.1
  · rw [q4x 41 (by decide) (by decide)]; exact a3.2.1
  · rw [q4x 41 (by decide) (by decide)]; exact a3.2.2
  · rw [zup_ne _ _ _ (by decide)]; exact b3.1
  · rw [zup_ne _ _ _ (by decide)]; exact b3.2
  · rw [q4x 42 (by decide) (by decide), q4x 43 (by decide) (by decide), q4x 44 (by decide) (by decide), q4x 45 (by decide) (by decide), a4, a5, a6, a7]
    unfold va_up
    simp only [if_neg hk]
    exact ⟨trivial, trivial, trivial, trivial⟩
  · rw [r4 46 (by decide) (by decide) (by decide) (by decide) (by decide)]
  · rw [r4 107 (by decide) (by decide) (by decide) (by decide) (by decide)]
  · rw [zup_ne _ _ _ (by decide), b4 k hk, zup_ne _ _ _ (by decide), a2 111 (by omega)]
  · rw [zup_ne _ _ _ (by decide), b5 j hj k hk, zup_ne _ _ _ (by decide), a2 116 (by omega)]
  · right; left
    refine ⟨?_, r, hr, ?_, ?_, fun k _ => ?_⟩
    · rw [q4x 42 (by decide) (by decide), a4]; unfold va_up; rw [if_pos rfl]
    · rw [q4x 43 (by decide) (by decide), a5]; unfold va_up; rw [if_pos rfl]
    · rw [q4x 44 (by decide) (by decide), a6]; unfold va_up; rw [if_pos rfl]
    · rw [q4x 45 (by decide) (by decide), a7, row]
      unfold va_up
      rw [if_pos (show zslt d o = zslt d o from rfl)]
theorem s_mood (h : zIv2 I t u nt nb nr q sh md om im LW BW) (p c : Int32) : zOKs (zs I J (zPt t u i f s x)) (fun σ => f_W_mood σ 0 p c) (fun σ => f_M_mood σ 91 p c) := by
  obtain ⟨ht, hT, hN, hNb, -⟩ := h.2.1
  obtain ⟨hM, hX, -⟩ := hT
  have hnr := hM.2.2.1.2
  have hnt := hM.1.2
  have zt : ¬ zB true = 0 := by decide
  have zf : zB false = 0 := rfl
  have x1 := g_W_isReader (J := J) (t := t) (u := u) (i := i) (f := f) (s := s) (x := x) ht hX.2.2.1.1 p
  have m1 := fun I' J' (h : I' 91 43 = nI nr) => g_M_isReader (I := I') (J := J') (t := t) (u := u) (i := i) (f := f) (s := s) (x := x) h hnr p
  have x2 := g_W_isTopic (J := J) (t := t) (u := u) (i := i) (f := f) (s := s) (x := x) ht hX.1.1 c
  have m2 := fun I' J' (h : I' 91 41 = nI nt) => g_M_isTopic (I := I') (J := J') (t := t) (u := u) (i := i) (f := f) (s := s) (x := x) h hnt c
  -- the reference asks anew, of what the class left
  have go : ∀ {r : Nat}, p = nI r → r < nr → (c = -1 ∨ ∃ k, k < nt ∧ c = nI k) → zOKs (zs I J (zPt t u i f s x)) (fun σ => f_W_mood σ 0 p c) (fun σ => f_M_mood σ 91 p c) := by
    intro r hp hr hc
    subst hp
    have h1 : zlt (nI r) nr = true := zlt_t hr (by omega)
    obtain ⟨v, σ1, σ2, e1, e2, e3⟩ := s_mood1 (J := J) (i := i) (f := f) (s := s) (x := x) h hr hc
    have hW : f_W_mood (zs I J (zPt t u i f s x)) 0 (nI r) c = f_W_mood_24 (zs I J (zPt t u i f s x)) 0 (nI r) c := by
      rw [f_W_mood, zg_11, x1, h1, zbs, if_neg zt]
      rcases hc with hc | ⟨k, hk, hc⟩
      · rw [if_pos hc]
      · have hn : ¬ c = -1 := by rw [hc]; exact znI_ne_m1 (by omega)
        have h2 : zlt c nt = true := by rw [hc]; exact zlt_t hk (by omega)
        rw [if_neg hn, x2, h2, zbs, if_neg zt]
    have hσ : ∃ I1, σ1 = (zs I1 J (zPt t u i f s x)) ∧ I1 91 43 = nI nr ∧ I1 91 41 = nI nt := by
      have e1' : f_W_mood_24 (zs I J (zPt t u i f s x)) 0 (nI r) c = some (v, σ1) := e1
      obtain ⟨d, w, o, Q, ⟨g1, g1'⟩, ⟨c0, c1, c2, c56, c57⟩, -⟩ := h.2.2.2.2.2.2.2.1
      obtain ⟨I1, a1, a2, -⟩ := x_add (J := J) (t := t) (u := u) (i := i) (f := f) (s := s) (x := x) (p0 := 1) (p1 := nI r) (p2 := I (30 + 2) r) (p3 := c) (show d ≤ 40 by omega) g1' c0 c2
      have hr6 : r < 6 := by omega
      rw [f_W_mood_24, gp_11_5, zbs, gp_4_1 (Or.inl rfl), zbs, ai_4_1 (Or.inl rfl) hr6, zbs, gp_11_8, zbs, a1, zbs, gp_11_5, zbs, gp_4_1 (Or.inl rfl), zbs, wi_4_1 (Or.inl rfl) hr6, zbs] at e1'
      have e4 := (Prod.mk.inj (Option.some.inj e1')).2
      refine ⟨_, e4.symm, ?_, ?_⟩
      · rw [zup_ne _ _ _ (by decide), a2 91 (by omega)]; exact hM.2.2.1.1
      · rw [zup_ne _ _ _ (by decide), a2 91 (by omega)]; exact hM.1.1
    obtain ⟨I1, rfl, k43, k41⟩ := hσ
    refine ⟨v, _, σ2, hW.trans e1, ?_, e3⟩
    have e2 : f_M_mood_24 (zs I1 J (zPt t u i f s x)) 91 (nI r) c = some (v, σ2) := e2
    show f_M_mood _ _ _ _ = _
    rw [f_M_mood, zg_12, m1 I1 J k43, h1, zbs, if_neg zt]
    rcases hc with hc | ⟨k, hk, hc⟩
    · rw [if_pos hc, e2]
    · have hn : ¬ c = -1 := by rw [hc]; exact znI_ne_m1 (by omega)
      have h2 : zlt c nt = true := by rw [hc]; exact zlt_t hk (by omega)
      rw [if_neg hn, m2 I1 J k41, h2, zbs, if_neg zt, e2]
  rcases zlt_cases p (n := nr) (by omega) with ⟨h1, r, hr, hp⟩ | h1
  · by_cases hc : c = -1
    · exact go hp hr (Or.inl hc)
    · rcases zlt_cases c (n := nt) (by omega) with ⟨h2, k, hk, hck⟩ | h2
      · exact go hp hr (Or.inr ⟨k, hk, hck⟩)
      · refine ⟨-2, (zs I J (zPt t u i f s x)), (zs I J (zPt t u i f s x)), ?_, ?_, zIs_mk h⟩
        · show f_W_mood _ _ _ _ = _
          rw [f_W_mood, zg_11, x1, h1, zbs, if_neg zt, if_neg hc, x2, h2, zbs, if_pos zf]
        · show f_M_mood _ _ _ _ = _
          rw [f_M_mood, zg_12, m1 I J hM.2.2.1.1, h1, zbs, if_neg zt, if_neg hc, m2 I J hM.1.1, h2, zbs, if_pos zf]
  · refine ⟨-2, (zs I J (zPt t u i f s x)), (zs I J (zPt t u i f s x)), ?_, ?_, zIs_mk h⟩
    · show f_W_mood _ _ _ _ = _
      rw [f_W_mood, zg_11, x1, h1, zbs, if_pos zf]
    · show f_M_mood _ _ _ _ = _
      rw [f_M_mood, zg_12, m1 I J hM.2.2.1.1, h1, zbs, if_pos zf]
theorem zread_row {row wt : Nat → Int32} {r b c : Nat} (hnt : nt ≤ 4) (hr : r < 6) (hb : b < 10) (h : zRow row nt nb nr) (hc : row (32 + 10 * r + b) = nI c) (hc9 : c < 99) : zRow (zread row wt nt BW r b) nt nb nr := by
  refine ⟨zread_nb hnt hr hb h.1, fun k hk => ?_⟩
  unfold zread
  by_cases e : 32 + k = 32 + 10 * r + b
  · rw [if_pos e, e, hc, znI_add1]
    exact ⟨c + 1, by omega, rfl⟩
  · rw [if_neg e, if_neg (by omega)]
    exact h.2 k hk
theorem s_read (h : zIv2 I t u nt nb nr q sh md om im LW BW) (p c : Int32) : zOKs (zs I J (zPt t u i f s x)) (fun σ => f_W_read σ 0 p c) (fun σ => f_M_read σ 91 p c) := by
  obtain ⟨d, w, o, Q, hA⟩ := h.2.2.2.2.2.2.2.1
  obtain ⟨ht, hT, hN, hNb, -⟩ := h.2.1
  obtain ⟨hM, hX, hq, hsh, hmd, hun, hw, hou, hod, hbd⟩ := hT
  have hnr := hM.2.2.1.2
  have hnb := hM.2.1.2
  have hnt := hM.1.2
  have hR := h.2.2.1
  have zt : ¬ zB true = 0 := by decide
  have zf : zB false = 0 := rfl
  have x1 := g_W_isReader (J := J) (t := t) (u := u) (i := i) (f := f) (s := s) (x := x) ht hX.2.2.1.1 p
  have m1 := fun I' (h : I' 91 43 = nI nr) => g_M_isReader (I := I') (J := J) (t := t) (u := u) (i := i) (f := f) (s := s) (x := x) h hnr p
  have x2 := g_W_isBook (J := J) (t := t) (u := u) (i := i) (f := f) (s := s) (x := x) ht hX.2.1.1 c
  have m2 := fun I' (h : I' 91 42 = nI nb) => g_M_isBook (I := I') (J := J) (t := t) (u := u) (i := i) (f := f) (s := s) (x := x) h hnb c
  have no : f_W_read (zs I J (zPt t u i f s x)) 0 p c = some (-1, (zs I J (zPt t u i f s x))) → f_M_read (zs I J (zPt t u i f s x)) 91 p c = some (-1, (zs I J (zPt t u i f s x))) → zOKs (zs I J (zPt t u i f s x)) (fun σ => f_W_read σ 0 p c) (fun σ => f_M_read σ 91 p c) := fun e1 e2 => ⟨-1, _, _, e1, e2, zIs_mk h⟩
  rcases zlt_cases p (n := nr) (by omega) with ⟨h1, r, hr, rfl⟩ | h1
  rotate_left
  · rw [h1] at x1 m1
    refine no ?_ ?_
    · rw [f_W_read, zg_11, x1, zbs, if_pos zf]
    · rw [f_M_read, zg_12, m1 I hM.2.2.1.1, zbs, if_pos zf]
  rcases zlt_cases c (n := nb) (by omega) with ⟨h2, b, hb, rfl⟩ | h2
  rotate_left
  · rw [h1] at x1 m1
    rw [h2] at x2 m2
    refine no ?_ ?_
    · rw [f_W_read, zg_11, x1, zbs, if_neg zt, x2, zbs, if_pos zf]
    · rw [f_M_read, zg_12, m1 I hM.2.2.1.1, zbs, if_neg zt, m2 I hM.2.1.1, zbs, if_pos zf]
  rw [h1] at x1 m1
  rw [h2] at x2 m2
  have hr6 : r < 6 := by omega
  have hb10 : b < 10 := by omega
  obtain ⟨cn, hcn, hce⟩ := hR.2 (10 * r + b) (by omega)
  rw [← Nat.add_assoc] at hce
  have e33 : I (30 + 3) (10 * r + b) = nI cn := (hN.2.2.2.2 (10 * r + b) (by omega)).trans (by rw [← Nat.add_assoc]; exact hce)
  have mr : ∀ I', I' 111 = I 111 → f_M_readsOf (zs I' J (zPt t u i f s x)) 91 (nI r) (nI b) = some (nI cn) := fun I' h' => by rw [g_M_rdsOf hr6 hb10, h', hce]
  have hlt : (nI cn < 99) = (cn < 99) := zlt_nI (b := 99) (by omega) (by decide)
  have heq : (nI cn = 99) = (cn = 99) := zeq_nI (b := 99) (by omega) (by decide)
  have ix : nI r * 10 + nI b = nI (10 * r + b) := by rw [mr10, nI_add]
  by_cases h99 : cn < 99
  rotate_left
  · refine no ?_ ?_
    · rw [f_W_read, zg_11, x1, zbs, if_neg zt, x2, zbs, if_neg zt, gp_11_5, zbs, gp_4_2 (Or.inl rfl), zbs, ix, ai_4_2 (Or.inl rfl) (by omega), zbs, e33, if_neg (by rw [hlt]; exact h99)]
    · rw [f_M_read, zg_12, m1 I hM.2.2.1.1, zbs, if_neg zt, m2 I hM.2.1.1, zbs, if_neg zt, mr I rfl, zbs, if_pos (by rw [heq]; omega)]
  obtain ⟨⟨g1, g1'⟩, ⟨c0, c1, c2, c56, c57⟩, -⟩ := id hA
  obtain ⟨I1, a1, a2, a3, a4, a5, a6, a7⟩ := x_add (J := J) (t := t) (u := u) (i := i) (f := f) (s := s) (x := x) (p0 := 3) (p1 := nI r) (p2 := 0) (p3 := nI b) (show d ≤ 40 by omega) g1' c0 c2
  have hd1 : 1 ≤ zd1 d ∧ zd1 d ≤ 40 := by unfold zd1; split <;> omega
  have ho1 : zo1 d o < 40 := by
    unfold zo1
    split
    · exact Nat.mod_lt _ (by decide)
    · exact g1'
  have hsl : zslt d o < 40 := Nat.mod_lt _ (by decide)
  generalize hI2 : zro I1 46 (va_cpy (I1 31) (I1 46) (4 * r) (4 * zslt d o) 4) = I2
  have hk : f_A_keepWants (zs I1 J (zPt t u i f s x)) 41 30 (nI r) = some (zs I2 J (zPt t u i f s x)) := by
    have e41 : nI (zd1 d) - 1 = nI (zd1 d - 1) := by
      have := znI_sub1 (zd1 d - 1)
      rw [show zd1 d - 1 + 1 = zd1 d by omega] at this
      exact this
    have hsl2 := g_A_slotOf (I := I1) (J := J) (t := t) (u := u) (i := i) (f := f) (s := s) (x := x) (k := zd1 d - 1) a3.2.2 (by omega)
    have hc : zcpy (zs I1 J (zPt t u i f s x)) 31 (nI (4 * r)) 46 (nI (4 * zslt d o)) 4 = some (zs I2 J (zPt t u i f s x)) := by
      rw [← hI2]
      exact zcp (n := 4) zl_31 zl_46 (by omega) (by omega) (by decide) (by decide)
    rw [f_A_keepWants, zg_0, gp_4_0 (Or.inl rfl), zbs, gp_0_7, zbs, gi_0, zbs, a3.1, e41, hsl2, zbs, mr4, mr4]
    show ((zcpy (zs I1 J (zPt t u i f s x)) 31 (nI (4 * r)) 46 (nI (4 * zslt d o)) 4).bind fun σ5 => some σ5) = _
    rw [hc, zbs]
  have r2 : ∀ a, (a < 41 ∨ 46 < a) → I2 a = I a := fun a ha => by rw [← hI2, zro_ne _ _ (by omega), a2 a (by omega)]
  have hbd2 : zBd I2 t BW := by
    unfold zBd at hbd ⊢
    rw [r2 (t + 8) (by omega), r2 (t + 9) (by omega), r2 91 (by omega), r2 99 (by omega), r2 97 (by omega), r2 98 (by omega)]
    exact hbd
  have hNow2 : zNow I2 30 (I 111) := by
    unfold zNow
    rw [r2 (30 + 1) (by omega), r2 (30 + 2) (by omega), r2 30 (by omega), r2 (30 + 3) (by omega)]
    exact hN
  obtain ⟨I3, b1, b2, b3⟩ := x_bend (I := I2) (J := J) (t := t) (u := u) (i := i) (f := f) (s := s) (x := x) (N := 30) ht (Or.inl rfl) (by rw [r2 t (by omega)]; exact hX.1.1) hnt hbd2 (I 107) (I 111) hr6 hb10 (fun k hk => by rw [r2 (t + 1) (by omega)]; exact hw b k hb hk) hNow2
  have r3 : ∀ a, a ≠ 31 → a ≠ 33 → a ≠ 34 → a ≠ t + 10 → I3 a = I2 a := fun a q1 q2 q3 q4 => zfr_row b2 a (fun k => by simp [q1, q2, q3, q4])
  have zr : zread (I 111) (I 107) nt BW r b (32 + 10 * r + b) = nI (cn + 1) := by
    unfold zread
    rw [if_pos rfl, hce, znI_add1]
  have hx : f_W_read (zs I J (zPt t u i f s x)) 0 (nI r) (nI b) = some (nI (cn + 1), (zs I3 J (zPt t u i f s x))) := by
    have e3 : I3 (30 + 3) (10 * r + b) = nI (cn + 1) := (b3.2.2.2.2 (10 * r + b) (by omega)).trans (by rw [← Nat.add_assoc]; exact zr)
    rw [f_W_read, zg_11, x1, zbs, if_neg zt, x2, zbs, if_neg zt, gp_11_5, zbs, gp_4_2 (Or.inl rfl), zbs, ix, ai_4_2 (Or.inl rfl) (by omega), zbs, e33, if_pos (by rw [hlt]; exact h99), gp_11_8, zbs, a1, zbs, gp_11_8, zbs, gp_11_5, zbs, hk, zbs, gp_11_5, zbs, gp_11_2, zbs, b1, zbs, gp_11_5, zbs, gp_4_2 (Or.inl rfl), zbs, ai_4_2 (Or.inl rfl) (by omega), zbs, e3]
  have e91 : I3 91 = I 91 := (r3 91 (by omega) (by omega) (by omega) (by omega)).trans (r2 91 (by omega))
  have e111 : I3 111 = I 111 := (r3 111 (by omega) (by omega) (by omega) (by omega)).trans (r2 111 (by omega))
  obtain ⟨I4, d1, d2, d3, d4, d5⟩ := m_act (I := I3) (J := J) (t := t) (u := u) (i := i) (f := f) (s := s) (x := x) (show d ≤ 40 by omega) (by rw [e91]; exact c56)
  have r4 : ∀ a, a ≠ 91 → a ≠ 116 → I4 a = I3 a := fun a q1 q2 => zfr_row d2 a (fun k => by simp [q1, q2])
  have c4 : ∀ k, k ≠ 56 → k ≠ 57 → I4 91 k = I 91 k := fun k q1 q2 => (d2 91 k (by simp [q1, q2])).trans (by rw [e91])
  have e111' : I4 111 = I 111 := (r4 111 (by decide) (by decide)).trans e111
  have e107 : I4 107 = I 107 := (r4 107 (by decide) (by decide)).trans ((r3 107 (by omega) (by omega) (by omega) (by omega)).trans (r2 107 (by omega)))
  have hBm4 : zBm I4 BW := by
    have := zBd_m hbd
    unfold zBm at this ⊢
    rw [c4 48 (by decide) (by decide), r4 99 (by decide) (by decide), r4 97 (by decide) (by decide), r4 98 (by decide) (by decide), r3 99 (by omega) (by omega) (by omega) (by omega), r3 97 (by omega) (by omega) (by omega) (by omega), r3 98 (by omega) (by omega) (by omega) (by omega), r2 99 (by omega), r2 97 (by omega), r2 98 (by omega)]
    exact this
  obtain ⟨I5, f1, f2, f3⟩ := m_reads (I := I4) (J := J) (t := t) (u := u) (i := i) (f := f) (s := s) (x := x) (by rw [c4 41 (by decide) (by decide)]; exact hM.1.1) hnt hBm4 hr6 hb10 (by rw [e111']; exact hNb.1)
  rw [e111', e107] at f3
  have r5 : ∀ a, a ≠ 101 → a ≠ 102 → a ≠ 111 → I5 a = I4 a := fun a q1 q2 q3 => zfr_sl f2 a (by simp [q1, q2, q3])
  have hm : f_M_read (zs I3 J (zPt t u i f s x)) 91 (nI r) (nI b) = some (nI (cn + 1), (zs I5 J (zPt t u i f s x))) := by
    rw [f_M_read, zg_12, m1 I3 (by rw [e91]; exact hM.2.2.1.1), zbs, if_neg zt, m2 I3 (by rw [e91]; exact hM.2.1.1), zbs, if_neg zt, mr I3 e111, zbs, if_neg (by rw [heq]; omega), d1, zbs, f1, zbs, g_M_rdsOf hr6 hb10, zbs, f3, zr]
  have hrow : zRow (I5 111) nt nb nr := by
    rw [f3]
    exact zread_row hnt hr6 hb10 hR hce h99
  have q4x : ∀ a, 41 ≤ a → a ≤ 45 → I5 a = I1 a := fun a q1 q2 => by rw [r5 a (by omega) (by omega) (by omega), r4 a (by omega) (by omega), r3 a (by omega) (by omega) (by omega) (by omega), ← hI2, zro_ne _ _ (by omega)]
  have q46 : I5 46 = va_cpy (I 31) (I 46) (4 * r) (4 * zslt d o) 4 := by
    rw [r5 46 (by decide) (by decide) (by decide), r4 46 (by decide) (by decide), r3 46 (by omega) (by omega) (by omega) (by omega), ← hI2, zro_self, a2 31 (by omega), a2 46 (by omega)]
  have rr : ∀ a, a ≠ 91 → a ≠ 116 → a ≠ 31 → a ≠ 33 → a ≠ 34 → a ≠ t + 10 → a ≠ 101 → a ≠ 102 → a ≠ 111 → (a < 41 ∨ 46 < a) → I5 a = I a := fun a q1 q2 q3 q4 q5 q6 q7 q8 q9 q10 => by rw [r5 a q7 q8 q9, r4 a q1 q2, r3 a q3 q4 q5 q6, r2 a q10]
  refine ⟨_, _, _, hx, hm, zIs_ex (zIv_act h (fun a k ha => ?_) ?_ hrow (zBx_ac h.2.2.2.2.2.2.1 (fun a ha => rr a (by omega) (by omega) (by omega) (by omega) (by omega) (by omega) (by omega) (by omega) (by omega) (by omega))) (zAc_new hnt hnr hnb hA ⟨?_, ?_, ?_, ?_, ?_⟩ (fun k hk => ?_) (fun k hk => ?_) ?_ (fun k hk => ?_) (fun j hj k hk => ?_) hrow ?_))⟩
  · have hz := zSa_n ha
    by_cases q91 : a = 91
    · subst q91
      rw [r5 91 (by decide) (by decide) (by decide), c4 k (by omega) (by omega)]
    · rw [rr a q91 (by omega) (by omega) (by omega) (by omega) (by omega) (by omega) (by omega) (by omega) (by omega)]
  · rw [f3]
    have q : ∀ a, a = 30 ∨ a = 30 + 1 ∨ a = 30 + 2 ∨ a = 30 + 3 → I5 a = I3 a := fun a ha => by rw [r5 a (by omega) (by omega) (by omega), r4 a (by omega) (by omega)]
    unfold zNow
    rw [q 30 (by simp), q (30 + 1) (by simp), q (30 + 2) (by simp), q (30 + 3) (by simp)]
    exact b3
  · rw [q4x 41 (by decide) (by decide)]; exact a3.1
  · rw [q4x 41 (by decide) (by decide)]; exact a3.2.1
  · rw [q4x 41 (by decide) (by decide)]; exact a3.2.2
  · rw [r5 91 (by decide) (by decide) (by decide)]; exact d3.1
  · rw [r5 91 (by decide) (by decide) (by decide)]; exact d3.2
  · rw [q4x 42 (by decide) (by decide), q4x 43 (by decide) (by decide), q4x 44 (by decide) (by decide), q4x 45 (by decide) (by decide), a4, a5, a6, a7]
    unfold va_up
    simp only [if_neg hk]
    exact ⟨trivial, trivial, trivial, trivial⟩
  · rw [q46]
    unfold va_cpy
    rw [if_neg (by omega)]
  · rw [r5 107 (by decide) (by decide) (by decide)]; exact e107
  · rw [r5 116 (by decide) (by decide) (by decide), d4 k hk, e111]
  · rw [r5 116 (by decide) (by decide) (by decide), d5 j hj k hk, r3 116 (by omega) (by omega) (by omega) (by omega), r2 116 (by omega)]
  · right; right; right
    refine ⟨?_, r, b, hr, hb, ?_, ?_, fun k hk => ?_, fun k _ => ?_⟩
    · rw [q4x 42 (by decide) (by decide), a4]; unfold va_up; rw [if_pos rfl]
    · rw [q4x 43 (by decide) (by decide), a5]; unfold va_up; rw [if_pos rfl]
    · rw [q4x 45 (by decide) (by decide), a7]; unfold va_up; rw [if_pos rfl]
    · rw [q46]
      unfold va_cpy
      rw [if_pos (by omega), show 4 * r + (4 * zslt d o + k - 4 * zslt d o) = 4 * r + k by omega]
      exact hN.1 (4 * r + k) (by omega)
    · rw [f3, r5 107 (by decide) (by decide) (by decide), e107]
end ZAc
