/-! errand: the reference -/
def zcm (P : Nat → Nat → Nat) (n S : Nat) : Nat := if S = 0 then 0 else zrn (fun set a => min a (2 * zfar (P set) S 10)) (n - 1) 1 1000000
theorem zcm_next {P : Nat → Nat → Nat} {k S : Nat} (hk : 1 ≤ k) : zcm P (k + 1) S = if S = 0 then zcm P k 0 else min (zcm P k S) (2 * zfar (P k) S 10) := by
  unfold zcm
  by_cases h : S = 0
  · rw [if_pos h, if_pos h, if_pos rfl]
  · rw [if_neg h, if_neg h, if_neg h, zrn_next _ k hk]
theorem zcm_le (P : Nat → Nat → Nat) (n S : Nat) : zcm P n S ≤ 1000000 := by
  unfold zcm
  split
  · omega
  · exact zrn_inv (fun set a => min a (2 * zfar (P set) S 10)) (n - 1 + 1) (fun _ a => a ≤ 1000000) (fun k a _ h => Nat.le_trans (Nat.min_le_left _ _) h) (n - 1) 1 1000000 (by omega) (Nat.le_refl _)
theorem zcm_two {P : Nat → Nat → Nat} {n S : Nat} (hP : ∀ set, zfar (P set) S 10 < 100) (hn : 2 ≤ n) : zcm P n S = 2 * zcst P n S := by
  obtain ⟨m, rfl⟩ : ∃ m, n = m + 2 := ⟨n - 2, by omega⟩
  induction m with
  | zero =>
    rw [zcm_next (by decide), zcst_next (by decide)]
    have := hP 1
    unfold zcm zcst
    by_cases h : S = 0
    · simp [h]
    · simp only [if_neg h, Nat.add_sub_cancel]
      show min 1000000 _ = 2 * min 1000000 _
      omega
  | succ m ih =>
    have ih := ih (by omega)
    rw [show m + 1 + 2 = (m + 2) + 1 by omega, zcm_next (by omega), zcst_next (by omega)]
    by_cases h : S = 0
    · subst h
      rw [if_pos rfl, if_pos rfl, ih]
    · rw [if_neg h, if_neg h, ih]
      omega
def zEm : Nat → Nat → Bool := fun a k => zLs a k || a == 118
theorem zEm_sg : ∀ a k, zEm a k = true → zSg a k = true := fun a k h => by
  unfold zEm at h
  simp at h
  rcases h with h | rfl
  · exact zSg_ls a k h
  · rfl
section ZE4
variable {I : Nat → Nat → Int32} {J : Nat → Nat → Int64} {t u i f s x : Nat} {nt nb nr q sh md om im : Nat} {LW BW : List Int32}
theorem g_M_far {I4 : Nat → Nat → Int32} {set S : Nat} (h42 : I4 91 42 = nI nb) (hnb : nb ≤ 10) (h45 : I4 91 45 = nI sh) (hsh : 1 ≤ sh ∧ sh ≤ 9) (hL : zLm I4 (zL I nt nb nr q om LW set)) (hS : S < 1024) (hSb : ∀ b, S.testBit b = true → b < nb ∧ om.testBit b = false) : f_M_farthest (zs I4 J (zPt t u i f s x)) 91 (nI S) = some (nI (zfar (zPs I nt nb nr q om sh LW set) S 10)) := by
  have hp : ∀ b, S.testBit b = true → zPs I nt nb nr q om sh LW set b < 100 := fun b hb => zPs_lt hnb (hSb b hb).1 (hSb b hb).2 set
  have := zforF (fun fuel (a : Nat) k => f_M_farthest_4L fuel (zs I4 J (zPt t u i f s x)) 91 (nI S) (nI a) (nI k)) nb (fun b a => if S.testBit b = true then max a (zPs I nt nb nr q om sh LW set b) else a) (fun _ a => a < 100) (fun a => some (nI a))
    (fun m k a hk ha => by
      have hle : ¬ nI nb ≤ nI k := by rw [zle_nI (by omega) (by omega)]; omega
      have hb1 := zbt1 (a := S) (b := k) (by omega) (by omega)
      show f_M_farthest_4L (m + 1) _ _ _ _ _ = _
      by_cases hb : S.testBit k = true
      · obtain ⟨j, hj⟩ := zL_has (I := I) (nt := nt) (nr := nr) (q := q) (LW := LW) hnb hk (hSb k hb).2 set
        have h1 := zpos_lt hnb hj
        have e115 := (hL.2.1 j k hj).2
        have hst : f_M_stepsTo (zs I4 J (zPt t u i f s x)) 91 (nI j) = some (nI (zPs I nt nb nr q om sh LW set k)) := by
          unfold zPs
          rw [h1.1]
          exact g_M_stepsTo h45 hsh.1 hsh.2 (by omega)
        have hpk := hp k hb
        rw [f_M_farthest_4L, f_M_farthest_4, gi_12, zbs, h42, if_neg hle, if_pos (by rw [hb1]; exact hb), gp_12_53, zbs, ai_115 (by omega), zbs, e115, hst, zbs, if_pos hb]
        by_cases hc : zPs I nt nb nr q om sh LW set k ≤ a
        · rw [if_pos (by rw [zle_nI (by omega) (by omega)]; exact hc), Nat.max_eq_left hc, znI_add1]
        · rw [if_neg (by rw [zle_nI (by omega) (by omega)]; exact hc), zbs, ai_115 (by omega), zbs, e115, hst, zbs, Nat.max_eq_right (by omega), znI_add1]
      · rw [f_M_farthest_4L, f_M_farthest_4, gi_12, zbs, h42, if_neg hle, if_neg (by rw [hb1]; exact hb), if_neg hb, znI_add1])
    (fun k a hk ha => by
      by_cases hb : S.testBit k = true
      · have := hp k hb
        show (if S.testBit k = true then _ else _) < 100
        rw [if_pos hb]
        omega
      · show (if S.testBit k = true then _ else _) < 100
        rw [if_neg hb]
        exact ha)
    (fun m a _ => by
      show f_M_farthest_4L (m + 1) _ _ _ _ _ = _
      rw [f_M_farthest_4L, f_M_farthest_4, gi_12, zbs, h42, if_pos (Int32.le_refl _)]) nb 0 0 zfu (by omega) (by decide) (zfu_lt (by omega))
  have : f_M_farthest_4L zfu (zs I4 J (zPt t u i f s x)) 91 (nI S) 0 0 = some (nI (zfar (zPs I nt nb nr q om sh LW set) S nb)) := this
  rw [f_M_farthest, zg_12, this, zfar_nb (fun b hb => (hSb b hb).1) hnb]
theorem m_lv54 {K : zSt → Nat → Int32 → Int32 → Option zSt} {I4 : Nat → Nat → Int32} {set A : Nat} {d : Nat → Nat} (h42 : I4 91 42 = nI nb) (hnb : nb ≤ 10) (h45 : I4 91 45 = nI sh) (hsh : 1 ≤ sh ∧ sh ≤ 9) (hL : zLm I4 (zL I nt nb nr q om LW set)) (hA : A < 1024) (hAb : ∀ b, A.testBit b = true → b < nb ∧ om.testBit b = false) (hd : ∀ S, S &&& A = S → I4 118 S = nI (d S) ∧ d S ≤ 1000000) :
    ∃ I', f_M_layVisits_54L K zfu (zs I4 J (zPt t u i f s x)) 91 (nI A) (nI set) 1 = K (zs I' J (zPt t u i f s x)) 91 (nI A) (nI (set + 1)) ∧ (∀ a, a ≠ 118 → I' a = I4 a) ∧ ∀ S, S &&& A = S → I' 118 S = nI (if S = 0 then d 0 else min (d S) (2 * zfar (zPs I nt nb nr q om sh LW set) S 10)) := by
  have hbA : ∀ {S j : Nat}, S &&& A = S → S.testBit j = true → A.testBit j = true := fun {S j} h ht => by
    have : (S &&& A).testBit j = true := by rw [h]; exact ht
    rw [Nat.testBit_and] at this
    simp at this
    exact this.2
  have hlt : ∀ S, S &&& A = S → zfar (zPs I nt nb nr q om sh LW set) S 10 < 100 := fun S hS => zfar_lt (fun b _ ht => zPs_lt hnb (hAb b (hbA hS ht)).1 (hAb b (hbA hS ht)).2 set)
  obtain ⟨I5, ⟨a1, a2⟩, a4⟩ := zfor (fun fuel I' k => f_M_layVisits_54L K fuel (zs I' J (zPt t u i f s x)) 91 (nI A) (nI set) (nI (k + 1))) A (fun k I' => (∀ a, a ≠ 118 → I' a = I4 a) ∧ ∀ S, S &&& A = S → I' 118 S = nI (if S = 0 ∨ k < S then d S else min (d S) (2 * zfar (zPs I nt nb nr q om sh LW set) S 10))) (fun I' => K (zs I' J (zPt t u i f s x)) 91 (nI A) (nI (set + 1)))
    (fun m k I' hk hi => by
      have hn : ¬ nI A < nI (k + 1) := by rw [zlt_nI (by omega) (by omega)]; omega
      have hz := zinb (S := k + 1) (A := A) (by omega) hA
      by_cases hs : (k + 1) &&& A = k + 1
      · have hL' : zLm I' (zL I nt nb nr q om LW set) := by
          unfold zLm
          rw [hi.1 91 (by decide), hi.1 114 (by decide), hi.1 115 (by decide)]
          exact hL
        have hfar := g_M_far (I := I) (I4 := I') (J := J) (t := t) (u := u) (i := i) (f := f) (s := s) (x := x) (S := k + 1) (by rw [hi.1 91 (by decide)]; exact h42) hnb (by rw [hi.1 91 (by decide)]; exact h45) hsh hL' (by omega) (fun b hb => hAb b (hbA hs hb))
        have hw := hlt (k + 1) hs
        generalize hW : zfar (zPs I nt nb nr q om sh LW set) (k + 1) 10 = w at *
        have hdb := (hd (k + 1) hs).2
        have e118 : I' 118 (k + 1) = nI (d (k + 1)) := by rw [hi.2 _ hs, if_pos (Or.inr (by omega))]
        refine ⟨zup I' 118 (k + 1) (nI (min (d (k + 1)) (2 * w))), ⟨fun a ha => ?_, fun S q1 => ?_⟩, ?_⟩
        · rw [zup_ne _ _ _ ha]; exact hi.1 a ha
        · rw [zup_at]
          by_cases e : S = k + 1
          · rw [if_pos e, if_neg (by omega), e, hW]
          · rw [if_neg e, hi.2 S q1]
            by_cases h2 : S = 0 ∨ k < S
            · rw [if_pos h2, if_pos (by omega)]
            · rw [if_neg h2, if_neg (by omega)]
        · show f_M_layVisits_54L K (m + 1) _ _ _ _ _ = _
          rw [f_M_layVisits_54L, f_M_layVisits_54, if_neg hn, if_pos (by rw [hz]; exact hs), hfar, zbs, gp_12_60, zbs, zbs, ai_118 (by omega), zbs, e118, ml2]
          by_cases hc : d (k + 1) ≤ 2 * w
          · rw [if_pos (by rw [zle_nI (by omega) (by omega)]; exact hc), zbs, ai_118 (by omega), zbs, e118, wi_118 (by omega), zbs, Nat.min_eq_left hc, znI_add1]
          · rw [if_neg (by rw [zle_nI (by omega) (by omega)]; exact hc), wi_118 (by omega), zbs, Nat.min_eq_right (by omega), znI_add1]
      · refine ⟨I', ⟨hi.1, fun S q1 => ?_⟩, ?_⟩
        · rw [hi.2 S q1]
          have : S ≠ k + 1 := fun e => hs (by rw [← e]; exact q1)
          by_cases h2 : S = 0 ∨ k < S
          · rw [if_pos h2, if_pos (by omega)]
          · rw [if_neg h2, if_neg (by omega)]
        · show f_M_layVisits_54L K (m + 1) _ _ _ _ _ = _
          rw [f_M_layVisits_54L, f_M_layVisits_54, if_neg hn, if_neg (by rw [hz]; exact hs), znI_add1])
    (fun m I' hi => by
      show f_M_layVisits_54L K (m + 1) _ _ _ _ _ = _
      rw [f_M_layVisits_54L, f_M_layVisits_54, if_pos (by rw [zlt_nI (by omega) (by omega)]; omega), znI_add1]) A 0 I4 zfu (by omega) ⟨fun _ _ => rfl, fun S q1 => by rw [(hd S q1).1, if_pos (by omega)]⟩ (zfu_lt (by omega))
  have a4 : f_M_layVisits_54L K zfu (zs I4 J (zPt t u i f s x)) 91 (nI A) (nI set) 1 = K (zs I5 J (zPt t u i f s x)) 91 (nI A) (nI (set + 1)) := a4
  refine ⟨I5, a4, a1, fun S hS => ?_⟩
  have hle : S ≤ A := by rw [← hS]; exact Nat.and_le_right
  rw [a2 S hS]
  by_cases e : S = 0
  · rw [if_pos (Or.inl e), if_pos e, e]
  · rw [if_neg (by omega), if_neg e]
theorem m_visits (hC : zCo I t nt nb nr q sh md om im LW BW) {A : Nat} (hA : A < 1024) (hAb : ∀ b, A.testBit b = true → b < nb ∧ om.testBit b = false) : ∃ I', f_M_layVisits (zs I J (zPt t u i f s x)) 91 (nI A) = some (zs I' J (zPt t u i f s x)) ∧ zfr zSg I I' ∧ ∀ S, S &&& A = S → I' 118 S = nI (zcm (zPs I nt nb nr q om sh LW) (2 ^ nr) S) := by
  have hnb := hC.2.1.1.2.1.2
  have hnr := hC.2.1.1.2.2.1.2
  have hsh := hC.2.1.2.2.2.1
  have hpw : 2 ^ nr ≤ 64 := Nat.le_trans (Nat.pow_le_pow_right (by decide) hnr) (by decide)
  have hp0 : 0 < 2 ^ nr := Nat.two_pow_pos nr
  obtain ⟨I1, ⟨a1, a2⟩, a4⟩ := zfor (fun fuel I' k => f_M_layVisits_2L fuel (zs I' J (zPt t u i f s x)) 91 (nI A) (nI k)) 1024 (fun k I' => (∀ a, a ≠ 118 → I' a = I a) ∧ ∀ S, S < k → I' 118 S = 1000000) (fun I' => f_M_layVisits_24 (zs I' J (zPt t u i f s x)) 91 (nI A))
    (fun m k I' hk hi => by
      refine ⟨zup I' 118 k 1000000, ⟨fun a ha => ?_, fun S hS => ?_⟩, ?_⟩
      · rw [zup_ne _ _ _ ha]; exact hi.1 a ha
      · rw [zup_at]
        by_cases e : S = k
        · rw [if_pos e]
        · rw [if_neg e]; exact hi.2 S (by omega)
      · show f_M_layVisits_2L (m + 1) _ _ _ _ = _
        have hle : ¬ (1024 : Int32) ≤ nI k := by rw [show (1024 : Int32) = nI 1024 from rfl, zle_nI (by decide) (by omega)]; omega
        rw [f_M_layVisits_2L, f_M_layVisits_2, if_neg hle, gp_12_60, zbs, wi_118 hk, zbs, znI_add1])
    (fun m I' hi => by
      show f_M_layVisits_2L (m + 1) _ _ _ _ = _
      rw [f_M_layVisits_2L, f_M_layVisits_2, if_pos (by decide)]) 1024 0 I zfu rfl ⟨fun _ _ => rfl, fun _ h => by omega⟩ (zfu_lt (by decide))
  have a4 : f_M_layVisits_2L zfu (zs I J (zPt t u i f s x)) 91 (nI A) 0 = f_M_layVisits_24 (zs I1 J (zPt t u i f s x)) 91 (nI A) := a4
  have w0 : zwI (zs I1 J (zPt t u i f s x)) 1 118 0 0 = some (zs (zup I1 118 0 0) J (zPt t u i f s x)) := wi_118 (k := 0) (by decide)
  have f1 : zfr zSg I (zup I1 118 0 0) := zfr_up (fun a k h => by
    have : a ≠ 118 := fun e => by rw [e] at h; cases h
    rw [a1 a this]) rfl
  obtain ⟨I2, b1, b2, b3, b4⟩ := q_layAll (J := J) (t := t) (u := u) (i := i) (f := f) (s := s) (x := x) (zCo_fr hC f1)
  rw [zKy_fr f1] at b4
  have f2 := zfr_trans f1 b2
  have e118 : I2 118 = zup I1 118 0 0 118 := zfr_sl b3 118 (by decide)
  obtain ⟨I3, ⟨c1, c2, c3⟩, c4⟩ := zfor (fun fuel I' k => f_M_layVisits_37L fuel (zs I' J (zPt t u i f s x)) 91 (nI A) (nI k)) (2 ^ nr) (fun k I' => zfr zEm I2 I' ∧ 1 ≤ k ∧ ∀ S, S &&& A = S → I' 118 S = nI (zcm (zPs I nt nb nr q om sh LW) k S)) (fun I' => some (zs I' J (zPt t u i f s x)))
    (fun m k I' hk hi => by
      obtain ⟨i1, i2, i3⟩ := hi
      have hC3 := zCo_fr hC (zfr_trans f2 (zfr_g i1 zEm_sg))
      have hKm : zKm I' = zKm I2 := by
        unfold zKm
        rw [zfr_row i1 113 (fun _ => rfl)]
      obtain ⟨I4, d1, d2, d3⟩ := q_layOrder (I := I) (J := J) (t := t) (u := u) (i := i) (f := f) (s := s) (x := x) hC3 (by rw [hKm]; exact b4) hk
      have f4 : zfr zEm I' I4 := zfr_mono d2 (fun a k h => by simp [zEm, h])
      have hC4 := zCo_fr hC3 (zfr_g f4 zEm_sg)
      obtain ⟨I5, g1, g2, g3⟩ := m_lv54 (K := f_M_layVisits_37L m) (I := I) (I4 := I4) (J := J) (t := t) (u := u) (i := i) (f := f) (s := s) (x := x) (d := zcm (zPs I nt nb nr q om sh LW) k) hC4.2.1.1.2.1.1 hnb hC4.2.1.2.2.2.1.1 hsh.2.2 d3 hA hAb (fun S hS => ⟨by rw [zfr_row d2 118 (fun _ => rfl)]; exact i3 S hS, zcm_le _ _ _⟩)
      refine ⟨I5, ⟨zfr_trans i1 (zfr_trans f4 (fun a k h => ?_)), by omega, fun S hS => ?_⟩, ?_⟩
      · have : a ≠ 118 := fun e => by rw [e] at h; simp [zEm] at h
        rw [g2 a this]
      · rw [g3 S hS, zcm_next i2]
      · show f_M_layVisits_37L (m + 1) _ _ _ _ = _
        have hle : ¬ nI (2 ^ nr) ≤ nI k := by rw [zle_nI (by omega) (by omega)]; omega
        rw [f_M_layVisits_37L, f_M_layVisits_37, gi_12, zbs, hC3.2.1.1.2.2.1.1, zshl1 nr (by omega), if_neg hle, d1, zbs, g1])
    (fun m I' hi => by
      have hC3 := zCo_fr hC (zfr_trans f2 (zfr_g hi.1 zEm_sg))
      show f_M_layVisits_37L (m + 1) _ _ _ _ = _
      rw [f_M_layVisits_37L, f_M_layVisits_37, gi_12, zbs, hC3.2.1.1.2.2.1.1, zshl1 nr (by omega), if_pos (Int32.le_refl _)]) (2 ^ nr - 1) 1 I2 zfu (by omega) ⟨zfr_refl _ _, Nat.le_refl _, fun S hS => by
        unfold zcm
        have hle : S ≤ A := by rw [← hS]; exact Nat.and_le_right
        rw [e118]
        by_cases e : S = 0
        · rw [if_pos e, e, zup_s]; rfl
        · rw [if_neg e, zup_k _ _ e, a2 S (by omega)]; rfl⟩ (zfu_lt (by omega))
  have c4 : f_M_layVisits_37L zfu (zs I2 J (zPt t u i f s x)) 91 (nI A) 1 = some (zs I3 J (zPt t u i f s x)) := c4
  refine ⟨I3, ?_, zfr_trans f2 (zfr_g c1 zEm_sg), c3⟩
  rw [f_M_layVisits, zg_12, a4, f_M_layVisits_24, gp_12_60, zbs, w0, zbs, b1, zbs, c4]
end ZE4
