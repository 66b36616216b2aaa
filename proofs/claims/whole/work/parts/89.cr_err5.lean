/-! errand, together -/
section ZE5
variable {I : Nat → Nat → Int32} {J : Nat → Nat → Int64} {t u i f s x : Nat} {nt nb nr q sh md om im : Nat} {LW BW : List Int32}
theorem m_round {K : zSt → Nat → Int32 → Int32 → Int32 → Option (Int32 × zSt)} {A : Nat} {c r : Nat → Nat} (v2 : Int32) {w : Nat} (hA : A < 1024) (h0 : c 0 = 0) (hc : ∀ S, S &&& A = S → I 118 S = nI (2 * c S) ∧ c S < 1000) (hr : ∀ S, S &&& A = S → I 119 S = nI (2 * r S) ∧ r S < 1000) :
    ∃ I', f_M_errand_86L K zfu (zs I J (zPt t u i f s x)) 91 (nI A) v2 (nI w) 0 = K (zs I' J (zPt t u i f s x)) 91 (nI A) v2 (nI (w + 1)) ∧ (∀ a, a ≠ 119 → a ≠ 120 → I' a = I a) ∧ ∀ S, S &&& A = S → I' 119 S = nI (2 * zprt c r S) := by
  obtain ⟨I1, ⟨a1, a2⟩, a4⟩ := zfor (fun fuel I' k => f_M_errand_86L K fuel (zs I' J (zPt t u i f s x)) 91 (nI A) v2 (nI w) (nI k)) (A + 1) (fun k I' => (∀ a, a ≠ 120 → I' a = I a) ∧ ∀ S, S < k → S &&& A = S → I' 120 S = nI (2 * zprt c r S)) (fun I' => f_M_errand_129L K zfu (zs I' J (zPt t u i f s x)) 91 (nI A) v2 (nI w) 0)
    (fun m k I' hk hi => by
      have hn : ¬ nI A < nI k := by rw [zlt_nI (by omega) (by omega)]; omega
      have hz := zinb (S := k) (A := A) (by omega) hA
      by_cases hs : k &&& A = k
      · have hp := g_M_bestSplit (I := I') (J := J) (t := t) (u := u) (i := i) (f := f) (s := s) (x := x) (S := k) (c := c) (r := r) (by omega) (fun v hv => by rw [hi.1 118 (by decide)]; exact hc v (zsub_in hv hs)) (fun v hv => by rw [hi.1 119 (by decide)]; exact hr v (zsub_in hv hs)) h0
        refine ⟨zup I' 120 k (nI (2 * zprt c r k)), ⟨fun a ha => ?_, fun S q1 q2 => ?_⟩, ?_⟩
        · rw [zup_ne _ _ _ ha]; exact hi.1 a ha
        · rw [zup_at]
          by_cases e : S = k
          · rw [if_pos e, e]
          · rw [if_neg e]; exact hi.2 S (by omega) q2
        · show f_M_errand_86L K (m + 1) _ _ _ _ _ _ = _
          rw [f_M_errand_86L, f_M_errand_86, if_neg hn, gp_12_62, zbs, if_pos (by rw [hz]; exact hs), hp, zbs, wi_120 (by omega), zbs, znI_add1]
      · refine ⟨zup I' 120 k 1000000, ⟨fun a ha => ?_, fun S q1 q2 => ?_⟩, ?_⟩
        · rw [zup_ne _ _ _ ha]; exact hi.1 a ha
        · have : S ≠ k := fun e => hs (by rw [← e]; exact q2)
          rw [zup_k _ _ this]
          exact hi.2 S (by omega) q2
        · show f_M_errand_86L K (m + 1) _ _ _ _ _ _ = _
          rw [f_M_errand_86L, f_M_errand_86, if_neg hn, gp_12_62, zbs, if_neg (by rw [hz]; exact hs), wi_120 (by omega), zbs, znI_add1])
    (fun m I' hi => by
      show f_M_errand_86L K (m + 1) _ _ _ _ _ _ = _
      rw [f_M_errand_86L, f_M_errand_86, if_pos (by rw [zlt_nI (by omega) (by omega)]; omega)]) (A + 1) 0 I zfu (by omega) ⟨fun _ _ => rfl, fun _ h => by omega⟩ (zfu_lt (by omega))
  obtain ⟨I2, ⟨b1, b2⟩, b4⟩ := zfor (fun fuel I' k => f_M_errand_129L K fuel (zs I' J (zPt t u i f s x)) 91 (nI A) v2 (nI w) (nI k)) (A + 1) (fun k I' => (∀ a, a ≠ 119 → I' a = I1 a) ∧ ∀ S, S < k → I' 119 S = I1 120 S) (fun I' => K (zs I' J (zPt t u i f s x)) 91 (nI A) v2 (nI (w + 1)))
    (fun m k I' hk hi => by
      have hn : ¬ nI A < nI k := by rw [zlt_nI (by omega) (by omega)]; omega
      refine ⟨zup I' 119 k (I1 120 k), ⟨fun a ha => ?_, fun S q1 => ?_⟩, ?_⟩
      · rw [zup_ne _ _ _ ha]; exact hi.1 a ha
      · rw [zup_at]
        by_cases e : S = k
        · rw [if_pos e, e]
        · rw [if_neg e]; exact hi.2 S (by omega)
      · show f_M_errand_129L K (m + 1) _ _ _ _ _ _ = _
        rw [f_M_errand_129L, f_M_errand_129, if_neg hn, gp_12_61, zbs, gp_12_62, zbs, ai_120 (by omega), zbs, hi.1 120 (by decide), wi_119 (by omega), zbs, znI_add1])
    (fun m I' hi => by
      show f_M_errand_129L K (m + 1) _ _ _ _ _ _ = _
      rw [f_M_errand_129L, f_M_errand_129, if_pos (by rw [zlt_nI (by omega) (by omega)]; omega), znI_add1]) (A + 1) 0 I1 zfu (by omega) ⟨fun _ _ => rfl, fun _ h => by omega⟩ (zfu_lt (by omega))
  have a4 : f_M_errand_86L K zfu (zs I J (zPt t u i f s x)) 91 (nI A) v2 (nI w) 0 = f_M_errand_129L K zfu (zs I1 J (zPt t u i f s x)) 91 (nI A) v2 (nI w) 0 := a4
  have b4 : f_M_errand_129L K zfu (zs I1 J (zPt t u i f s x)) 91 (nI A) v2 (nI w) 0 = K (zs I2 J (zPt t u i f s x)) 91 (nI A) v2 (nI (w + 1)) := b4
  refine ⟨I2, a4.trans b4, fun a h1 h2 => ?_, fun S hS => ?_⟩
  · rw [b1 a h1, a1 a h2]
  · have hle : S ≤ A := by rw [← hS]; exact Nat.and_le_right
    rw [b2 S (by omega), a2 S (by omega) hS]
theorem m_rounds {A k : Nat} {c : Nat → Nat} (hk : k = 1 ∨ k = 2 ∨ k = 3) (hA : A < 1024) (h0 : c 0 = 0) (hc : ∀ S, S &&& A = S → I 118 S = nI (2 * c S) ∧ c S < 100) : ∃ I', f_M_errand_53L zfu (zs I J (zPt t u i f s x)) 91 (nI A) (nI k) 0 = some (nI (zans c A k), (zs I' J (zPt t u i f s x))) ∧ ∀ a, a ≠ 119 → a ≠ 120 → I' a = I a := by
  obtain ⟨I1, ⟨b1, b2⟩, b4⟩ := zfor (fun fuel I' w => f_M_errand_53L fuel (zs I' J (zPt t u i f s x)) 91 (nI A) (nI k) (nI w)) (A + 1) (fun w I' => (∀ a, a ≠ 119 → I' a = I a) ∧ ∀ S, S < w → I' 119 S = I 118 S) (fun I' => f_M_errand_78L zfu (zs I' J (zPt t u i f s x)) 91 (nI A) (nI k) 1)
    (fun m w I' hw hi => by
      have hn : ¬ nI A < nI w := by rw [zlt_nI (by omega) (by omega)]; omega
      refine ⟨zup I' 119 w (I 118 w), ⟨fun a ha => ?_, fun S q1 => ?_⟩, ?_⟩
      · rw [zup_ne _ _ _ ha]; exact hi.1 a ha
      · rw [zup_at]
        by_cases e : S = w
        · rw [if_pos e, e]
        · rw [if_neg e]; exact hi.2 S (by omega)
      · show f_M_errand_53L (m + 1) _ _ _ _ _ = _
        rw [f_M_errand_53L, f_M_errand_53, if_neg hn, gp_12_61, zbs, gp_12_60, zbs, ai_118 (by omega), zbs, hi.1 118 (by decide), wi_119 (by omega), zbs, znI_add1])
    (fun m I' hi => by
      show f_M_errand_53L (m + 1) _ _ _ _ _ = _
      rw [f_M_errand_53L, f_M_errand_53, if_pos (by rw [zlt_nI (by omega) (by omega)]; omega)]) (A + 1) 0 I zfu (by omega) ⟨fun _ _ => rfl, fun _ h => by omega⟩ (zfu_lt (by omega))
  have b4 : f_M_errand_53L zfu (zs I J (zPt t u i f s x)) 91 (nI A) (nI k) 0 = f_M_errand_78L zfu (zs I1 J (zPt t u i f s x)) 91 (nI A) (nI k) 1 := b4
  have hin : ∀ {S}, S &&& A = S → S < A + 1 := fun {S} h => by
    have : S ≤ A := by rw [← h]; exact Nat.and_le_right
    omega
  have e1 : ∀ S, S &&& A = S → I1 119 S = nI (2 * c S) ∧ c S < 1000 := fun S hS => by
    have := hc S hS
    exact ⟨by rw [b2 S (hin hS)]; exact this.1, by omega⟩
  have e0 : ∀ S, S &&& A = S → I1 118 S = nI (2 * c S) ∧ c S < 1000 := fun S hS => by
    have := hc S hS
    exact ⟨by rw [b1 118 (by decide)]; exact this.1, by omega⟩
  have hz : ∃ m, zfu = m + 3 := ⟨3997, rfl⟩
  obtain ⟨m, hz⟩ := hz
  have L78 : ∀ w σ v2 v3, f_M_errand_78L (w + 1) σ 91 (nI A) v2 v3 = f_M_errand_78 (f_M_errand_78L w) σ 91 (nI A) v2 v3 := fun _ _ _ _ => rfl
  have fin : ∀ (w : Nat) (I' : Nat → Nat → Int32) (j : Nat) (v : Nat), j ≤ 3 → I' 119 A = nI v → f_M_errand_78L (w + 1) (zs I' J (zPt t u i f s x)) 91 (nI A) (nI j) (nI j) = some (nI v, (zs I' J (zPt t u i f s x))) := fun w I' j v hj hv => by
    rw [L78, f_M_errand_78, if_pos (Int32.le_refl _), gp_12_61, zbs, ai_119 hA, zbs, hv]
  have go : ∀ (w : Nat) (I' : Nat → Nat → Int32) (j l : Nat), l < j → j ≤ 3 → f_M_errand_78L (w + 1) (zs I' J (zPt t u i f s x)) 91 (nI A) (nI j) (nI l) = f_M_errand_86L (f_M_errand_78L w) zfu (zs I' J (zPt t u i f s x)) 91 (nI A) (nI j) (nI l) 0 := fun w I' j l h1 h2 => by
    rw [L78, f_M_errand_78, if_neg (by rw [zle_nI (by omega) (by omega)]; omega)]
  have b5 : f_M_errand_53L zfu (zs I J (zPt t u i f s x)) 91 (nI A) (nI k) 0 = f_M_errand_78L (m + 3) (zs I1 J (zPt t u i f s x)) 91 (nI A) (nI k) (nI 1) := by rw [b4, hz]; rfl
  rcases hk with rfl | rfl | rfl
  · refine ⟨I1, ?_, fun a h1 _ => b1 a h1⟩
    rw [b5, fin (m + 2) I1 1 (2 * c A) (by decide) (e1 A (Nat.and_self A)).1]
    rfl
  · obtain ⟨I2, d1, d2, d3⟩ := m_round (K := f_M_errand_78L (m + 2)) (J := J) (t := t) (u := u) (i := i) (f := f) (s := s) (x := x) (I := I1) (c := c) (r := c) (nI 2) (w := 1) hA h0 e0 e1
    refine ⟨I2, ?_, fun a h1 h2 => (d2 a h1 h2).trans (b1 a h1)⟩
    rw [b5, go (m + 2) I1 2 1 (by decide) (by decide), d1, fin (m + 1) I2 2 (2 * zprt c c A) (by decide) (d3 A (Nat.and_self A))]
    rfl
  · obtain ⟨I2, d1, d2, d3⟩ := m_round (K := f_M_errand_78L (m + 2)) (J := J) (t := t) (u := u) (i := i) (f := f) (s := s) (x := x) (I := I1) (c := c) (r := c) (nI 3) (w := 1) hA h0 e0 e1
    obtain ⟨I3, g1, g2, g3⟩ := m_round (K := f_M_errand_78L (m + 1)) (J := J) (t := t) (u := u) (i := i) (f := f) (s := s) (x := x) (I := I2) (c := c) (r := zprt c c) (nI 3) (w := 2) hA h0 (fun S hS => by rw [d2 118 (by decide) (by decide)]; exact e0 S hS) (fun S hS => ⟨d3 S hS, by
      have h1 := (e0 S hS).2
      have h2 := zprt_le (c := c) (r := c) (S := S) h0
      omega⟩)
    refine ⟨I3, ?_, fun a h1 h2 => (g2 a h1 h2).trans ((d2 a h1 h2).trans (b1 a h1))⟩
    rw [b5, go (m + 2) I1 3 1 (by decide) (by decide), d1, go (m + 1) I2 3 2 (by decide) (by decide), g1, fin m I3 3 (2 * zprt c (zprt c c) A) (by decide) (g3 A (Nat.and_self A))]
    rfl
theorem q_errand (hC : zCo I t nt nb nr q sh md om im LW BW) (p c : Int32) : zOK2 I J t u i f s x (fun σ => f_W_errand σ 0 p c) (fun σ => f_M_errand σ 91 p c) := by
  have hC2 := hC
  obtain ⟨ht, ⟨hM, hX, -, hsh, -⟩, hN, -, ho, him, -⟩ := hC
  have hnb := hM.2.1.2
  have hnr := hM.2.2.1.2
  have hom := z2n hnb ho.2
  have h4 : I 30 4 = nI om := hN.2.2.2.1.trans ho.1
  have zt : ¬ zB true = 0 := by decide
  have zf : zB false = 0 := rfl
  have h2b : 2 ^ nb ≤ 1024 := Nat.le_trans (Nat.pow_le_pow_right (by decide) hnb) (by decide)
  have hp1 := g_M_isIn p (n := 2 ^ nb) (by omega)
  have hsb := zshl1 nb (by omega)
  have no : f_W_errand (zs I J (zPt t u i f s x)) 0 p c = some (-1, (zs I J (zPt t u i f s x))) → f_M_errand (zs I J (zPt t u i f s x)) 91 p c = some (-1, (zs I J (zPt t u i f s x))) → zOK2 I J t u i f s x (fun σ => f_W_errand σ 0 p c) (fun σ => f_M_errand σ 91 p c) := fun e1 e2 => ⟨-1, I, J, s, I, J, e1, e2, zfr_refl _ _, Or.inl rfl⟩
  rcases zlt_cases p (n := 2 ^ nb) (by omega) with ⟨h1, A, hA, rfl⟩ | h1
  rotate_left
  · refine no ?_ ?_
    · rw [f_W_errand, zg_11]
      by_cases h0 : p < 0
      · rw [if_pos h0]
      · have : nI (2 ^ nb) ≤ p := by
          by_cases h3 : nI (2 ^ nb) ≤ p
          · exact h3
          · unfold zlt at h1
            rw [decide_eq_false h0, decide_eq_false h3] at h1
            exact absurd h1 (by decide)
        rw [if_neg h0, gp_11_2, zbs, gi_10 ht, zbs, hX.2.1.1, hsb, if_pos this]
    · rw [f_M_errand, zg_12, gi_12, zbs, hM.2.1.1, hsb, hp1, zbs, h1, if_pos zf]
  rw [h1] at hp1
  have hA10 : A < 1024 := by omega
  have c1 : ¬ nI A < 0 := by rw [show (0 : Int32) = nI 0 from rfl, zlt_nI (by omega) (by decide)]; omega
  have c2 : ¬ nI (2 ^ nb) ≤ nI A := by rw [zle_nI (by omega) (by omega)]; omega
  have hand : nI A &&& nI om = nI (A &&& om) := znand (by omega) (by omega)
  have a31 : zaI (zs I J (zPt t u i f s x)) 1 111 31 = some (I 111 31) := ai_111 (k := 31) (by decide)
  by_cases hao : A &&& om = 0
  rotate_left
  · have hne : ¬ nI (A &&& om) = 0 := by
      have : A &&& om < 1024 := Nat.lt_of_le_of_lt Nat.and_le_left hA10
      rw [show (0 : Int32) = nI 0 from rfl, zeq_nI (by omega) (by decide)]
      exact hao
    refine no ?_ ?_
    · rw [f_W_errand, zg_11, if_neg c1, gp_11_2, zbs, gi_10 ht, zbs, hX.2.1.1, hsb, if_neg c2, gp_11_5, zbs, gi_4 (Or.inl rfl), zbs, h4, hand, if_neg hne]
    · rw [f_M_errand, zg_12, gi_12, zbs, hM.2.1.1, hsb, hp1, zbs, if_neg zt, gp_12_49, zbs, a31, zbs, ho.1, hand, if_neg hne]
  have hpo : nI (A &&& om) = 0 := by rw [hao]; rfl
  have hAb : ∀ b, A.testBit b = true → b < nb ∧ om.testBit b = false := fun b hb => by
    refine ⟨?_, ?_⟩
    · by_cases h : b < nb
      · exact h
      · rw [Nat.testBit_lt_two_pow (Nat.lt_of_lt_of_le hA (Nat.pow_le_pow_right (by decide) (by omega)))] at hb
        cases hb
    · have : (A &&& om).testBit b = false := by rw [hao, Nat.zero_testBit]
      rw [Nat.testBit_and, hb] at this
      simpa using this
  have hx0 : f_W_errand (zs I J (zPt t u i f s x)) 0 (nI A) c = if c < 1 then some (-1, (zs I J (zPt t u i f s x))) else if 3 < c then some (-1, (zs I J (zPt t u i f s x))) else if nI nr = 0 then some (-1, (zs I J (zPt t u i f s x))) else (f_S_open (zs I J (zPt t u i f s x)) 47 t 30).bind fun σ10 => (zgP σ10 11 0 13).bind fun a11 => (zgP σ10 11 0 9).bind fun a12 => (zgP σ10 11 0 2).bind fun a13 => (f_E_fewest σ10 a11 a12 a13 (nI A) c).bind fun q14 => some (q14.1, q14.2) := by
    rw [f_W_errand, zg_11, if_neg c1, gp_11_2, zbs, gi_10 ht, zbs, hX.2.1.1, hsb, if_neg c2, gp_11_5, zbs, gi_4 (Or.inl rfl), zbs, h4, hand, if_pos hpo, zbs, gi_10 ht, zbs, hX.2.2.1.1, gp_11_9, zbs, zbs, zbs]
  have hm0 : ∀ (I' : Nat → Nat → Int32) (s' : Nat), zCo I' t nt nb nr q sh md om im LW BW → f_M_errand (zs I' J (zPt t u i f s' x)) 91 (nI A) c = (f_M_isIn c 1 3).bind fun x5 => if x5 = 0 then some (-1, zs I' J (zPt t u i f s' x)) else if nI nr = 0 then some (-1, zs I' J (zPt t u i f s' x)) else (f_M_layVisits (zs I' J (zPt t u i f s' x)) 91 (nI A)).bind fun σ7 => f_M_errand_53L zfu σ7 91 (nI A) c 0 := fun I' s' hC' => by
    have a31 : zaI (zs I' J (zPt t u i f s' x)) 1 111 31 = some (I' 111 31) := ai_111 (k := 31) (by decide)
    rw [f_M_errand, zg_12, gi_12, zbs, hC'.2.1.1.2.1.1, hsb, hp1, zbs, if_neg zt, gp_12_49, zbs, a31, zbs, hC'.2.2.2.2.1.1, hand, if_pos hpo, gi_12, zbs, hC'.2.1.1.2.2.1.1]
  have hin0 : c < 1 ∨ 3 < c → f_M_isIn c 1 3 = some 0 := fun h => by
    rw [f_M_isIn]
    by_cases h1 : c < 1
    · rw [if_pos h1, zbs, zbool_0]
    · rw [if_neg h1, if_pos (h.resolve_left h1), zbs, zbool_0]
  by_cases hc1 : c < 1
  · refine no ?_ ?_
    · rw [hx0, if_pos hc1]
    · rw [hm0 I s hC2, hin0 (Or.inl hc1), zbs, if_pos rfl]
  by_cases hc3 : 3 < c
  · refine no ?_ ?_
    · rw [hx0, if_neg hc1, if_pos hc3]
    · rw [hm0 I s hC2, hin0 (Or.inr hc3), zbs, if_pos rfl]
  have hin1 : f_M_isIn c 1 3 = some 1 := by rw [f_M_isIn, if_neg hc1, if_neg hc3, zbs, zbool_1]
  have n10 : ¬ (1 : Int32) = 0 := by decide
  by_cases hr0 : nr = 0
  · have hz : nI nr = 0 := by rw [hr0]; rfl
    refine no ?_ ?_
    · rw [hx0, if_neg hc1, if_neg hc3, if_pos hz]
    · rw [hm0 I s hC2, hin1, zbs, if_neg n10, if_pos hz]
  have hnz : ¬ nI nr = 0 := by rw [show (0 : Int32) = nI 0 from rfl, zeq_nI (by omega) (by decide)]; exact hr0
  have hck : ∃ k, (k = 1 ∨ k = 2 ∨ k = 3) ∧ c = nI k := by
    have h0 : ¬ c < 0 := fun h => hc1 (Int32.lt_trans h (by decide))
    obtain ⟨k, hk, rfl⟩ := nI_of h0
    rw [show (1 : Int32) = nI 1 from rfl, zlt_nI hk (by decide)] at hc1
    rw [show (3 : Int32) = nI 3 from rfl, zlt_nI (by decide) hk] at hc3
    exact ⟨k, by omega, rfl⟩
  obtain ⟨k, hk, rfl⟩ := hck
  have hpw : 2 ≤ 2 ^ nr := Nat.le_trans (show 2 ≤ 2 ^ 1 by decide) (Nat.pow_le_pow_right (by decide) (by omega))
  have hbA : ∀ {S j : Nat}, S &&& A = S → S.testBit j = true → A.testBit j = true := fun {S j} h ht => by
    have : (S &&& A).testBit j = true := by rw [h]; exact ht
    rw [Nat.testBit_and] at this
    simp at this
    exact this.2
  have hfar : ∀ S, S &&& A = S → ∀ set, zfar (zPs I nt nb nr q om sh LW set) S 10 < 100 := fun S hS set => zfar_lt (fun b _ h => zPs_lt hnb (hAb b (hbA hS h)).1 (hAb b (hbA hS h)).2 set)
  have hcl : ∀ S, S &&& A = S → zcst (zPs I nt nb nr q om sh LW) (2 ^ nr) S < 100 := fun S hS => zcst_lt hpw (hfar S hS _)
  have hc0 : zcst (zPs I nt nb nr q om sh LW) (2 ^ nr) 0 = 0 := by unfold zcst; rw [if_pos rfl]
  obtain ⟨I1, a1, a2, -, a4, a3⟩ := q_open (J := J) (t := t) (u := u) (i := i) (f := f) (s := s) (x := x) hC2
  have hC1 := zCo_fr hC2 a2
  obtain ⟨I2, b1, b2, b3⟩ := x_few19 (I := I) (J := J) (u := u) (i := i) (f := f) (x := x) (nt := nt) (LW := LW) (nI k) ht hsh.2.2 hC1.2.1.2.2.2.1.2.1 a4 a3 hA10 hAb
  obtain ⟨I3, d1, d2⟩ := x_few45 (I := I2) (J := J) (t := t) (u := u) (i := i) (f := f) (s := t) (x := x) hk hA10 hc0 (fun S hS => ⟨b3 S hS, hcl S hS⟩)
  have f2 : zfr zSg I1 I2 := zfr_mono b2 (fun a k h => by
    unfold zEx at h
    simp at h
    rcases h with (h | rfl) | rfl
    · exact zSg_xls a k h
    · rfl
    · rfl)
  have f3 : zfr zSg I I3 := zfr_trans a2 (zfr_trans f2 (fun a k h => by
    have : a ≠ 67 := fun e => by rw [e] at h; cases h
    rw [d2 a this]))
  have hC3 := zCo_fr hC2 f3
  have hPs : zPs I3 nt nb nr q om sh LW = zPs I nt nb nr q om sh LW := by
    funext set b
    unfold zPs
    rw [zL_fr f3]
  obtain ⟨I4, e1, e2, e3⟩ := m_visits (J := J) (t := t) (u := u) (i := i) (f := f) (s := t) (x := x) hC3 hA10 hAb
  rw [hPs] at e3
  obtain ⟨I5, g1, g2⟩ := m_rounds (I := I4) (J := J) (t := t) (u := u) (i := i) (f := f) (s := t) (x := x) (c := zcst (zPs I nt nb nr q om sh LW) (2 ^ nr)) hk hA10 hc0 (fun S hS => ⟨by rw [e3 S hS, zcm_two (hfar S hS) hpw], hcl S hS⟩)
  refine ⟨nI (zans (zcst (zPs I nt nb nr q om sh LW) (2 ^ nr)) A k), I3, J, t, I5, J, ?_, ?_, zfr_trans f3 (zfr_trans e2 (fun a k h => ?_)), Or.inr rfl⟩
  · show f_W_errand _ _ _ _ = _
    rw [hx0, if_neg hc1, if_neg hc3, if_neg hnz, a1, zbs, gp_11_13, zbs, gp_11_9, zbs, gp_11_2, zbs, b1, d1, zbs]
  · show f_M_errand _ _ _ _ = _
    rw [hm0 I3 t hC3, hin1, zbs, if_neg n10, if_neg hnz, e1, zbs, g1]
  · have h1 : a ≠ 119 := fun e => by rw [e] at h; cases h
    have h2 : a ≠ 120 := fun e => by rw [e] at h; cases h
    rw [g2 a h1 h2]
end ZE5
