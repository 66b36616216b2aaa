/-! boxes: image, back -/
theorem g_M_isBox (p : Int32) : f_M_isBox p = some (zB (zlt p 3)) := by
  unfold f_M_isBox zlt
  by_cases h1 : p < 0
  · rw [if_pos h1, zbs, decide_eq_true h1]; rfl
  · rw [if_neg h1, decide_eq_false h1]
    by_cases h2 : 3 ≤ p
    · rw [if_pos h2, zbs, show nI 3 = 3 from rfl, decide_eq_true h2]; rfl
    · rw [if_neg h2, zbs, show nI 3 = 3 from rfl, decide_eq_false h2]; rfl
section ZBo
variable {I : Nat → Nat → Int32} {J : Nat → Nat → Int64} {t u i f s x : Nat} {nt nb nr q sh md om im : Nat} {LW BW : List Int32}
set_option maxRecDepth 10000 in
theorem ap_40 {b : Nat} (hb : b < 3) : zaP (zs I J (zPt t u i f s x)) 40 (nI b) = some (76 + 5 * b) := by
  have : b = 0 ∨ b = 1 ∨ b = 2 := by omega
  rcases this with rfl | rfl | rfl <;> exact zs_aP zl_40 rfl
theorem x_clear : f_A_clear (zs I J (zPt t u i f s x)) 41 = some (zs (zup (zup (zup I 41 0 0) 41 1 0) 41 2 0) J (zPt t u i f s x)) := by
  rw [f_A_clear, zg_0, si_0, zbs, si_0, zbs, si_0, zbs]
theorem s_image (h : zIv2 I t u nt nb nr q sh md om im LW BW) (p : Int32) : zOKs (zs I J (zPt t u i f s x)) (fun σ => f_W_image σ 0 p) (fun σ => f_M_image σ 91 p) := by
  obtain ⟨ht, hT, hN, hNb, -⟩ := h.2.1
  have hR := h.2.2.1
  have hB := h.2.2.2.2.2.2.1
  have zt : ¬ zB true = 0 := by decide
  have zf : zB false = 0 := rfl
  rcases zlt_cases p (n := 3) (by decide) with ⟨h1, b, hb, rfl⟩ | h1
  rotate_left
  · refine ⟨-1, (zs I J (zPt t u i f s x)), (zs I J (zPt t u i f s x)), ?_, ?_, zIs_mk h⟩
    · show f_W_image _ _ _ = _
      rw [f_W_image, zg_11]
      by_cases h0 : p < 0
      · rw [if_pos h0]
      · rw [if_neg h0]
        have : ¬ p < 3 := by
          intro h3
          unfold zlt at h1
          rw [decide_eq_false h0, decide_eq_false (show ¬ nI 3 ≤ p from Int32.not_le.mpr h3)] at h1
          exact absurd h1 (by decide)
        rw [if_neg this]
    · show f_M_image _ _ _ = _
      rw [f_M_image, zg_12, g_M_isBox, zbs, h1, if_pos zf]
  have hNN : 76 + 5 * b = 30 ∨ 76 + 5 * b = 35 ∨ 76 + 5 * b = 76 ∨ 76 + 5 * b = 81 ∨ 76 + 5 * b = 86 := by omega
  have hnl : ¬ nI b < 0 := by rw [show (0 : Int32) = nI 0 from rfl, zlt_nI (by omega) (by decide)]; omega
  have h3 : nI b < 3 := by rw [show (3 : Int32) = nI 3 from rfl, zlt_nI (by omega) (by decide)]; exact hb
  obtain ⟨I1, a1, a2, a3⟩ := g_N_copy (J := J) (t := t) (u := u) (i := i) (f := f) (s := s) (x := x) hNN (Or.inl rfl) (by omega) hN
  have r1 : ∀ a, (a < 76 ∨ 90 < a) → I1 a = I a := fun a ha => zfr_row a2 a (fun k => by simp; omega)
  generalize hI2 : zup I1 (76 + 5 * b) 5 1 = I2
  have r2 : ∀ a, (a < 76 ∨ 90 < a) → I2 a = I a := fun a ha => by rw [← hI2, zup_ne _ _ _ (by omega), r1 a ha]
  have hN2 : zNow I2 30 (I 111) := zNow_rows hN (r2 30 (by decide)) (r2 31 (by decide)) (r2 32 (by decide)) (r2 33 (by decide))
  have hx : f_W_image (zs I J (zPt t u i f s x)) 0 (nI b) = some (zre (I 111), (zs I2 J (zPt t u i f s x))) := by
    rw [f_W_image, zg_11, if_neg hnl, if_pos h3, gp_11_7, zbs, ap_40 hb, zbs, gp_11_5, zbs, a1, zbs, gp_11_7, zbs, ap_40 hb, zbs, si_4 hNN, zbs, hI2, gp_11_5, zbs, g_N_readings (Or.inl rfl) hN2, zbs]
  have w132 : zwI (zs I2 J (zPt t u i f s x)) 3 132 (nI b) 1 = some (zs (zup I2 132 b 1) J (zPt t u i f s x)) := wi_132 hb
  obtain ⟨I4, ⟨b1, b2, b3⟩, b4⟩ := zfor (fun fuel I' k => f_M_image_18L fuel (zs I' J (zPt t u i f s x)) 91 (nI b) (nI k)) 92 (fun k I' => (∀ a, a ≠ 133 → I' a = zup I2 132 b 1 a) ∧ (∀ m, m < k → I' 133 (96 * b + m) = I 111 m) ∧ ∀ m, (m < 96 * b ∨ 96 * b + k ≤ m) → I' 133 m = I 133 m) (fun I' => f_M_image_47 (zs I' J (zPt t u i f s x)) 91)
    (fun m k I' hk hi => by
      have e111 : I' 111 = I 111 := by rw [hi.1 111 (by decide), zup_ne _ _ _ (by decide), r2 111 (by decide)]
      refine ⟨zup I' 133 (96 * b + k) (I 111 k), ⟨fun a ha => ?_, fun l hl => ?_, fun l hl => ?_⟩, ?_⟩
      · rw [zup_ne _ _ _ ha]; exact hi.1 a ha
      · rw [zup_at]
        by_cases e : l = k
        · rw [if_pos (by omega), e]
        · rw [if_neg (by omega)]; exact hi.2.1 l (by omega)
      · rw [zup_k _ _ (by omega)]; exact hi.2.2 l (by omega)
      · show f_M_image_18L (m + 1) _ _ _ _ = _
        have hle : ¬ (92 : Int32) ≤ nI k := by rw [ge92 (by omega)]; omega
        rw [f_M_image_18L, f_M_image_18, if_neg hle, gp_12_82, zbs, gp_12_49, zbs, ai_111 (by omega), zbs, e111, ml96, nI_add, wi_133 (by omega), zbs, znI_add1])
    (fun m I' hi => by
      show f_M_image_18L (m + 1) _ _ _ _ = _
      rw [f_M_image_18L, f_M_image_18, if_pos (by decide)]) 92 0 (zup I2 132 b 1) zfu rfl ⟨fun _ _ => rfl, fun _ h => by omega, fun m _ => by rw [zup_ne _ _ _ (by decide), r2 133 (by decide)]⟩ (zfu_lt (by decide))
  have b4 : f_M_image_18L zfu (zs (zup I2 132 b 1) J (zPt t u i f s x)) 91 (nI b) 0 = f_M_image_47 (zs I4 J (zPt t u i f s x)) 91 := b4
  have r4 : ∀ a, a ≠ 133 → a ≠ 132 → I4 a = I2 a := fun a q1 q2 => by rw [b1 a q1, zup_ne _ _ _ q2]
  have e111 : I4 111 = I 111 := by rw [r4 111 (by decide) (by decide), r2 111 (by decide)]
  have hm : f_M_image (zs I2 J (zPt t u i f s x)) 91 (nI b) = some (zre (I 111), (zs I4 J (zPt t u i f s x))) := by
    rw [f_M_image, zg_12, g_M_isBox, zbs, h1, if_neg zt, gp_12_81, zbs, w132, zbs, b4, f_M_image_47, g_M_readsEver, zbs, e111]
  have rr : ∀ a, (a < 76 ∨ 90 < a) → a ≠ 133 → a ≠ 132 → I4 a = I a := fun a q1 q2 q3 => (r4 a q2 q3).trans (r2 a q1)
  refine ⟨_, _, _, hx, hm, zIs_ex (zIv_act h (fun a k ha => ?_) ?_ (by rw [e111]; exact hR) (fun c hc => ?_) (zAc_rows h.2.2.2.2.2.2.2.1 (rr 41 (by decide) (by decide) (by decide)) (rr 42 (by decide) (by decide) (by decide)) (rr 43 (by decide) (by decide) (by decide)) (rr 44 (by decide) (by decide) (by decide)) (rr 45 (by decide) (by decide) (by decide)) (rr 46 (by decide) (by decide) (by decide)) (rr 107 (by decide) (by decide) (by decide)) e111 (rr 116 (by decide) (by decide) (by decide)) (by rw [rr 91 (by decide) (by decide) (by decide)]) (by rw [rr 91 (by decide) (by decide) (by decide)])))⟩
  · have hz := zSa_n ha
    rw [rr a (by omega) (by omega) (by omega)]
  · rw [e111]
    exact zNow_rows hN2 (r4 30 (by decide) (by decide)) (r4 31 (by decide) (by decide)) (r4 32 (by decide) (by decide)) (r4 33 (by decide) (by decide))
  · by_cases e : c = b
    · subst e
      right
      have hq : zAs (fun k => I4 133 (96 * c + k)) (I 111) := fun k hk => b2 k hk
      refine ⟨?_, ?_, zNow_as (a := I 111) ⟨?_, ?_, ?_, ?_, ?_⟩ hq, zRow_as hR hq⟩
      · rw [b1 132 (by decide), zup_s]
      · rw [r4 _ (by omega) (by omega), ← hI2, zup_s]
      · rw [r4 _ (by omega) (by omega), ← hI2, zup_ne _ _ _ (by omega)]; exact a3.1
      · rw [r4 _ (by omega) (by omega), ← hI2, zup_ne _ _ _ (by omega)]; exact a3.2.1
      · rw [r4 _ (by omega) (by omega), ← hI2, zup_k _ _ (by decide)]; exact a3.2.2.1
      · rw [r4 _ (by omega) (by omega), ← hI2, zup_k _ _ (by decide)]; exact a3.2.2.2.1
      · rw [r4 _ (by omega) (by omega), ← hI2, zup_ne _ _ _ (by omega)]; exact a3.2.2.2.2
    · have q1 : I4 132 c = I 132 c := by rw [b1 132 (by decide), zup_k _ _ e, r2 132 (by decide)]
      have q2 : ∀ a, 76 + 5 * c ≤ a → a ≤ 76 + 5 * c + 3 → I4 a = I a := fun a q1 q2 => by
        rw [r4 a (by omega) (by omega), ← hI2, zup_ne _ _ _ (by omega), zfr_row a2 a (fun k => by simp; omega)]
      have q3 : zAs (fun k => I4 133 (96 * c + k)) (fun k => I 133 (96 * c + k)) := fun k hk => b3 _ (by omega)
      rcases hB c hc with ⟨g1, g2⟩ | ⟨g1, g2, g3, g4⟩
      · left
        rw [q1, q2 _ (by omega) (by omega)]; exact ⟨g1, g2⟩
      · right
        refine ⟨q1.trans g1, by rw [q2 _ (by omega) (by omega)]; exact g2, zNow_as (zNow_rows g3 (q2 _ (by omega) (by omega)) (q2 _ (by omega) (by omega)) (q2 _ (by omega) (by omega)) (q2 _ (by omega) (by omega))) q3, zRow_as g4 q3⟩
theorem s_back (h : zIv2 I t u nt nb nr q sh md om im LW BW) (p : Int32) : zOKs (zs I J (zPt t u i f s x)) (fun σ => f_W_back σ 0 p) (fun σ => f_M_back σ 91 p) := by
  obtain ⟨ht, hT, hN, hNb, -⟩ := h.2.1
  have hR := h.2.2.1
  have hB := h.2.2.2.2.2.2.1
  have zt : ¬ zB true = 0 := by decide
  have zf : zB false = 0 := rfl
  rcases zlt_cases p (n := 3) (by decide) with ⟨h1, b, hb, rfl⟩ | h1
  rotate_left
  · refine ⟨-1, (zs I J (zPt t u i f s x)), (zs I J (zPt t u i f s x)), ?_, ?_, zIs_mk h⟩
    · show f_W_back _ _ _ = _
      rw [f_W_back, zg_11]
      by_cases h0 : p < 0
      · rw [if_pos h0]
      · rw [if_neg h0]
        have : 3 ≤ p := by
          by_cases h3 : 3 ≤ p
          · exact h3
          · unfold zlt at h1
            rw [decide_eq_false h0, decide_eq_false (show ¬ nI 3 ≤ p from h3)] at h1
            exact absurd h1 (by decide)
        rw [if_pos this]
    · show f_M_back _ _ _ = _
      rw [f_M_back, zg_12, g_M_isBox, zbs, h1, if_pos zf]
  have hNN : 76 + 5 * b = 30 ∨ 76 + 5 * b = 35 ∨ 76 + 5 * b = 76 ∨ 76 + 5 * b = 81 ∨ 76 + 5 * b = 86 := by omega
  have hnl : ¬ nI b < 0 := by rw [show (0 : Int32) = nI 0 from rfl, zlt_nI (by omega) (by decide)]; omega
  have h3 : ¬ 3 ≤ nI b := by rw [show (3 : Int32) = nI 3 from rfl, zle_nI (by decide) (by omega)]; omega
  rcases hB b hb with ⟨g1, g2⟩ | ⟨g1, g2, g3, g4⟩
  · refine ⟨-1, (zs I J (zPt t u i f s x)), (zs I J (zPt t u i f s x)), ?_, ?_, zIs_mk h⟩
    · show f_W_back _ _ _ = _
      rw [f_W_back, zg_11, if_neg hnl, if_neg h3, gp_11_7, zbs, ap_40 hb, zbs, gi_4 hNN, zbs, g2, if_pos rfl]
    · show f_M_back _ _ _ = _
      rw [f_M_back, zg_12, g_M_isBox, zbs, h1, if_neg zt, gp_12_81, zbs, ai_132 hb, zbs, g1, if_pos rfl]
  obtain ⟨I1, a1, a2, a3⟩ := g_N_copy (J := J) (t := t) (u := u) (i := i) (f := f) (s := s) (x := x) (N := 30) (Or.inl rfl) hNN (by omega) g3
  have r1 : ∀ a, (a < 30 ∨ 33 < a) → I1 a = I a := fun a ha => zfr_row a2 a (fun k => by simp; omega)
  generalize hI2 : zup (zup (zup I1 41 0 0) 41 1 0) 41 2 0 = I2
  have r2 : ∀ a, a ≠ 41 → I2 a = I1 a := fun a ha => by rw [← hI2, zup_ne _ _ _ ha, zup_ne _ _ _ ha, zup_ne _ _ _ ha]
  have c2 : I2 41 0 = 0 ∧ I2 41 1 = 0 ∧ I2 41 2 = 0 := by
    rw [← hI2]
    refine ⟨?_, ?_, zup_s _ _ _ _⟩
    · rw [zup_k _ _ (by decide), zup_k _ _ (by decide), zup_s]
    · rw [zup_k _ _ (by decide), zup_s]
  have hN2 : zNow I2 30 (fun k => I 133 (96 * b + k)) := zNow_rows a3 (r2 30 (by decide)) (r2 31 (by decide)) (r2 32 (by decide)) (r2 33 (by decide))
  have hrd := g_N_readings (J := J) (t := t) (u := u) (i := i) (f := f) (s := s) (x := x) (Or.inl rfl) hN2
  have hx : f_W_back (zs I J (zPt t u i f s x)) 0 (nI b) = some (zre (fun k => I 133 (96 * b + k)), (zs I2 J (zPt t u i f s x))) := by
    rw [f_W_back, zg_11, if_neg hnl, if_neg h3, gp_11_7, zbs, ap_40 hb, zbs, gi_4 hNN, zbs, g2, if_neg (by decide), gp_11_5, zbs, zbs, ap_40 hb, zbs, a1, zbs, gp_11_8, zbs, x_clear, zbs, hI2, gp_11_5, zbs, hrd, zbs]
  obtain ⟨I4, ⟨b1, b2⟩, b4⟩ := zfor (fun fuel I' k => f_M_back_20L fuel (zs I' J (zPt t u i f s x)) 91 (nI b) (nI k)) 92 (fun k I' => (∀ a, a ≠ 111 → I' a = I2 a) ∧ (∀ m, m < k → I' 111 m = I 133 (96 * b + m))) (fun I' => f_M_back_49 (zs I' J (zPt t u i f s x)) 91)
    (fun m k I' hk hi => by
      have e133 : I' 133 = I 133 := by rw [hi.1 133 (by decide), r2 133 (by decide), r1 133 (by decide)]
      refine ⟨zup I' 111 k (I 133 (96 * b + k)), ⟨fun a ha => ?_, fun l hl => ?_⟩, ?_⟩
      · rw [zup_ne _ _ _ ha]; exact hi.1 a ha
      · rw [zup_at]
        by_cases e : l = k
        · rw [if_pos e, e]
        · rw [if_neg e]; exact hi.2 l (by omega)
      · show f_M_back_20L (m + 1) _ _ _ _ = _
        have hle : ¬ (92 : Int32) ≤ nI k := by rw [ge92 (by omega)]; omega
        rw [f_M_back_20L, f_M_back_20, if_neg hle, gp_12_49, zbs, gp_12_82, zbs, ml96, nI_add, ai_133 (by omega), zbs, e133, wi_111 (by omega), zbs, znI_add1])
    (fun m I' hi => by
      show f_M_back_20L (m + 1) _ _ _ _ = _
      rw [f_M_back_20L, f_M_back_20, if_pos (by decide)]) 92 0 I2 zfu rfl ⟨fun _ _ => rfl, fun _ h => by omega⟩ (zfu_lt (by decide))
  have b4 : f_M_back_20L zfu (zs I2 J (zPt t u i f s x)) 91 (nI b) 0 = f_M_back_49 (zs I4 J (zPt t u i f s x)) 91 := b4
  generalize hI5 : zup (zup I4 91 56 0) 91 57 0 = I5
  have r5 : ∀ a, a ≠ 91 → I5 a = I4 a := fun a ha => by rw [← hI5, zup_ne _ _ _ ha, zup_ne _ _ _ ha]
  have hq : zAs (I5 111) (fun k => I 133 (96 * b + k)) := fun k hk => by rw [r5 111 (by decide)]; exact b2 k hk
  have hzr : zre (I5 111) = zre (fun k => I 133 (96 * b + k)) := by
    have := g_N_readings (J := J) (t := t) (u := u) (i := i) (f := f) (s := s) (x := x) (Or.inl rfl) (zNow_as hN2 hq)
    rw [hrd] at this
    exact (Option.some.inj this).symm
  have e132 : I2 132 = I 132 := by rw [r2 132 (by decide), r1 132 (by decide)]
  have hm : f_M_back (zs I2 J (zPt t u i f s x)) 91 (nI b) = some (zre (fun k => I 133 (96 * b + k)), (zs I5 J (zPt t u i f s x))) := by
    rw [f_M_back, zg_12, g_M_isBox, zbs, h1, if_neg zt, gp_12_81, zbs, ai_132 hb, zbs, e132, g1, if_neg (by decide), b4, f_M_back_49, si_12, zbs, si_12, zbs, hI5, g_M_readsEver, zbs, hzr]
  have rr : ∀ a, (a < 30 ∨ 33 < a) → a ≠ 41 → a ≠ 91 → a ≠ 111 → I5 a = I a := fun a q1 q2 q3 q4 => by rw [r5 a q3, b1 a q4, r2 a q2, r1 a q1]
  have r25 : ∀ a, a ≠ 91 → a ≠ 111 → I5 a = I2 a := fun a q3 q4 => by rw [r5 a q3, b1 a q4]
  have hrow : zRow (I5 111) nt nb nr := zRow_as g4 hq
  refine ⟨_, _, _, hx, hm, zIs_ex (zIv_act h (fun a k ha => ?_) ?_ hrow (zBx_ac hB (fun a ha => rr a (by omega) (by omega) (by omega) (by omega))) ⟨0, 0, 0, fun _ => I5 111, ⟨by decide, by decide⟩, ⟨?_, ?_, ?_, ?_, ?_⟩, fun j hj => hrow, fun k hk => rfl, fun j hj => by omega, fun j q1 q2 => by omega, fun j hj => by omega⟩)⟩
  · have hz := zSa_n ha
    by_cases q91 : a = 91
    · subst q91
      rw [← hI5, zup_k _ _ (by omega), zup_k _ _ (by omega), b1 91 (by decide), r2 91 (by decide), r1 91 (by decide)]
    · rw [rr a (by omega) (by omega) q91 (by omega)]
  · exact zNow_as (zNow_rows hN2 (r25 30 (by decide) (by decide)) (r25 31 (by decide) (by decide)) (r25 32 (by decide) (by decide)) (r25 33 (by decide) (by decide))) hq
  · rw [r25 41 (by decide) (by decide)]; exact c2.1
  · rw [r25 41 (by decide) (by decide)]; exact c2.2.1
  · rw [r25 41 (by decide) (by decide)]; exact c2.2.2
  · rw [← hI5, zup_k _ _ (by decide), zup_s]; rfl
  · rw [← hI5, zup_s]; rfl
end ZBo
