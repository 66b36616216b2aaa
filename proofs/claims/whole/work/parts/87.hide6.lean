/-! hide: the reference's best -/
section ZHb
variable {I : Nat → Nat → Int32} {J : Nat → Nat → Int64} {t u i f s x : Nat} {nt nb nr q sh md om im A : Nat} {LW BW : List Int32}
theorem m_same (k175 : zSt → Nat → Int32 → Int32 → Int32 → Int32 → Int32 → Option (Int32 × zSt)) {c : Nat → Nat} {R v : Nat} (hR : R ≤ 625) (hJ : ∀ v, v < R → J 122 v = nJ (c v)) (hc : ∀ v, c v < 2 ^ 63) (hv : v < R) (v4 v6 v7 : Int32) :
    f_M_hide_201L k175 zfu (zs I J (zPt t u i f s x)) 91 v4 (nI R) v6 v7 (nI v) 0 0 = f_M_hide_245 k175 (zs I J (zPt t u i f s x)) 91 v4 (nI R) v6 v7 (nI v) (nI (zcnt c R (c v))) := by
  obtain ⟨n, a1, a2⟩ := zfor (fun fuel (n : Nat) k => f_M_hide_201L k175 fuel (zs I J (zPt t u i f s x)) 91 v4 (nI R) v6 v7 (nI v) (nI n) (nI k)) R (fun k n => n = zcnt c k (c v)) (fun n => f_M_hide_245 k175 (zs I J (zPt t u i f s x)) 91 v4 (nI R) v6 v7 (nI v) (nI n))
    (fun m' k n hk hi => by
      have hle : ¬ R ≤ k := by omega
      have hk625 : k < 625 := by omega
      have hv625 : v < 625 := by omega
      have e1 := hJ k hk
      have e2 := hJ v hv
      have elg : (lg_cmp (nJ (c k)) (nJ (c v)) = 0) = (c k = c v) := propext ((zlg_eq _ _).trans (nJ_inj (hc _) (hc _)))
      refine ⟨zcnt c (k + 1) (c v), rfl, ?_⟩
      show f_M_hide_201L k175 (m' + 1) _ _ _ _ _ _ _ _ _ = _
      rw [f_M_hide_201L, zcnt_succ, hi]
      by_cases he : c k = c v
      · have elg' := elg.trans (eq_true he)
        rw [if_pos he]
        have e10 : ((1 : Int32) = 0) = False := eq_false (by decide)
        simp (disch := (first | omega | assumption)) only [f_M_hide_201, f_M_hide_233, f_M_truth, gp_12_64, aj_122, zbs, nI_add, pk_mul, znI_add1, znI_sub1, znI_subm, zle_nI, zlt_nI, zeq_nI, zle_0, zeq_0, zlt_0, zeq_m, zeq_1, zge_0, zbt0, zbt1, zB_0, zB_1, zB_b, zbool_0, zbool_1, ↓reduceIte, hle, e1, e2, elg', e10]
      · have elg' := elg.trans (eq_false he)
        rw [if_neg he]
        simp (disch := (first | omega | assumption)) only [f_M_hide_201, f_M_hide_233, f_M_truth, gp_12_64, aj_122, zbs, nI_add, pk_mul, znI_add1, znI_sub1, znI_subm, zle_nI, zlt_nI, zeq_nI, zle_0, zeq_0, zlt_0, zeq_m, zeq_1, zge_0, zbt0, zbt1, zB_0, zB_1, zB_b, zbool_0, zbool_1, ↓reduceIte, hle, e1, e2, elg', Int32.add_zero]
        rfl)
    (fun m' n hi => by
      show f_M_hide_201L k175 (m' + 1) _ _ _ _ _ _ _ _ _ = _
      rw [f_M_hide_201L]
      simp (disch := (first | omega | assumption)) only [f_M_hide_201, gp_12_64, aj_122, zbs, nI_add, pk_mul, znI_add1, znI_sub1, znI_subm, zle_nI, zlt_nI, zeq_nI, zle_0, zeq_0, zlt_0, zeq_m, zeq_1, zge_0, zbt0, zbt1, zB_0, zB_1, zB_b, zbool_0, zbool_1, ↓reduceIte, Nat.le_refl]) R 0 0 zfu (by omega) rfl (zfu_lt (by omega))
  rw [a1] at a2
  exact a2
theorem m_best {c : Nat → Nat} {g : Nat → Bool} {R : Nat} (hR : R ≤ 625) (hJ : ∀ v, v < R → J 122 v = nJ (c v)) (hc : ∀ v, c v < 2 ^ 63) (hg : ∀ v, v < R → I 123 v = zB (g v)) (v4 : Int32) {P : Nat × Nat} (hP : P = (List.range R).foldl (zhs g (fun r => zcnt c R (c r))) (0, 0)) :
    ∃ v6, f_M_hide_166 (zs I J (zPt t u i f s x)) 91 v4 (nI R) = f_M_hide_269 (zs I J (zPt t u i f s x)) 91 v4 v6 (nI P.2) ∧ ((P.2 = 0 ∧ v6 = -1) ∨ (0 < P.2 ∧ v6 = nI P.1 ∧ P.1 < R)) := by
  obtain ⟨⟨v6, Q⟩, ⟨a1, a2⟩, a3⟩ := zfor (fun fuel (p : Int32 × (Nat × Nat)) k => f_M_hide_175L fuel (zs I J (zPt t u i f s x)) 91 v4 (nI R) p.1 (nI p.2.2) (nI k)) R
    (fun k p => p.2 = (List.range k).foldl (zhs g (fun r => zcnt c R (c r))) (0, 0) ∧ ((p.2.2 = 0 ∧ p.1 = -1) ∨ (0 < p.2.2 ∧ p.1 = nI p.2.1 ∧ p.2.1 < R)) ∧ p.2.2 ≤ R) (fun p => f_M_hide_269 (zs I J (zPt t u i f s x)) 91 v4 p.1 (nI p.2.2))
    (fun m' k p hk hi => by
      obtain ⟨v6, Q⟩ := p
      obtain ⟨i1, i2, i3⟩ := hi
      dsimp only at i1 i2 i3
      have hle : ¬ R ≤ k := by omega
      have hk625 : k < 625 := by omega
      have e1 := hg k hk
      have sm := m_same (I := I) (J := J) (t := t) (u := u) (i := i) (f := f) (s := s) (x := x) (f_M_hide_175L m') hR hJ hc hk v4 v6 (nI Q.2)
      have hcl := zcnt_le c R (c k)
      have hcp : 0 < zcnt c R (c k) := zcnt_pos hk
      have et : (List.range (k + 1)).foldl (zhs g (fun r => zcnt c R (c r))) (0, 0) = zhs g (fun r => zcnt c R (c r)) Q k := by
        rw [List.range_succ, List.foldl_append, ← i1]
        rfl
      rw [et]
      show ∃ s', _ ∧ f_M_hide_175L (m' + 1) _ _ _ _ _ _ _ = _
      rw [f_M_hide_175L]
      cases hgk : g k with
      | false =>
        rw [hgk] at e1
        have e1 : I 123 k = 0 := e1
        refine ⟨(v6, Q), ⟨?_, i2, i3⟩, ?_⟩
        · unfold zhs
          rw [if_neg (by rintro ⟨h', -⟩; rw [hgk] at h'; cases h')]
        · simp (disch := (first | omega | assumption)) only [f_M_hide_175, gp_12_65, ai_123, zbs, nI_add, pk_mul, znI_add1, znI_sub1, znI_subm, zle_nI, zlt_nI, zeq_nI, zle_0, zeq_0, zlt_0, zeq_m, zeq_1, zge_0, zbt0, zbt1, zB_0, zB_1, zB_b, zbool_0, zbool_1, ↓reduceIte, hle, e1]
      | true =>
        rw [hgk] at e1
        have e1 : I 123 k = 1 := e1
        have e10 : ((1 : Int32) = 0) = False := eq_false (by decide)
        by_cases hlt : Q.2 < zcnt c R (c k)
        · refine ⟨(nI k, (k, zcnt c R (c k))), ⟨?_, Or.inr ⟨hcp, rfl, hk⟩, hcl⟩, ?_⟩
          · unfold zhs
            rw [if_pos ⟨hgk, hlt⟩]
          · simp (disch := (first | omega | assumption)) only [f_M_hide_175, f_M_hide_245, gp_12_65, ai_123, zbs, nI_add, pk_mul, znI_add1, znI_sub1, znI_subm, zle_nI, zlt_nI, zeq_nI, zle_0, zeq_0, zlt_0, zeq_m, zeq_1, zge_0, zbt0, zbt1, zB_0, zB_1, zB_b, zbool_0, zbool_1, ↓reduceIte, hle, e1, e10, sm, hlt]
        · refine ⟨(v6, Q), ⟨?_, i2, i3⟩, ?_⟩
          · unfold zhs
            rw [if_neg (by rintro ⟨-, h'⟩; exact hlt h')]
          · simp (disch := (first | omega | assumption)) only [f_M_hide_175, f_M_hide_245, gp_12_65, ai_123, zbs, nI_add, pk_mul, znI_add1, znI_sub1, znI_subm, zle_nI, zlt_nI, zeq_nI, zle_0, zeq_0, zlt_0, zeq_m, zeq_1, zge_0, zbt0, zbt1, zB_0, zB_1, zB_b, zbool_0, zbool_1, ↓reduceIte, hle, e1, e10, sm, hlt])
    (fun m' p hi => by
      show f_M_hide_175L (m' + 1) _ _ _ _ _ _ _ = _
      rw [f_M_hide_175L]
      simp (disch := (first | omega | assumption)) only [f_M_hide_175, gp_12_65, ai_123, zbs, nI_add, pk_mul, znI_add1, znI_sub1, znI_subm, zle_nI, zlt_nI, zeq_nI, zle_0, zeq_0, zlt_0, zeq_m, zeq_1, zge_0, zbt0, zbt1, zB_0, zB_1, zB_b, zbool_0, zbool_1, ↓reduceIte, Nat.le_refl]) R 0 (-1, (0, 0)) zfu (by omega) ⟨rfl, Or.inl ⟨rfl, rfl⟩, Nat.zero_le _⟩ (zfu_lt (by omega))
  dsimp only at a1 a2 a3
  rw [← hP] at a1
  subst a1
  refine ⟨v6, ?_, a2.1⟩
  simp (disch := (first | omega | assumption)) only [f_M_hide_166, zbs, nI_add, pk_mul, znI_add1, znI_sub1, znI_subm, zle_nI, zlt_nI, zeq_nI, zle_0, zeq_0, zlt_0, zeq_m, zeq_1, zge_0, zbt0, zbt1, zB_0, zB_1, zB_b, zbool_0, zbool_1, ↓reduceIte]
  exact a3
theorem m_layRow0 (hC : zCo I t nt nb nr q sh md om im LW BW) {hd : Nat → Int32} (hh : ∀ k, k < 4 → I 112 k = hd k) (hV : zLnm I []) (v7 : Int32) :
    ∃ I', f_M_hide_287L zfu (zs I J (zPt t u i f s x)) 91 v7 0 = some (v7, (zs I' J (zPt t u i f s x))) ∧ zfr (fun a k => a == 117 || (a == 91 && k == 59)) I I' ∧ zLnm I' ((List.range nt).map hd) := by
  have hnt := hC.2.1.1.1.2
  obtain ⟨I', ⟨a1, a2⟩, a3⟩ := zfor (fun fuel I' k => f_M_hide_287L fuel (zs I' J (zPt t u i f s x)) 91 v7 (nI k)) nt (fun k I' => zfr (fun a k => a == 117 || (a == 91 && k == 59)) I I' ∧ zLnm I' ((List.range k).map hd)) (fun I' => some (v7, (zs I' J (zPt t u i f s x))))
    (fun m' k I' hk hi => by
      have hle : ¬ nt ≤ k := by omega
      have e0 : I' 91 41 = nI nt := (hi.1 91 41 rfl).trans hC.2.1.1.1.1
      have eh : I' 112 k = hd k := by rw [zfr_row hi.1 112 (fun _ => rfl)]; exact hh k (by omega)
      obtain ⟨I2, b1, b2, b3⟩ := g_M_lay (J := J) (t := t) (u := u) (i := i) (f := f) (s := s) (x := x) hi.2 (by rw [List.length_map, List.length_range]; omega) (hd k)
      refine ⟨I2, ⟨zfr_trans hi.1 b2, ?_⟩, ?_⟩
      · rw [List.range_succ, List.map_append]; exact b3
      · show f_M_hide_287L (m' + 1) _ _ _ _ = _
        rw [f_M_hide_287L]
        simp (disch := (first | omega | assumption)) only [f_M_hide_287, gi_12, gp_12_50, ai_112, zbs, nI_add, pk_mul, znI_add1, znI_sub1, znI_subm, zle_nI, zlt_nI, zeq_nI, zle_0, zeq_0, zlt_0, zeq_m, zeq_1, zge_0, zbt0, zbt1, zB_0, zB_1, zB_b, zbool_0, zbool_1, ↓reduceIte, e0, hle, eh, b1])
    (fun m' I' hi => by
      have e0 : I' 91 41 = nI nt := (hi.1 91 41 rfl).trans hC.2.1.1.1.1
      show f_M_hide_287L (m' + 1) _ _ _ _ = _
      rw [f_M_hide_287L]
      simp (disch := (first | omega | assumption)) only [f_M_hide_287, gi_12, gp_12_50, ai_112, zbs, nI_add, pk_mul, znI_add1, znI_sub1, znI_subm, zle_nI, zlt_nI, zeq_nI, zle_0, zeq_0, zlt_0, zeq_m, zeq_1, zge_0, zbt0, zbt1, zB_0, zB_1, zB_b, zbool_0, zbool_1, ↓reduceIte, e0, Nat.le_refl]) nt 0 I zfu (by omega) ⟨zfr_refl _ _, by simpa using hV⟩ (zfu_lt (by omega))
  exact ⟨I', a3, a1, a2⟩
end ZHb
