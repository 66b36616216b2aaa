/-! hide: the reference -/
section ZHm
variable {I : Nat → Nat → Int32} {J : Nat → Nat → Int64} {t u i f s x : Nat} {nt nb nr q sh md om im A : Nat} {LW BW : List Int32}
theorem zOv_K {K K' KR : Nat → Nat → Int32} {r v : Nat} (hnr : nr ≤ 6) (hr : r < nr) : zOv K KR r q nr nb om v = zOv K' KR r q nr nb om v := by
  unfold zOv
  refine zord_congs (z2r hr) hnr (fun r' b hr' hset hb => ?_) (fun _ _ => rfl)
  have : r' = r := by
    rw [Nat.testBit_two_pow] at hset
    simpa using (of_decide_eq_true hset).symm
  subst this
  unfold zKw
  rw [if_pos rfl, if_pos rfl]
theorem m_code (k62 : zSt → Nat → Int32 → Int32 → Int32 → Int32 → Int32 → Int32 → Option (Int32 × zSt)) {L : List Nat} (hL : zLm I L) (hl : L.length ≤ 10) (hb : ∀ b, b ∈ L → b < 10) {v : Nat} (hv : v < 625) (v1 v2 v3 v4 v5 : Int32) :
    ∃ J', f_M_hide_96L k62 zfu (zs I (zup J 122 v 0) (zPt t u i f s x)) 91 v1 v2 v3 v4 v5 (nI v) 0 = f_M_hide_138 k62 (zs I J' (zPt t u i f s x)) 91 v1 v2 v3 v4 v5 (nI v) ∧ (∀ k, k ≠ v → J' 122 k = J 122 k) ∧ J' 122 v = nJ (zco L) := by
  obtain ⟨J', ⟨a1, a2⟩, a3⟩ := zfor (fun fuel (J' : Nat → Nat → Int64) k => f_M_hide_96L k62 fuel (zs I J' (zPt t u i f s x)) 91 v1 v2 v3 v4 v5 (nI v) (nI k)) L.length (fun k J' => (∀ k, k ≠ v → J' 122 k = J 122 k) ∧ J' 122 v = nJ (zco (L.take k))) (fun J' => f_M_hide_138 k62 (zs I J' (zPt t u i f s x)) 91 v1 v2 v3 v4 v5 (nI v))
    (fun m' k J' hk hi => by
      have hle : ¬ L.length ≤ k := by omega
      have hg := List.getElem?_eq_getElem hk
      have e := (hL.2.1 k _ hg).1
      have hb' := hb _ (List.getElem_mem hk)
      have hd := nJ_dig' (a := zco (L.take k)) (b := L[k]) (by omega)
      have hk10 : k < 10 := by omega
      refine ⟨zup J' 122 v (nJ (zco (L.take (k + 1)))), ⟨fun j hj => by rw [zup_k _ _ hj]; exact hi.1 j hj, zup_s _ _ _ _⟩, ?_⟩
      show f_M_hide_96L k62 (m' + 1) _ _ _ _ _ _ _ _ _ = _
      rw [f_M_hide_96L, zco_take hg, ← hd]
      simp (disch := (first | omega | assumption)) only [f_M_hide_96, gi_12, gp_12_64, gp_12_52, aj_122, ai_114, wj_122, ml16, zbs, nI_add, pk_mul, znI_add1, znI_sub1, znI_subm, zle_nI, zlt_nI, zeq_nI, zle_0, zeq_0, zlt_0, zeq_m, zeq_1, zge_0, zbt0, zbt1, zB_0, zB_1, zB_b, zbool_0, zbool_1, ↓reduceIte, hL.1, hle, hi.2, e])
    (fun m' J' hi => by
      show f_M_hide_96L k62 (m' + 1) _ _ _ _ _ _ _ _ _ = _
      rw [f_M_hide_96L]
      simp (disch := (first | omega | assumption)) only [f_M_hide_96, gi_12, gp_12_64, gp_12_52, aj_122, ai_114, wj_122, ml16, zbs, nI_add, pk_mul, znI_add1, znI_sub1, znI_subm, zle_nI, zlt_nI, zeq_nI, zle_0, zeq_0, zlt_0, zeq_m, zeq_1, zge_0, zbt0, zbt1, zB_0, zB_1, zB_b, zbool_0, zbool_1, ↓reduceIte, hL.1, Nat.le_refl]) L.length 0 (zup J 122 v 0) zfu (by omega) ⟨fun j hj => zup_k _ _ hj, by rw [zup_s]; rfl⟩ (zfu_lt (by omega))
  rw [List.take_length] at a2
  exact ⟨J', a3, a1, a2⟩
theorem m_codes (hC : zCo I t nt nb nr q sh md om im LW BW) {m r b p : Nat} (hm : m ≤ 2) {K : Nat → Nat → Int32} (hr : r < nr) (hb : b < nb) (hob : om.testBit b = false) (hp : p < 10) :
    ∃ I' J', f_M_hide_62L zfu (zs I J (zPt t u i f s x)) 91 (nI r) (nI b) (nI p) (nI m) (nI ((2 * m + 1) ^ nt)) 0 = f_M_hide_166 (zs I' J' (zPt t u i f s x)) 91 (nI m) (nI ((2 * m + 1) ^ nt)) ∧ zfr zSg I I' ∧ ∀ v, v < (2 * m + 1) ^ nt → J' 122 v = nJ (zco (zOv K (fun v b => zkm I nt LW (zcell m nt v) r b) r q nr nb om v)) ∧ I' 123 v = zB (decide (zps (zOv K (fun v b => zkm I nt LW (zcell m nt v) r b) r q nr nb om v) b ≤ p)) := by
  have hM := hC.2.1.1
  have hnb := hM.2.1.2
  have hnr := hM.2.2.1.2
  have hnt := hM.1.2
  have hR := zR_le (m := m) hm hnt
  have hset : 2 ^ r < 2 ^ nr := z2r hr
  have hsl : (1 : Int32) <<< (nI r &&& 31) = nI (2 ^ r) := zshl1 r (by omega)
  have hq := hC.2.1.2.2.1
  obtain ⟨⟨I', J'⟩, ⟨a1, a2⟩, a3⟩ := zfor (fun fuel (P : (Nat → Nat → Int32) × (Nat → Nat → Int64)) v => f_M_hide_62L fuel (zs P.1 P.2 (zPt t u i f s x)) 91 (nI r) (nI b) (nI p) (nI m) (nI ((2 * m + 1) ^ nt)) (nI v)) ((2 * m + 1) ^ nt)
    (fun n P => zfr zSg I P.1 ∧ ∀ v, v < n → P.2 122 v = nJ (zco (zOv K (fun v b => zkm I nt LW (zcell m nt v) r b) r q nr nb om v)) ∧ P.1 123 v = zB (decide (zps (zOv K (fun v b => zkm I nt LW (zcell m nt v) r b) r q nr nb om v) b ≤ p)))
    (fun P => f_M_hide_166 (zs P.1 P.2 (zPt t u i f s x)) 91 (nI m) (nI ((2 * m + 1) ^ nt)))
    (fun m' v P hv hi => by
      obtain ⟨I3, J3⟩ := P
      obtain ⟨i1, i2⟩ := hi
      dsimp only at i1 i2
      have hle : ¬ (2 * m + 1) ^ nt ≤ v := by omega
      have hv625 : v < 625 := by omega
      have hC3 := zCo_fr hC i1
      obtain ⟨I4, c1, c2, c3, -, -⟩ := g_M_layByRow (J := J3) (t := t) (u := u) (i := i) (f := f) (s := s) (x := x) hC3.2.1.1 hm hv625 (show r < 6 by omega)
      have f4 : zfr zSg I3 I4 := zfs_g c2
      have hC4 := zCo_fr hC3 f4
      obtain ⟨I5, d1, d2, d3⟩ := g_M_layOrder (J := J3) (t := t) (u := u) (i := i) (f := f) (s := s) (x := x) hC4.2.1.1.2.1.1 hnb hC4.2.2.2.2.1.1 (z2n hnb hC4.2.2.2.2.1.2) hC4.2.1.1.2.2.1.1 hnr hC4.2.1.2.2.1.1 hq.2.2 (z64 hnr hset)
      have hord : zord (zKm I4) q nr nb (zokO om) (2 ^ r) = zOv K (fun v b => zkm I nt LW (zcell m nt v) r b) r q nr nb om v := by
        unfold zOv
        refine zord_congs hset hnr (fun r' b' hr' hs hb' => ?_) (fun _ _ => rfl)
        have : r' = r := by
          rw [Nat.testBit_two_pow] at hs
          simpa using (of_decide_eq_true hs).symm
        subst this
        unfold zKw
        rw [if_pos rfl]
        show I4 113 (10 * r' + b') = _
        rw [c3 b' hb']
        exact congrFun (zfK_fr i1 m r' v) b'
      rw [hord] at d3
      obtain ⟨o1, o2, o3, o4, o5⟩ := zOv_od (K := K) (KR := fun v b => zkm I nt LW (zcell m nt v) r b) (r := r) (q := q) (nr := nr) (om := om) (v := v) hnb
      obtain ⟨k, hk⟩ := List.getElem?_of_mem (o5 b hb hob)
      have hps := zps_at o1 hk
      have hkl := (List.getElem?_eq_some_iff.mp hk).1
      have e115 := (d3.2.1 k b hk).2
      generalize hLe : zOv K (fun v b => zkm I nt LW (zcell m nt v) r b) r q nr nb om v = L at d3 o1 o2 o3 o4 hk hps hkl
      obtain ⟨J6, g1, g2, g3⟩ := m_code (J := J3) (t := t) (u := u) (i := i) (f := f) (s := s) (x := x) (f_M_hide_62L m') d3 o3 o4 hv625 (nI r) (nI b) (nI p) (nI m) (nI ((2 * m + 1) ^ nt))
      have f5 : zfr zSg I I5 := zfr_trans i1 (zfr_trans f4 (zfr_g d2 zSg_ls))
      have e123 : I5 123 = I3 123 := by rw [zLs_row d2 123 (by decide) (by decide) (by decide), zfr_sl c2 123 rfl]
      have hb10 : b < 10 := by omega
      refine ⟨(zup I5 123 v (zB (decide (zps L b ≤ p))), J6), ⟨zfr_up f5 rfl, fun v' hv' => ?_⟩, ?_⟩
      · dsimp only
        by_cases hvv : v' = v
        · subst hvv
          rw [hLe]
          exact ⟨g3, zup_s _ _ _ _⟩
        · rw [g2 v' hvv, zup_k _ _ hvv, e123]
          exact i2 v' (by omega)
      · show f_M_hide_62L (m' + 1) _ _ _ _ _ _ _ _ = _
        rw [f_M_hide_62L]
        have n0 : vp_nar .boolean 0 = (0 : Int32) := by decide
        have n1 : vp_nar .boolean 1 = (1 : Int32) := by decide
        rw [hps]
        by_cases hkp : k ≤ p
        · have hkp2 : ¬ p < k := by omega
          rw [show zB (decide (k ≤ p)) = 1 by rw [decide_eq_true hkp]; rfl]
          simp (disch := (first | omega | assumption)) only [f_M_hide_62, f_M_hide_138, gp_12_64, wj_122, gp_12_65, gp_12_53, ai_115, wi_123, zbs, nI_add, pk_mul, znI_add1, znI_sub1, znI_subm, zle_nI, zlt_nI, zeq_nI, zle_0, zeq_0, zlt_0, zeq_m, zeq_1, zge_0, zbt0, zbt1, zB_0, zB_1, zB_b, zbool_0, zbool_1, ↓reduceIte, hle, c1, hsl, d1, g1, e115, hkp2, n1]
        · have hkp2 : p < k := by omega
          rw [show zB (decide (k ≤ p)) = 0 by rw [decide_eq_false hkp]; rfl]
          simp (disch := (first | omega | assumption)) only [f_M_hide_62, f_M_hide_138, gp_12_64, wj_122, gp_12_65, gp_12_53, ai_115, wi_123, zbs, nI_add, pk_mul, znI_add1, znI_sub1, znI_subm, zle_nI, zlt_nI, zeq_nI, zle_0, zeq_0, zlt_0, zeq_m, zeq_1, zge_0, zbt0, zbt1, zB_0, zB_1, zB_b, zbool_0, zbool_1, ↓reduceIte, hle, c1, hsl, d1, g1, e115, hkp2, n0])
    (fun m' P hi => by
      show f_M_hide_62L (m' + 1) _ _ _ _ _ _ _ _ = _
      rw [f_M_hide_62L]
      simp (disch := (first | omega | assumption)) only [f_M_hide_62, gp_12_64, wj_122, zbs, nI_add, pk_mul, znI_add1, znI_sub1, znI_subm, zle_nI, zlt_nI, zeq_nI, zle_0, zeq_0, zlt_0, zeq_m, zeq_1, zge_0, zbt0, zbt1, zB_0, zB_1, zB_b, zbool_0, zbool_1, ↓reduceIte, Nat.le_refl]) ((2 * m + 1) ^ nt) 0 (I, J) zfu (by omega) ⟨zfr_refl _ _, fun v hv => by omega⟩ (zfu_lt (by omega))
  exact ⟨I', J', a3, a1, a2⟩
end ZHm
