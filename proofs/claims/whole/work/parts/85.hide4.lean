/-! hide: all rows' orders, and the one most had -/
def zOv (K KR : Nat → Nat → Int32) (r q nr nb om v : Nat) : List Nat := zord (zKw K r (KR v)) q nr nb (zokO om) (2 ^ r)
theorem zOv_od {K KR : Nat → Nat → Int32} {r q nr nb om v : Nat} (hnb : nb ≤ 10) : (zOv K KR r q nr nb om v).Nodup ∧ (zOv K KR r q nr nb om v).length = zct (zokO om) nb ∧ (zOv K KR r q nr nb om v).length ≤ 10 ∧ (∀ b, b ∈ zOv K KR r q nr nb om v → b < 10) ∧ ∀ b, b < nb → om.testBit b = false → b ∈ zOv K KR r q nr nb om v := by
  have hO := zord_Od (K := zKw K r (KR v)) (q := q) (nr := nr) (ok := zokO om) (set := 2 ^ r) hnb
  have hc := zct_le (zokO om) nb
  refine ⟨hO.1, hO.2.1, ?_, fun b hb => ?_, fun b hb hob => (hO.2.2 b).mpr ⟨hb, by simp [zokO, hob]⟩⟩
  · unfold zOv; rw [hO.2.1]; omega
  · have := ((hO.2.2 b).mp hb).1; omega
section ZHi
variable {I : Nat → Nat → Int32} {J : Nat → Nat → Int64} {t u i f s x : Nat} {nt nb nr q sh md om im A : Nat} {LW BW : List Int32}
theorem zOe_w {I' : Nat → Nat → Int32} {c : Nat → Nat} {n : Nat} (h : zOe I J c n) (hf : zfr zSw I I') : zOe I' J c n := by
  unfold zOe
  rw [zfr_row hf 60 (fun _ => rfl), zfr_row hf 62 (fun _ => rfl), zfr_row hf 63 (fun _ => rfl)]
  exact h
theorem x_collect (hA : A = 52 ∨ A = 56) (ht : t = 2 ∨ t = 13) (hS : zSh I t nb nr q (zhm nb om)) {m r : Nat} {KR K : Nat → Nat → Int32} (hW : zRw I A nt nb m r KR) (hR : (2 * m + 1) ^ nt ≤ 625) (hr : r < nr) (hK : ∀ r' b, r' < nr → b < nb → zKx I r' b = K r' b) :
    ∃ I' J', f_O_collect (zs I J (zPt t u i f t x)) 60 47 A (nI r) = some (zs I' J' (zPt t u i f t x)) ∧ zfr zSo I I' ∧ zOe I' J' (fun v => zco (zOv K KR r q nr nb om v)) ((2 * m + 1) ^ nt) ∧ I' 60 4 = nI (zct (zokO om) nb) := by
  have hnb := hS.2.1
  have hnr := hS.2.2.2.1
  have hct : zct (fun j => (zhm nb om).testBit j) 10 = zct (zokO om) nb := by
    rw [zct_ext hnb (fun b h1 h2 => by
      cases hq : (zhm nb om).testBit b with
      | false => rfl
      | true => have := hS.2.2.2.2.2.2.2.2 b hq; omega)]
    exact zct_congr (fun b hb => zhm_ok hnb hb)
  have hbc := zbitCount (zhm nb om) hS.2.2.2.2.2.2.2.1
  rw [hct] at hbc
  have hset : 2 ^ r < 2 ^ nr := z2r hr
  have hsl : (1 : Int32) <<< (nI r &&& 31) = nI (2 ^ r) := zshl1 r (by omega)
  obtain ⟨I1, f1, g1, g2⟩ : ∃ I1, f_O_collect (zs I J (zPt t u i f t x)) 60 47 A (nI r) = f_O_collect_16L zfu (zs I1 J (zPt t u i f t x)) 60 47 A (nI r) (nI 0) ∧ zfr zSo I I1 ∧ I1 = zup (zup I 60 3 0) 60 4 (nI (zct (zokO om) nb)) := by
    refine ⟨zup (zup I 60 3 0) 60 4 (nI (zct (zokO om) nb)), ?_, zfr_up (zfr_up (zfr_refl _ _) rfl) rfl, rfl⟩
    have e1 : zup I 60 3 0 47 = I 47 := zup_ne _ _ _ (by decide)
    simp (disch := (first | omega | assumption)) only [f_O_collect, f_S_countHere, zg_5, si_5, zg_8, gi_8, zbs, nI_add, pk_mul, znI_add1, znI_sub1, znI_subm, zle_nI, zlt_nI, zeq_nI, zle_0, zeq_0, zlt_0, zeq_m, zeq_1, zge_0, zbt0, zbt1, zB_0, zB_1, zB_b, zbool_0, zbool_1, ↓reduceIte, e1, hS.2.2.2.2.2.2.1, hbc]
    rfl
  obtain ⟨⟨I', J'⟩, ⟨a1, a2, a3, a4, a5⟩, a6⟩ := zfor (fun fuel (p : (Nat → Nat → Int32) × (Nat → Nat → Int64)) v => f_O_collect_16L fuel (zs p.1 p.2 (zPt t u i f t x)) 60 47 A (nI r) (nI v)) ((2 * m + 1) ^ nt)
    (fun v p => zfr zSo I p.1 ∧ zOe p.1 p.2 (fun v => zco (zOv K KR r q nr nb om v)) v ∧ p.1 60 4 = nI (zct (zokO om) nb) ∧ (∀ r' b, r' < nr → b < nb → r' ≠ r → zKx p.1 r' b = K r' b) ∧ zRw p.1 A nt nb m r KR)
    (fun p => some (zs p.1 p.2 (zPt t u i f t x)))
    (fun m' v p hv hi => by
      obtain ⟨I3, J3⟩ := p
      obtain ⟨i1, i2, i3, i4, hW3⟩ := hi
      dsimp only at i1 i2 i3 i4 hW3
      have hle : ¬ (2 * m + 1) ^ nt ≤ v := by omega
      have hS3 : zSh I3 t nb nr q (zhm nb om) := by
        unfold zSh
        rw [zfr_row i1 t (fun k => by rcases ht with rfl | rfl <;> rfl), i1 47 1 rfl]
        exact hS
      have w1 := g_R_wear (I := I3) (J := J3) (t := t) (u := u) (i := i) (f := f) (s := t) (x := x) hA hW3 hR (show r < 6 by omega) hv
      have k4' := zwear_K (nr := nr) (K := fun r' b => zKx I3 r' b) hA hW3 hnb (show r < 6 by omega) hv (fun _ _ _ _ => rfl)
      generalize hI4 : zro I3 48 (va_cpy (I3 (A + 2)) (I3 48) (10 * v) (10 * r) 10) = I4 at w1 k4'
      have f4 : zfr zSw I3 I4 := by rw [← hI4]; exact zfr_ro (zfr_refl _ _) (fun _ => rfl)
      have k4 : ∀ r' b, r' < nr → b < nb → zKx I4 r' b = zKw K r (KR v) r' b := fun r' b hr' hb => by
        rw [k4' r' b hr' hb]
        unfold zKw
        by_cases h : r' = r
        · rw [if_pos h, if_pos h]
        · rw [if_neg h, if_neg h]
          exact i4 r' b hr' hb h
      have hS4 := zSh_w ht hS3 f4
      obtain ⟨I5, b1, b2, b3⟩ := g_S_lay (J := J3) (t := t) (u := u) (i := i) (f := f) (x := x) ht hS4 hset
      rw [zord_congr hset hnr k4 (fun b hb => zhm_ok hnb hb)] at b3
      have b3 : zLx I5 (zOv K KR r q nr nb om v) := b3
      obtain ⟨o1, o2, o3, o4, -⟩ := zOv_od (K := K) (KR := KR) (r := r) (q := q) (nr := nr) (om := om) (v := v) hnb
      have l1 := g_S_laidAsNumber (J := J3) (t := t) (u := u) (i := i) (f := f) (s := t) (x := x) b3 o3 o4
      have f5 : zfr zSw I3 I5 := zfr_trans f4 (zfr_mono b2 zXls_w)
      obtain ⟨I6, J6, c1, c2, c3⟩ := g_O_count (t := t) (u := u) (i := i) (f := f) (s := t) (x := x) (zOe_w i2 f5) (show v < 625 by omega) (fun r' _ => by
        obtain ⟨o1, o2, o3, o4, -⟩ := zOv_od (K := K) (KR := KR) (r := r) (q := q) (nr := nr) (om := om) (v := r') hnb
        exact zco_63 o3 o4)
      have c2o : zfr zSo I5 I6 := zfr_mono c2 (fun a k h => by
        simp at h
        rcases h with (rfl | rfl) | ⟨rfl, rfl⟩ <;> rfl)
      have f6 : zfr zSo I3 I6 := zfr_trans (zfr_mono f5 zSo_w) c2o
      refine ⟨(I6, J6), ⟨zfr_trans i1 f6, c3, ?_, fun r' b hr' hb hne => ?_, ?_⟩, ?_⟩
      · dsimp only
        rw [c2 60 4 rfl, zfr_row f5 60 (fun _ => rfl)]
        exact i3
      · dsimp only
        have e : zKx I6 = zKx I4 := by
          unfold zKx
          rw [zfr_row c2 48 (fun _ => rfl), zXls_row b2 48 (by decide) (by decide) (by decide)]
        rw [e, k4 r' b hr' hb]
        unfold zKw
        rw [if_neg hne]
      · dsimp only
        have h5 := zRw_fr hA hW3 f5
        unfold zRw
        rw [zfr_row c2 A (fun k => by rcases hA with rfl | rfl <;> rfl), zfr_row c2 (A + 1) (fun k => by rcases hA with rfl | rfl <;> rfl), zfr_row c2 (A + 2) (fun k => by rcases hA with rfl | rfl <;> rfl)]
        exact h5
      · show f_O_collect_16L (m' + 1) _ _ _ _ _ _ = _
        rw [f_O_collect_16L]
        simp (disch := (first | omega | assumption)) only [f_O_collect_16, f_R_size, zg_6, gi_6, zbs, nI_add, pk_mul, znI_add1, znI_sub1, znI_subm, zle_nI, zlt_nI, zeq_nI, zle_0, zeq_0, zlt_0, zeq_m, zeq_1, zge_0, zbt0, zbt1, zB_0, zB_1, zB_b, zbool_0, zbool_1, ↓reduceIte, hW3.2.2.1, hle, w1, hsl, b1, l1, c1])
    (fun m' p hi => by
      show f_O_collect_16L (m' + 1) _ _ _ _ _ _ = _
      rw [f_O_collect_16L]
      simp (disch := (first | omega | assumption)) only [f_O_collect_16, f_R_size, zg_6, gi_6, zbs, nI_add, pk_mul, znI_add1, znI_sub1, znI_subm, zle_nI, zlt_nI, zeq_nI, zle_0, zeq_0, zlt_0, zeq_m, zeq_1, zge_0, zbt0, zbt1, zB_0, zB_1, zB_b, zbool_0, zbool_1, ↓reduceIte, hi.2.2.2.2.2.2.1, Nat.le_refl]) ((2 * m + 1) ^ nt) 0 (I1, J) zfu (by omega) ⟨g1, ⟨by rw [g2]; rfl, fun k r h => by simp [zE] at h⟩, by show I1 60 4 = _; rw [g2]; exact zup_s _ _ _ _, fun r' b hr' hb _ => by
        have e : zKx I1 = zKx I := by rw [g2]; unfold zKx; rw [zup_ne _ _ _ (by decide), zup_ne _ _ _ (by decide)]
        show zKx I1 r' b = _
        rw [e]; exact hK r' b hr' hb, by
        show zRw I1 A nt nb m r KR
        rw [g2]
        unfold zRw
        have e : ∀ B, B ≠ 60 → zup (zup I 60 3 0) 60 4 (nI (zct (zokO om) nb)) B = I B := fun B hB => by rw [zup_ne _ _ _ hB, zup_ne _ _ _ hB]
        rw [e A (by omega), e (A + 1) (by omega), e (A + 2) (by omega)]
        exact hW⟩ (zfu_lt (by omega))
  exact ⟨I', J', by rw [f1]; exact a6, a1, a2, a3⟩
theorem x_mostHad {c pl : Nat → Nat} {R b p : Nat} (hO : zOe I J c R) (hR : R ≤ 625) (hp : p < 10) (hpl : ∀ k r, (zE c R)[k]? = some r → f_O_placeIn (zs I J (zPt t u i f s x)) 60 (J 61 k) (nI b) = some (nI (pl r)) ∧ pl r ≤ 10) {P : Nat × Nat} (hP : P = (zE c R).foldl (zhs (fun r => decide (pl r ≤ p)) (fun r => zcnt c R (c r))) (0, 0)) :
    ∃ v, f_O_mostHad (zs I J (zPt t u i f s x)) 60 (nI b) (nI p) = some v ∧ ((P.2 = 0 ∧ v = -1) ∨ (0 < P.2 ∧ ∃ h, (zE c R)[h]? = some P.1 ∧ zcnt c R (c P.1) = P.2 ∧ v = nI h)) := by
  have hlen := zE_len c R
  have key := zfor (fun fuel (v : Int32) k => f_O_mostHad_5L fuel (zs I J (zPt t u i f s x)) 60 (nI b) (nI p) v (nI k)) (zE c R).length
    (fun k v => ((((zE c R).take k).foldl (zhs (fun r => decide (pl r ≤ p)) (fun r => zcnt c R (c r))) (0, 0)).2 = 0 ∧ v = -1) ∨ (0 < (((zE c R).take k).foldl (zhs (fun r => decide (pl r ≤ p)) (fun r => zcnt c R (c r))) (0, 0)).2 ∧ ∃ h, (zE c R)[h]? = some (((zE c R).take k).foldl (zhs (fun r => decide (pl r ≤ p)) (fun r => zcnt c R (c r))) (0, 0)).1 ∧ zcnt c R (c (((zE c R).take k).foldl (zhs (fun r => decide (pl r ≤ p)) (fun r => zcnt c R (c r))) (0, 0)).1) = (((zE c R).take k).foldl (zhs (fun r => decide (pl r ≤ p)) (fun r => zcnt c R (c r))) (0, 0)).2 ∧ v = nI h))
    (fun v => some v)
    (fun m' k v hk hi => by
      have hle : ¬ (zE c R).length ≤ k := by omega
      have hg := List.getElem?_eq_getElem hk
      obtain ⟨e1, e2, e3⟩ := hO.2 k _ hg
      have hrn := zE_mem c R _ (List.getElem_mem hk)
      obtain ⟨q1, q2⟩ := hpl k _ hg
      have hcp : 0 < zcnt c R (c (zE c R)[k]) := zcnt_pos hrn
      have hcl := zcnt_le c R (c (zE c R)[k])
      have et : ((zE c R).take (k + 1)).foldl (zhs (fun r => decide (pl r ≤ p)) (fun r => zcnt c R (c r))) (0, 0) = zhs (fun r => decide (pl r ≤ p)) (fun r => zcnt c R (c r)) (((zE c R).take k).foldl (zhs (fun r => decide (pl r ≤ p)) (fun r => zcnt c R (c r))) (0, 0)) (zE c R)[k] := by
        rw [List.take_add_one, hg, List.foldl_append]
        rfl
      rw [et]
      show ∃ s', _ ∧ f_O_mostHad_5L (m' + 1) _ _ _ _ _ _ = _
      rw [f_O_mostHad_5L]
      generalize ((zE c R).take k).foldl (zhs (fun r => decide (pl r ≤ p)) (fun r => zcnt c R (c r))) (0, 0) = Q at hi ⊢
      generalize (zE c R)[k] = r at *
      by_cases hpp : pl r ≤ p
      · have hnp : ¬ p < pl r := by omega
        rcases hi with ⟨h0, rfl⟩ | ⟨h0, h, h1, h2, rfl⟩
        · refine ⟨nI k, Or.inr ?_, ?_⟩
          · unfold zhs
            rw [if_pos ⟨by simpa using hpp, by show Q.2 < zcnt c R (c r); omega⟩]
            exact ⟨hcp, k, hg, rfl, rfl⟩
          · simp (disch := (first | omega | assumption)) only [f_O_mostHad_5, gi_5, gp_5_0, gp_5_2, aj_61, ai_63, zbs, nI_add, pk_mul, znI_add1, znI_sub1, znI_subm, zle_nI, zlt_nI, zeq_nI, zle_0, zeq_0, zlt_0, zeq_m, zeq_1, zge_0, zbt0, zbt1, zB_0, zB_1, zB_b, zbool_0, zbool_1, ↓reduceIte, hO.1, hle, q1, hnp]
        · have hh := (List.getElem?_eq_some_iff.mp h1).1
          have e4 := (hO.2 h _ h1).2.2
          have hh625 : h < 625 := by omega
          have hk625 : k < 625 := by omega
          have hcl2 := zcnt_le c R (c Q.1)
          by_cases hcc : zcnt c R (c r) ≤ zcnt c R (c Q.1)
          · refine ⟨nI h, Or.inr ?_, ?_⟩
            · unfold zhs
              rw [if_neg (by rintro ⟨-, h'⟩; have h' : Q.2 < zcnt c R (c r) := h'; omega)]
              exact ⟨h0, h, h1, h2, rfl⟩
            · simp (disch := (first | omega | assumption)) only [f_O_mostHad_5, gi_5, gp_5_0, gp_5_2, aj_61, ai_63, zbs, nI_add, pk_mul, znI_add1, znI_sub1, znI_subm, zle_nI, zlt_nI, zeq_nI, zle_0, zeq_0, zlt_0, zeq_m, zeq_1, zge_0, zbt0, zbt1, zB_0, zB_1, zB_b, zbool_0, zbool_1, ↓reduceIte, hO.1, hle, q1, hnp, e3, e4, hcc]
          · refine ⟨nI k, Or.inr ?_, ?_⟩
            · unfold zhs
              rw [if_pos ⟨by simpa using hpp, by show Q.2 < zcnt c R (c r); omega⟩]
              exact ⟨hcp, k, hg, rfl, rfl⟩
            · simp (disch := (first | omega | assumption)) only [f_O_mostHad_5, gi_5, gp_5_0, gp_5_2, aj_61, ai_63, zbs, nI_add, pk_mul, znI_add1, znI_sub1, znI_subm, zle_nI, zlt_nI, zeq_nI, zle_0, zeq_0, zlt_0, zeq_m, zeq_1, zge_0, zbt0, zbt1, zB_0, zB_1, zB_b, zbool_0, zbool_1, ↓reduceIte, hO.1, hle, q1, hnp, e3, e4, hcc]
      · have hnp : p < pl r := by omega
        refine ⟨v, ?_, ?_⟩
        · unfold zhs
          rw [if_neg (by rintro ⟨h', -⟩; exact hpp (by simpa using h'))]
          exact hi
        · simp (disch := (first | omega | assumption)) only [f_O_mostHad_5, gi_5, gp_5_0, gp_5_2, aj_61, ai_63, zbs, nI_add, pk_mul, znI_add1, znI_sub1, znI_subm, zle_nI, zlt_nI, zeq_nI, zle_0, zeq_0, zlt_0, zeq_m, zeq_1, zge_0, zbt0, zbt1, zB_0, zB_1, zB_b, zbool_0, zbool_1, ↓reduceIte, hO.1, hle, q1, hnp])
    (fun m' v hi => by
      show f_O_mostHad_5L (m' + 1) _ _ _ _ _ _ = _
      rw [f_O_mostHad_5L]
      simp (disch := (first | omega | assumption)) only [f_O_mostHad_5, gi_5, gp_5_0, gp_5_2, aj_61, ai_63, zbs, nI_add, pk_mul, znI_add1, znI_sub1, znI_subm, zle_nI, zlt_nI, zeq_nI, zle_0, zeq_0, zlt_0, zeq_m, zeq_1, zge_0, zbt0, zbt1, zB_0, zB_1, zB_b, zbool_0, zbool_1, ↓reduceIte, hO.1, Nat.le_refl]) (zE c R).length 0 (-1) zfu (by omega) (Or.inl ⟨rfl, rfl⟩) (zfu_lt (by omega))
  obtain ⟨v, k1, k2⟩ := key
  rw [List.take_length, ← hP] at k1
  refine ⟨v, ?_, k1⟩
  simp (disch := (first | omega | assumption)) only [f_O_mostHad, zg_5, zbs, nI_add, pk_mul, znI_add1, znI_sub1, znI_subm, zle_nI, zlt_nI, zeq_nI, zle_0, zeq_0, zlt_0, zeq_m, zeq_1, zge_0, zbt0, zbt1, zB_0, zB_1, zB_b, zbool_0, zbool_1, ↓reduceIte]
  exact k2
end ZHi
