/-! leads, the reference's half -/
section ZLf2
variable {I : Nat → Nat → Int32} {J : Nat → Nat → Int64} {t u i f s x : Nat} {nt nb nr q sh md om im N M : Nat} {LW BW : List Int32}
theorem zKr_111 (I : Nat → Nat → Int32) (nt : Nat) (LW : List Int32) (r b : Nat) : zkm I nt LW (zhd I r (I 111 (24 + r))) r b = zKr I (I 111) nt LW r b := rfl
theorem zlr_31 {row : Nat → Int32} (r k : Nat) (hr : r < 6) (hnt : nt ≤ 4) : zlr I nt nb om LW BW r k row 31 = row 31 := by
  unfold zlr zread
  rw [if_neg (by omega), if_neg (by omega)]
theorem m_leads (hC : zCo I t nt nb nr q sh md om im LW BW) {r n : Nat} (hr : r < nr) (h1 : 1 ≤ n) (h60 : n ≤ 60) (hall : ¬ zbc om = nb) :
    ∃ I3, f_M_leads_39L zfu (zs I J (zPt t u i f s x)) 91 (nI r) (nI n) 0 = some (nI (zlb I nt nb om LW r (zrn (zlr I nt nb om LW BW r) (n - 1) 0 (I 111))), (zs I3 J (zPt t u i f s x))) ∧ zfr zSg I I3 := by
  have hM := hC.2.1.1
  have hnb := hM.2.1.2
  have hnr := hM.2.2.1.2
  have hnt := hM.1.2
  have hq := hC.2.1.2.2.1
  have homb := hC.2.2.2.2.1.2
  have hom := z2n hnb homb
  -- kept
  obtain ⟨I1, ⟨k1, k2⟩, k3⟩ := zfor (fun fuel I' k => f_M_leads_39L fuel (zs I' J (zPt t u i f s x)) 91 (nI r) (nI n) (nI k)) 92 (fun k I' => zfr (zSl [121]) I I' ∧ ∀ j, j < k → I' 121 j = I 111 j) (fun I' => f_M_leads_68L zfu (zs I' J (zPt t u i f s x)) 91 (nI r) (nI n) (-1) 0)
    (fun m k I' hk hi => by
      have hle : ¬ 92 ≤ k := by omega
      have e : I' 111 = I 111 := zfr_sl hi.1 111 rfl
      refine ⟨zup I' 121 k (I 111 k), ⟨zfr_up hi.1 rfl, fun j hj => ?_⟩, ?_⟩
      · by_cases hjk : j = k
        · subst hjk; exact zup_s _ _ _ _
        · rw [zup_k _ _ hjk]; exact hi.2 j (by omega)
      · show f_M_leads_39L (m + 1) _ _ _ _ _ = _
        rw [f_M_leads_39L]
        simp (disch := (first | omega | assumption)) only [f_M_leads_39, gp_12_63, gp_12_49, ai_111, wi_121, ge92, zbs, nI_add, pk_mul, znI_add1, znI_sub1, znI_subm, zle_nI, zlt_nI, zeq_nI, zle_0, zeq_0, zlt_0, zeq_m, zeq_1, zge_0, zbt0, zbt1, zB_0, zB_1, zB_b, zbool_0, zbool_1, ↓reduceIte, hle, e])
    (fun m I' hi => by
      show f_M_leads_39L (m + 1) _ _ _ _ _ = _
      rw [f_M_leads_39L]
      simp (disch := (first | omega | assumption)) only [f_M_leads_39, gp_12_63, gp_12_49, ai_111, wi_121, ge92, zbs, nI_add, pk_mul, znI_add1, znI_sub1, znI_subm, zle_nI, zlt_nI, zeq_nI, zle_0, zeq_0, zlt_0, zeq_m, zeq_1, zge_0, zbt0, zbt1, zB_0, zB_1, zB_b, zbool_0, zbool_1, ↓reduceIte, Nat.le_refl]) 92 0 I zfu (by omega) ⟨zfr_refl _ _, fun j hj => by omega⟩ (zfu_lt (by decide))
  -- read n times
  obtain ⟨Q, ⟨g1, g2, g3, g4⟩, g5⟩ := zfor (fun fuel (p : (Nat → Nat → Int32) × Int32) k => f_M_leads_68L fuel (zs p.1 J (zPt t u i f s x)) 91 (nI r) (nI n) p.2 (nI k)) n
    (fun k p => zfr (fun b j => zSg b j || b == 111) I p.1 ∧ p.1 111 = zrn (zlr I nt nb om LW BW r) k 0 (I 111) ∧ (1 ≤ k → p.2 = nI (zlb I nt nb om LW r (zrn (zlr I nt nb om LW BW r) (k - 1) 0 (I 111)))) ∧ ∀ j, j < 92 → p.1 121 j = I 111 j)
    (fun p => f_M_leads_108L zfu (zs p.1 J (zPt t u i f s x)) 91 p.2 0)
    (fun m k p hk hi => by
      obtain ⟨I4, v⟩ := p
      obtain ⟨i1, i2, i3, i4⟩ := hi
      dsimp only at i1 i2 i3 i4
      have fr : ∀ a, (∀ k, zSg a k = false) → a ≠ 111 → I4 a = I a := fun a ha h => zfr_row i1 a (fun k => by simp [ha k, h])
      have f91 : ∀ k, zSg 91 k = false → I4 91 k = I 91 k := fun k h => i1 91 k (by simp [h])
      have hM4 : zMd I4 nt nb nr LW := zMd_fr hM (fun k hk => f91 k (by rcases hk with rfl | rfl | rfl | rfl <;> rfl)) (fr 97 (fun _ => rfl) (by decide)) (fr 98 (fun _ => rfl) (by decide)) (fr 99 (fun _ => rfl) (by decide))
      obtain ⟨I5, a1, a2, a3, -, -⟩ := g_M_layOwn (J := J) (t := t) (u := u) (i := i) (f := f) (s := s) (x := x) hM4 (show r < 6 by omega)
      have e5 : ∀ a, [101, 102, 112, 113].contains a = false → I5 a = I4 a := fun a h => zfr_sl a2 a h
      have row31 : I4 111 31 = nI om := by
        rw [i2]
        have : ∀ d, zrn (zlr I nt nb om LW BW r) d 0 (I 111) 31 = I 111 31 := by
          intro d
          induction d with
          | zero => rfl
          | succ d ih => rw [zrn_succ, zlr_31 r _ (by omega) hnt, ih]
        rw [this]
        exact hC.2.2.2.2.1.1
      have hM5 : zMd I5 nt nb nr LW := zMd_sl hM4 a2 ⟨rfl, rfl, rfl, rfl⟩
      obtain ⟨I6, b1, b2, b3⟩ := g_M_layOrder (J := J) (t := t) (u := u) (i := i) (f := f) (s := s) (x := x) hM5.2.1.1 hnb (by rw [e5 111 rfl]; exact row31) hom hM5.2.2.1.1 hnr (by rw [e5 91 rfl, f91 44 rfl]; exact hq.1) hq.2.2 (z64 hnr (z2r hr))
      have e6 : ∀ a, a ≠ 114 → a ≠ 115 → a ≠ 91 → I6 a = I5 a := fun a h1 h2 h3 => zLs_row b2 a h1 h2 h3
      have krf : zKr I4 (I4 111) nt LW = zKr I (zrn (zlr I nt nb om LW BW r) k 0 (I 111)) nt LW := by
        rw [zKr_fr (fr 107 (fun _ => rfl) (by decide)) (fr 109 (fun _ => rfl) (by decide)) (f91 46 rfl), i2]
      have hbest := zlb_some (I := I) (nt := nt) (LW := LW) hnb homb hall r (zrn (zlr I nt nb om LW BW r) k 0 (I 111))
      have hhead : (zord (zKm I5) q nr nb (zokO om) (2 ^ r))[0]? = some (zlb I nt nb om LW r (zrn (zlr I nt nb om LW BW r) k 0 (I 111))) := by
        rw [zord_head hr hnr, ← hbest.1]
        refine zbest_congr (fun _ _ => rfl) (fun b hb _ => ?_)
        show I5 113 (10 * r + b) = _
        rw [a3 b hb, zKr_111, krf]
      have hv := (b3.2.1 0 _ hhead).1
      generalize hbb : zlb I nt nb om LW r (zrn (zlr I nt nb om LW BW r) k 0 (I 111)) = b at hv hbest hhead
      have hbn := hbest.2
      have r111 : I6 111 = I4 111 := by rw [e6 111 (by decide) (by decide) (by decide), e5 111 rfl]
      have r107 : I6 107 = I 107 := by rw [e6 107 (by decide) (by decide) (by decide), e5 107 rfl, fr 107 (fun _ => rfl) (by decide)]
      have r97 : I6 97 = I 97 := by rw [e6 97 (by decide) (by decide) (by decide), e5 97 rfl, fr 97 (fun _ => rfl) (by decide)]
      have r98 : I6 98 = I 98 := by rw [e6 98 (by decide) (by decide) (by decide), e5 98 rfl, fr 98 (fun _ => rfl) (by decide)]
      have r99 : I6 99 = I 99 := by rw [e6 99 (by decide) (by decide) (by decide), e5 99 rfl, fr 99 (fun _ => rfl) (by decide)]
      have q91 : ∀ k, zSg 91 k = false → k ≠ 54 → I6 91 k = I 91 k := fun k h h2 => by rw [zLs_91 b2 k h2, e5 91 rfl, f91 k h]
      have hBm : zBm I6 BW := by
        have h := zBd_m hC.2.1.2.2.2.2.2.2.2.2.2
        unfold zBm
        rw [q91 48 rfl (by decide), r97, r98, r99]
        exact h
      have hnbk := zlr_nb hC hall hr k
      obtain ⟨I7, c1, c2, c3⟩ := m_reads (J := J) (t := t) (u := u) (i := i) (f := f) (s := s) (x := x) (by rw [q91 41 rfl (by decide)]; exact hM.1.1) hnt hBm (show r < 6 by omega) (show b < 10 by omega) (by rw [r111, i2]; exact hnbk.1)
      have f7 : zfr (fun b j => zSg b j || b == 111) I I7 := by
        refine zfr_trans i1 (zfr_trans (zfr_mono a2 (fun a k h => ?_)) (zfr_trans (zfr_mono b2 (fun a k h => ?_)) (zfr_mono c2 (fun a k h => ?_))))
        · have : a = 101 ∨ a = 102 ∨ a = 112 ∨ a = 113 := by simpa [zSl] using h
          rcases this with rfl | rfl | rfl | rfl <;> rfl
        · have := zSg_ls a k h
          simp [this]
        · have : a = 101 ∨ a = 102 ∨ a = 111 := by simpa [zSl] using h
          rcases this with rfl | rfl | rfl
          · rfl
          · rfl
          · simp
      refine ⟨(I7, nI b), ⟨f7, ?_, fun _ => ?_, fun j hj => ?_⟩, ?_⟩
      · show I7 111 = _
        rw [c3, r111, r107, i2, zrn_succ, ← hbb]
        rfl
      · show nI b = _
        rw [Nat.add_sub_cancel, hbb]
      · show I7 121 j = _
        rw [zfr_sl c2 121 rfl, e6 121 (by decide) (by decide) (by decide), e5 121 rfl]
        exact i4 j hj
      · have hle : ¬ n ≤ k := by omega
        show f_M_leads_68L (m + 1) _ _ _ _ _ _ = _
        rw [f_M_leads_68L]
        simp (disch := (first | omega | assumption)) only [f_M_leads_68, gp_12_52, al_114_0, zbs, nI_add, pk_mul, znI_add1, znI_sub1, znI_subm, zle_nI, zlt_nI, zeq_nI, zle_0, zeq_0, zlt_0, zeq_m, zeq_1, zge_0, zbt0, zbt1, zB_0, zB_1, zB_b, zbool_0, zbool_1, ↓reduceIte, hle, a1, zshl1 r (by omega), b1, hv, c1])
    (fun m p hi => by
      show f_M_leads_68L (m + 1) _ _ _ _ _ _ = _
      rw [f_M_leads_68L]
      simp (disch := (first | omega | assumption)) only [f_M_leads_68, gp_12_52, al_114_0, zbs, nI_add, pk_mul, znI_add1, znI_sub1, znI_subm, zle_nI, zlt_nI, zeq_nI, zle_0, zeq_0, zlt_0, zeq_m, zeq_1, zge_0, zbt0, zbt1, zB_0, zB_1, zB_b, zbool_0, zbool_1, ↓reduceIte, Nat.le_refl]) n 0 (I1, -1) zfu (by omega) ⟨zfr_mono k1 (fun a k h => by
        have : a = 121 := by simpa [zSl] using h
        subst this
        rfl), zfr_sl k1 111 rfl, (fun h => by omega), k2⟩ (zfu_lt (by omega))
  -- as it was
  obtain ⟨I8, ⟨z1, z2⟩, z3⟩ := zfor (fun fuel I' k => f_M_leads_108L fuel (zs I' J (zPt t u i f s x)) 91 Q.2 (nI k)) 92 (fun k I' => zfr (zSl [111]) Q.1 I' ∧ ∀ j, I' 111 j = if j < k then I 111 j else Q.1 111 j) (fun I' => some (Q.2, (zs I' J (zPt t u i f s x))))
    (fun m k I' hk hi => by
      have hle : ¬ 92 ≤ k := by omega
      have e : I' 121 = Q.1 121 := zfr_sl hi.1 121 rfl
      have e2 := g4 k hk
      refine ⟨zup I' 111 k (I 111 k), ⟨zfr_up hi.1 rfl, fun j => ?_⟩, ?_⟩
      · by_cases hjk : j = k
        · subst hjk
          rw [zup_s, if_pos (by omega)]
        · rw [zup_k _ _ hjk, hi.2 j]
          by_cases hj : j < k
          · rw [if_pos hj, if_pos (by omega)]
          · rw [if_neg hj, if_neg (by omega)]
      · show f_M_leads_108L (m + 1) _ _ _ _ = _
        rw [f_M_leads_108L]
        simp (disch := (first | omega | assumption)) only [f_M_leads_108, gp_12_49, gp_12_63, ai_121, wi_111, ge92, zbs, nI_add, pk_mul, znI_add1, znI_sub1, znI_subm, zle_nI, zlt_nI, zeq_nI, zle_0, zeq_0, zlt_0, zeq_m, zeq_1, zge_0, zbt0, zbt1, zB_0, zB_1, zB_b, zbool_0, zbool_1, ↓reduceIte, hle, e, e2])
    (fun m I' hi => by
      show f_M_leads_108L (m + 1) _ _ _ _ = _
      rw [f_M_leads_108L]
      simp (disch := (first | omega | assumption)) only [f_M_leads_108, gp_12_49, gp_12_63, ai_121, wi_111, ge92, zbs, nI_add, pk_mul, znI_add1, znI_sub1, znI_subm, zle_nI, zlt_nI, zeq_nI, zle_0, zeq_0, zlt_0, zeq_m, zeq_1, zge_0, zbt0, zbt1, zB_0, zB_1, zB_b, zbool_0, zbool_1, ↓reduceIte, Nat.le_refl]) 92 0 Q.1 zfu (by omega) ⟨zfr_refl _ _, fun j => by rw [if_neg (by omega)]⟩ (zfu_lt (by decide))
  refine ⟨I8, ?_, ?_⟩
  · rw [g3 h1] at z3 g5
    exact Eq.trans k3 (Eq.trans g5 z3)
  · refine zfr_fix (a := 111) (zfr_trans g1 (zfr_mono z1 (fun a k h => ?_))) ?_
    · have : a = 111 := by simpa [zSl] using h
      simp [this]
    · funext j
      rw [z2 j]
      by_cases hj : j < 92
      · rw [if_pos hj]
      · rw [if_neg hj, g2]
        have : ∀ d, zrn (zlr I nt nb om LW BW r) d 0 (I 111) j = I 111 j := by
          intro d
          induction d with
          | zero => rfl
          | succ d ih =>
            rw [zrn_succ]
            have hb := (zlb_some (I := I) (nt := nt) (LW := LW) hnb homb hall r (zrn (zlr I nt nb om LW BW r) d 0 (I 111))).2
            generalize zrn (zlr I nt nb om LW BW r) d 0 (I 111) = row at ih hb
            unfold zlr zread
            rw [if_neg (by omega), if_neg (by omega)]
            exact ih
        exact this n
theorem zall_iff (hnb : nb ≤ 10) (hom : om < 2 ^ nb) : om = 2 ^ nb - 1 ↔ zbc om = nb := by
  have hct := zok_ct hnb hom
  constructor
  · intro h
    have h0 : zct (zokO om) nb = 0 := zct_0 (fun b hb => by
      unfold zokO
      rw [h, Nat.testBit_two_pow_sub_one]
      simp [hb])
    omega
  · intro h
    have h0 : zct (zokO om) nb = 0 := by omega
    apply Nat.eq_of_testBit_eq
    intro j
    rw [Nat.testBit_two_pow_sub_one]
    by_cases hj : j < nb
    · cases hq : om.testBit j with
      | true => simp [hj]
      | false =>
        have := zct_pos (p := zokO om) hj (by simp [zokO, hq])
        omega
    · rw [Nat.testBit_lt_two_pow (Nat.lt_of_lt_of_le hom (Nat.pow_le_pow_right (by decide) (by omega)))]
      simp [hj]
theorem g_W_noneHere (hC : zCo I t nt nb nr q sh md om im LW BW) : f_W_noneHere (zs I J (zPt t u i f s x)) 0 = some (zB (decide (zbc om = nb))) := by
  have ht := hC.1
  have hnb := hC.2.1.1.2.1.2
  have homb := hC.2.2.2.2.1.2
  have h4 : I 30 4 = nI om := hC.2.2.1.2.2.2.1.trans hC.2.2.2.2.1.1
  have h1 : I t 1 = nI nb := hC.2.1.2.1.2.1.1
  have hp := zp2 hnb
  have hp0 : 0 < 2 ^ nb := Nat.two_pow_pos nb
  obtain ⟨p, hpp⟩ : ∃ p, 2 ^ nb = p + 1 := ⟨2 ^ nb - 1, by omega⟩
  have e : (1 : Int32) <<< (nI nb &&& 31) - 1 = nI (2 ^ nb - 1) := by
    rw [zshl1 nb (by omega), hpp, znI_sub1]
    rfl
  have hi := zall_iff hnb homb
  by_cases hq : om = 2 ^ nb - 1
  · have h2 := hi.mp hq
    have h5 : nI om = nI (2 ^ nb - 1) := by rw [← hq]
    simp (disch := (first | omega | assumption)) only [f_W_noneHere, zg_11, gi_4, gi_10, gp_11_5, gp_11_2, zbs, h4, h1, e, h5, zbool_1, ↓reduceIte]
    rw [h2]
    simp [zB]
  · have h2 : ¬ zbc om = nb := fun h => hq (hi.mpr h)
    have h5 : ¬ nI om = nI (2 ^ nb - 1) := fun h => hq ((nI_eq (by omega) (by omega)).mp h)
    simp (disch := (first | omega | assumption)) only [f_W_noneHere, zg_11, gi_4, gi_10, gp_11_5, gp_11_2, zbs, h4, h1, e, h5, zbool_0, ↓reduceIte]
    simp [h2, zB]
theorem q_leads (hC : zCo I t nt nb nr q sh md om im LW BW) (r n : Int32) : zOK2 I J t u i f s x (fun σ => f_W_leads σ 0 r n) (fun σ => f_M_leads σ 91 r n) := by
  have hC2 := hC
  obtain ⟨ht, ⟨hM, hX, -, hsh, -⟩, hN, -, ho, him, -⟩ := hC
  have hnb := hM.2.1.2
  have hnr := hM.2.2.1.2
  have x1 := g_W_isReader (J := J) (t := t) (u := u) (i := i) (f := f) (s := s) (x := x) ht hX.2.2.1.1 r
  have m1 := g_M_isReader (J := J) (t := t) (u := u) (i := i) (f := f) (s := s) (x := x) hM.2.2.1.1 hM.2.2.1.2 r
  have mm := g_M_members (k := om) (z2n hnb ho.2)
  have x3 := g_W_noneHere (J := J) (t := t) (u := u) (i := i) (f := f) (s := s) (x := x) hC2
  have hct := zok_ct hnb ho.2
  rcases zlt_cases r (n := nr) (by omega) with ⟨hr, r, hrn, rfl⟩ | hr
  · rw [hr] at x1 m1
    by_cases hn1 : n < 1
    · refine ⟨-1, I, J, s, I, J, ?_, ?_, zfr_refl _ _, Or.inl rfl⟩
      · show f_W_leads _ 0 _ _ = _
        simp (disch := (first | omega | assumption)) only [f_W_leads, zg_11, gp_11_6, gp_11_5, gp_11_9, gp_11_2, gt60, zbs, nI_add, pk_mul, znI_add1, znI_sub1, znI_subm, zle_nI, zlt_nI, zeq_nI, zle_0, zeq_0, zlt_0, zeq_m, zeq_1, zge_0, zbt0, zbt1, zB_0, zB_1, zB_b, zbool_0, zbool_1, ↓reduceIte, x1, hn1, Bool.true_eq_false]
      · show f_M_leads _ 91 _ _ = _
        simp (disch := (first | omega | assumption)) only [f_M_leads, f_M_isIn, zg_12, gi_12, gp_12_49, al_111_31, zbs, nI_add, pk_mul, znI_add1, znI_sub1, znI_subm, zle_nI, zlt_nI, zeq_nI, zle_0, zeq_0, zlt_0, zeq_m, zeq_1, zge_0, zbt0, zbt1, zB_0, zB_1, zB_b, zbool_0, zbool_1, ↓reduceIte, m1, hn1, Bool.true_eq_false]
    · by_cases hn60 : 60 < n
      · refine ⟨-1, I, J, s, I, J, ?_, ?_, zfr_refl _ _, Or.inl rfl⟩
        · show f_W_leads _ 0 _ _ = _
          simp (disch := (first | omega | assumption)) only [f_W_leads, zg_11, gp_11_6, gp_11_5, gp_11_9, gp_11_2, gt60, zbs, nI_add, pk_mul, znI_add1, znI_sub1, znI_subm, zle_nI, zlt_nI, zeq_nI, zle_0, zeq_0, zlt_0, zeq_m, zeq_1, zge_0, zbt0, zbt1, zB_0, zB_1, zB_b, zbool_0, zbool_1, ↓reduceIte, x1, hn1, hn60, Bool.true_eq_false]
        · show f_M_leads _ 91 _ _ = _
          simp (disch := (first | omega | assumption)) only [f_M_leads, f_M_isIn, zg_12, gi_12, gp_12_49, al_111_31, zbs, nI_add, pk_mul, znI_add1, znI_sub1, znI_subm, zle_nI, zlt_nI, zeq_nI, zle_0, zeq_0, zlt_0, zeq_m, zeq_1, zge_0, zbt0, zbt1, zB_0, zB_1, zB_b, zbool_0, zbool_1, ↓reduceIte, m1, hn1, hn60, Bool.true_eq_false]
      · have n10 : ¬ (1 : Int32) = 0 := by decide
        by_cases hall : zbc om = nb
        · rw [decide_eq_true hall] at x3
          have hb6 : zbc om < 2 ^ 31 := by omega
          refine ⟨-1, I, J, s, I, J, ?_, ?_, zfr_refl _ _, Or.inl rfl⟩
          · show f_W_leads _ 0 _ _ = _
            simp (disch := (first | omega | assumption)) only [f_W_leads, zg_11, gp_11_6, gp_11_5, gp_11_9, gp_11_2, gt60, zbs, nI_add, pk_mul, znI_add1, znI_sub1, znI_subm, zle_nI, zlt_nI, zeq_nI, zle_0, zeq_0, zlt_0, zeq_m, zeq_1, zge_0, zbt0, zbt1, zB_0, zB_1, zB_b, zbool_0, zbool_1, ↓reduceIte, x1, hn1, hn60, x3, Bool.true_eq_false]
          · show f_M_leads _ 91 _ _ = _
            simp (disch := (first | omega | assumption)) only [f_M_leads, f_M_isIn, zg_12, gi_12, gp_12_49, al_111_31, zbs, nI_add, pk_mul, znI_add1, znI_sub1, znI_subm, zle_nI, zlt_nI, zeq_nI, zle_0, zeq_0, zlt_0, zeq_m, zeq_1, zge_0, zbt0, zbt1, zB_0, zB_1, zB_b, zbool_0, zbool_1, ↓reduceIte, m1, hn1, hn60, n10, ho.1, mm, hM.2.1.1, hall, Bool.true_eq_false]
        · rw [decide_eq_false hall] at x3
          obtain ⟨k, hk, rfl⟩ : ∃ k, k ≤ 60 ∧ n = nI k := by
            have h0 : ¬ n < 0 := fun h => hn1 (Int32.lt_trans h (by decide))
            obtain ⟨k, hk, rfl⟩ := nI_of h0
            refine ⟨k, ?_, rfl⟩
            rw [gt60 hk] at hn60
            omega
          have hk1 : 1 ≤ k := by
            rw [zlt_1 (by omega)] at hn1
            omega
          obtain ⟨I1, I2, I3, a1, a2, a3, a4, a5⟩ := x_leads (J := J) (t := t) (u := u) (i := i) (f := f) (s := s) (x := x) hC2 hrn hk1 hk hall
          have hC3 := zCo_fr hC2 a5
          obtain ⟨I4, b1, b2⟩ := m_leads (J := J) (t := t) (u := u) (i := i) (f := f) (s := t) (x := x) hC3 hrn hk1 hk hall
          have same : zlb I3 nt nb om LW r (zrn (zlr I3 nt nb om LW BW r) (k - 1) 0 (I3 111)) = zlb I nt nb om LW r (zrn (zlr I nt nb om LW BW r) (k - 1) 0 (I 111)) := by
            have h107 : I3 107 = I 107 := zfr_row a5 107 (fun _ => rfl)
            have hkr : ∀ row, zKr I3 row nt LW = zKr I row nt LW := fun row => zKr_fr h107 (zfr_row a5 109 (fun _ => rfl)) (a5 91 46 rfl) row
            have hlb : zlb I3 nt nb om LW r = zlb I nt nb om LW r := by
              funext row
              unfold zlb
              rw [hkr]
            have hlr : zlr I3 nt nb om LW BW r = zlr I nt nb om LW BW r := by
              funext k row
              unfold zlr
              rw [hlb, h107]
            rw [hlb, hlr, zfr_row a5 111 (fun _ => rfl)]
          rw [same] at b1
          have m1' := g_M_isReader (J := J) (t := t) (u := u) (i := i) (f := f) (s := t) (x := x) hC3.2.1.1.2.2.1.1 hnr (nI r)
          rw [hr] at m1'
          have hb6 : zbc om < 2 ^ 31 := by omega
          refine ⟨nI (zlb I nt nb om LW r (zrn (zlr I nt nb om LW BW r) (k - 1) 0 (I 111))), I3, J, t, I4, J, ?_, ?_, zfr_trans a5 b2, Or.inr rfl⟩
          · show f_W_leads _ 0 _ _ = _
            simp (disch := (first | omega | assumption)) only [f_W_leads, zg_11, gp_11_6, gp_11_5, gp_11_9, gp_11_2, gt60, zbs, nI_add, pk_mul, znI_add1, znI_sub1, znI_subm, zle_nI, zlt_nI, zeq_nI, zle_0, zeq_0, zlt_0, zeq_m, zeq_1, zge_0, zbt0, zbt1, zB_0, zB_1, zB_b, zbool_0, zbool_1, ↓reduceIte, x1, hn1, hn60, x3, a1, a2, a3, Bool.true_eq_false]
            exact a4
          · show f_M_leads _ 91 _ _ = _
            simp (disch := (first | omega | assumption)) only [f_M_leads, f_M_isIn, zg_12, gi_12, gp_12_49, al_111_31, zbs, nI_add, pk_mul, znI_add1, znI_sub1, znI_subm, zle_nI, zlt_nI, zeq_nI, zle_0, zeq_0, zlt_0, zeq_m, zeq_1, zge_0, zbt0, zbt1, zB_0, zB_1, zB_b, zbool_0, zbool_1, ↓reduceIte, m1', hn1, hn60, n10, hC3.2.2.2.2.1.1, mm, hC3.2.1.1.2.1.1, hall, Bool.true_eq_false]
            exact b1
  · rw [hr] at x1 m1
    refine ⟨-1, I, J, s, I, J, ?_, ?_, zfr_refl _ _, Or.inl rfl⟩
    · show f_W_leads _ 0 _ _ = _
      simp (disch := (first | omega | assumption)) only [f_W_leads, zg_11, gp_11_6, gp_11_5, gp_11_9, gp_11_2, gt60, zbs, nI_add, pk_mul, znI_add1, znI_sub1, znI_subm, zle_nI, zlt_nI, zeq_nI, zle_0, zeq_0, zlt_0, zeq_m, zeq_1, zge_0, zbt0, zbt1, zB_0, zB_1, zB_b, zbool_0, zbool_1, ↓reduceIte, x1]
    · show f_M_leads _ 91 _ _ = _
      simp (disch := (first | omega | assumption)) only [f_M_leads, zg_12, gi_12, gp_12_49, al_111_31, zbs, nI_add, pk_mul, znI_add1, znI_sub1, znI_subm, zle_nI, zlt_nI, zeq_nI, zle_0, zeq_0, zlt_0, zeq_m, zeq_1, zge_0, zbt0, zbt1, zB_0, zB_1, zB_b, zbool_0, zbool_1, ↓reduceIte, m1]
end ZLf2
