/-! fit, sure -/
theorem zm12 (p : Int32) : (f_R_canBe p = some (zB true) ∧ f_M_isIn p 1 2 = some (zB true) ∧ ∃ m, 1 ≤ m ∧ m ≤ 2 ∧ p = nI m) ∨ (f_R_canBe p = some (zB false) ∧ f_M_isIn p 1 2 = some (zB false)) := by
  by_cases h1 : p = 1
  · left
    subst h1
    exact ⟨by decide, by decide, 1, by decide, by decide, rfl⟩
  · by_cases h2 : p = 2
    · left
      subst h2
      exact ⟨by decide, by decide, 2, by decide, by decide, rfl⟩
    · right
      refine ⟨?_, ?_⟩
      · simp (disch := (first | omega | assumption)) only [f_R_canBe, eq2, zbs, nI_add, pk_mul, znI_add1, znI_sub1, znI_subm, zle_nI, zlt_nI, zeq_nI, zle_0, zeq_0, zlt_0, zeq_m, zeq_1, zge_0, zbt0, zbt1, zB_0, zB_1, zB_b, zbool_0, zbool_1, ↓reduceIte, h1, h2]
        rfl
      · by_cases h3 : p < 1
        · simp (disch := (first | omega | assumption)) only [f_M_isIn, zbs, nI_add, pk_mul, znI_add1, znI_sub1, znI_subm, zle_nI, zlt_nI, zeq_nI, zle_0, zeq_0, zlt_0, zeq_m, zeq_1, zge_0, zbt0, zbt1, zB_0, zB_1, zB_b, zbool_0, zbool_1, ↓reduceIte, h3]
          rfl
        · have h4 : 2 < p := by
            have e1 : (1 : Int32).toInt = 1 := by decide
            have e2 : (2 : Int32).toInt = 2 := by decide
            rw [Int32.lt_iff_toInt_lt, e1] at h3
            rw [← Int32.toInt_inj, e1] at h1
            rw [← Int32.toInt_inj, e2] at h2
            rw [Int32.lt_iff_toInt_lt, e2]
            omega
          simp (disch := (first | omega | assumption)) only [f_M_isIn, zbs, nI_add, pk_mul, znI_add1, znI_sub1, znI_subm, zle_nI, zlt_nI, zeq_nI, zle_0, zeq_0, zlt_0, zeq_m, zeq_1, zge_0, zbt0, zbt1, zB_0, zB_1, zB_b, zbool_0, zbool_1, ↓reduceIte, h3, h4]
          rfl
theorem zcell_gap {m nt v k : Nat} (hm : m ≤ 2) : ¬ zcell m nt v k = -1000000 ∧ (-1000000 : Int32) < zcell m nt v k := by
  have hg : (-1000000 : Int32).toInt = -1000000 := by decide
  have h : -10 ≤ (zcell m nt v k).toInt := by
    unfold zcell
    split
    · have hl : v / (2 * m + 1) ^ (nt - 1 - k) % (2 * m + 1) < 2 * m + 1 := Nat.mod_lt _ (by omega)
      rw [pk_sub_toInt (by omega) (by omega)]
      omega
    · decide
  refine ⟨fun e => ?_, ?_⟩
  · rw [← Int32.toInt_inj, hg] at e
    omega
  · rw [Int32.lt_iff_toInt_lt, hg]
    omega
/-- the least, the most so far -/
def zbs1 (mo : Bool) (c : Nat → Int32) (best : Int32) (v : Nat) : Int32 := if best = -1000000 then c v else if mo = true then (if c v ≤ best then best else c v) else (if best ≤ c v then best else c v)
section ZSu
variable {I : Nat → Nat → Int32} {J : Nat → Nat → Int64} {t u i f s x : Nat} {nt nb nr q sh md om im nl tm : Nat} {LW BW : List Int32}
theorem g_M_fits (hC : zCo I t nt nb nr q sh md om im LW BW) (hL : zLk I nb nr nl tm) {m r v : Nat} (hm : m ≤ 2) (hr : r < nr) (hv : v < (2 * m + 1) ^ nt) (k : Int32) :
    ∃ I', f_M_fits (zs I J (zPt t u i f s x)) 91 (nI r) (nI v) (nI m) k = some (zB (zfitB I (fun b => zkm I nt LW (zcell m nt v) r b) r k nl), (zs I' J (zPt t u i f s x))) ∧ zfr (zSl [101, 102, 112, 113]) I I' ∧ (∀ b, b < nb → I' 113 (10 * r + b) = zkm I nt LW (zcell m nt v) r b) ∧ ∀ t, t < 4 → I' 112 t = zcell m nt v t := by
  have hM := hC.2.1.1
  have hnb := hM.2.1.2
  have hnr := hM.2.2.1.2
  have hR := zR_le (m := m) hm hM.1.2
  obtain ⟨I1, a1, a2, a3, -, a4⟩ := g_M_layByRow (J := J) (t := t) (u := u) (i := i) (f := f) (s := s) (x := x) hM hm (show v < 625 by omega) (show r < 6 by omega)
  have f1 : zfr zSg I I1 := zfr_gl a2 (fun a ha k => by
    simp at ha
    rcases ha with rfl | rfl | rfl | rfl <;> rfl)
  have hL1 := zLk_fr hL (zfr_mono f1 zSg_n)
  have h30 := hL.1.2.2
  have n10 : ¬ (1 : Int32) = 0 := by decide
  have hin := zforF (fun fuel (bb : Bool) l => f_M_fits_13L fuel (zs I1 J (zPt t u i f s x)) 91 (nI r) k (zB bb) (nI l)) nl (fun l bb => bb && (!zcn I1 r k l || zlkB I1 (zKm I1 r) l)) (fun _ _ => True) (fun bb => some (zB bb, (zs I1 J (zPt t u i f s x))))
    (fun m' l bb hl _ => by
      have hle : ¬ nl ≤ l := by omega
      obtain ⟨-, -, -, ⟨a, ha, ea⟩, -, ⟨b, hb, eb⟩, -, -, hun⟩ := hL1.2.2 l hl
      have h2 := g_M_isAhead (I := I1) (J := J) (t := t) (u := u) (i := i) (f := f) (s := s) (x := x) (show r < 6 by omega) (show a < 10 by omega) (show b < 10 by omega)
      have ez : zlkB I1 (zKm I1 r) l = zah2 (zKm I1 r) a b := by
        unfold zlkB
        rw [ea, eb, nI_clamp (by omega), nI_clamp (by omega)]
      have body : ∀ bb : Bool, f_M_fits_67 (f_M_fits_13L m') (zs I1 J (zPt t u i f s x)) 91 (nI r) k (zB bb) (nI l) = f_M_fits_13L m' (zs I1 J (zPt t u i f s x)) 91 (nI r) k (zB (bb && zlkB I1 (zKm I1 r) l)) (nI (l + 1)) := fun bb => by
        cases bb with
        | false =>
          simp (disch := (first | omega | assumption)) only [f_M_fits_67, gp_12_74, gp_12_75, ai_127, ai_128, zbs, nI_add, pk_mul, znI_add1, znI_sub1, znI_subm, zle_nI, zlt_nI, zeq_nI, zle_0, zeq_0, zlt_0, zeq_m, zeq_1, zge_0, zbt0, zbt1, zB_0, zB_1, zB_b, zbool_0, zbool_1, ↓reduceIte, Bool.false_and]
          rfl
        | true =>
          rw [ez]
          cases hz : zah2 (zKm I1 r) a b with
          | false =>
            rw [hz] at h2
            simp (disch := (first | omega | assumption)) only [f_M_fits_67, gp_12_74, gp_12_75, ai_127, ai_128, zbs, nI_add, pk_mul, znI_add1, znI_sub1, znI_subm, zle_nI, zlt_nI, zeq_nI, zle_0, zeq_0, zlt_0, zeq_m, zeq_1, zge_0, zbt0, zbt1, zB_0, zB_1, zB_b, zbool_0, zbool_1, ↓reduceIte, ea, eb, h2, Bool.true_eq_false, Bool.true_and]
            rfl
          | true =>
            rw [hz] at h2
            simp (disch := (first | omega | assumption)) only [f_M_fits_67, gp_12_74, gp_12_75, ai_127, ai_128, zbs, nI_add, pk_mul, znI_add1, znI_sub1, znI_subm, zle_nI, zlt_nI, zeq_nI, zle_0, zeq_0, zlt_0, zeq_m, zeq_1, zge_0, zbt0, zbt1, zB_0, zB_1, zB_b, zbool_0, zbool_1, ↓reduceIte, ea, eb, h2, Bool.true_eq_false, Bool.true_and]
            rfl
      show f_M_fits_13L (m' + 1) _ _ _ _ _ _ = _
      rw [f_M_fits_13L]
      by_cases h1 : I1 126 l = nI r
      · by_cases h3 : k < I1 129 l
        · have hc : zcn I1 r k l = false := by simp [zcn, h3]
          simp (disch := (first | omega | assumption)) only [f_M_fits_13, gi_12, gp_12_73, gp_12_76, gp_12_77, ai_126, ai_129, ai_130, zbs, nI_add, pk_mul, znI_add1, znI_sub1, znI_subm, zle_nI, zlt_nI, zeq_nI, zle_0, zeq_0, zlt_0, zeq_m, zeq_1, zge_0, zbt0, zbt1, zB_0, zB_1, zB_b, zbool_0, zbool_1, ↓reduceIte, hL1.1.2.1, hle, h1, h3, hc, Bool.not_false, Bool.true_or, Bool.and_true]
        · by_cases h4 : I1 130 l < 0
          · have hc : zcn I1 r k l = true := by simp [zcn, h1, h3, h4]
            simp (disch := (first | omega | assumption)) only [f_M_fits_13, gi_12, gp_12_73, gp_12_76, gp_12_77, ai_126, ai_129, ai_130, zbs, nI_add, pk_mul, znI_add1, znI_sub1, znI_subm, zle_nI, zlt_nI, zeq_nI, zle_0, zeq_0, zlt_0, zeq_m, zeq_1, zge_0, zbt0, zbt1, zB_0, zB_1, zB_b, zbool_0, zbool_1, ↓reduceIte, hL1.1.2.1, hle, h1, h3, h4, body, hc, Bool.not_true, Bool.false_or]
          · by_cases h5 : I1 130 l ≤ k
            · have hc : zcn I1 r k l = false := by simp [zcn, h4, h5]
              simp (disch := (first | omega | assumption)) only [f_M_fits_13, gi_12, gp_12_73, gp_12_76, gp_12_77, ai_126, ai_129, ai_130, zbs, nI_add, pk_mul, znI_add1, znI_sub1, znI_subm, zle_nI, zlt_nI, zeq_nI, zle_0, zeq_0, zlt_0, zeq_m, zeq_1, zge_0, zbt0, zbt1, zB_0, zB_1, zB_b, zbool_0, zbool_1, ↓reduceIte, hL1.1.2.1, hle, h1, h3, h4, h5, hc, Bool.not_false, Bool.true_or, Bool.and_true]
            · have hc : zcn I1 r k l = true := by simp [zcn, h1, h3, h5]
              simp (disch := (first | omega | assumption)) only [f_M_fits_13, gi_12, gp_12_73, gp_12_76, gp_12_77, ai_126, ai_129, ai_130, zbs, nI_add, pk_mul, znI_add1, znI_sub1, znI_subm, zle_nI, zlt_nI, zeq_nI, zle_0, zeq_0, zlt_0, zeq_m, zeq_1, zge_0, zbt0, zbt1, zB_0, zB_1, zB_b, zbool_0, zbool_1, ↓reduceIte, hL1.1.2.1, hle, h1, h3, h4, h5, body, hc, Bool.not_true, Bool.false_or]
      · have hc : zcn I1 r k l = false := by simp [zcn, h1]
        simp (disch := (first | omega | assumption)) only [f_M_fits_13, gi_12, gp_12_73, gp_12_76, gp_12_77, ai_126, ai_129, ai_130, zbs, nI_add, pk_mul, znI_add1, znI_sub1, znI_subm, zle_nI, zlt_nI, zeq_nI, zle_0, zeq_0, zlt_0, zeq_m, zeq_1, zge_0, zbt0, zbt1, zB_0, zB_1, zB_b, zbool_0, zbool_1, ↓reduceIte, hL1.1.2.1, hle, h1, hc, Bool.not_false, Bool.true_or, Bool.and_true]) (fun _ _ _ _ => trivial)
    (fun m' bb _ => by
      show f_M_fits_13L (m' + 1) _ _ _ _ _ _ = _
      rw [f_M_fits_13L]
      simp (disch := (first | omega | assumption)) only [f_M_fits_13, gi_12, gp_12_73, gp_12_76, gp_12_77, ai_126, ai_129, ai_130, zbs, nI_add, pk_mul, znI_add1, znI_sub1, znI_subm, zle_nI, zlt_nI, zeq_nI, zle_0, zeq_0, zlt_0, zeq_m, zeq_1, zge_0, zbt0, zbt1, zB_0, zB_1, zB_b, zbool_0, zbool_1, ↓reduceIte, hL1.1.2.1, Nat.le_refl]) nl 0 true zfu (by omega) trivial (zfu_lt (by omega))
  have hall : ∀ d, zrn (fun l bb => bb && (!zcn I1 r k l || zlkB I1 (zKm I1 r) l)) d 0 true = zfitB I1 (zKm I1 r) r k d := by
    intro d
    induction d with
    | zero => exact (rfl : true = true)
    | succ d ih => rw [zrn_succ, ih, zfitB_succ, Nat.zero_add]
  rw [hall nl, zfitB_fr hL (zfr_mono f1 zSg_n) (Kv := fun b => zkm I nt LW (zcell m nt v) r b) (Kv' := zKm I1 r) (fun b hb => a3 b hb) hnb] at hin
  have hin : f_M_fits_13L zfu (zs I1 J (zPt t u i f s x)) 91 (nI r) k 1 0 = _ := hin
  refine ⟨I1, ?_, a2, a3, a4⟩
  simp (disch := (first | omega | assumption)) only [f_M_fits, zg_12, zbs, nI_add, pk_mul, znI_add1, znI_sub1, znI_subm, zle_nI, zlt_nI, zeq_nI, zle_0, zeq_0, zlt_0, zeq_m, zeq_1, zge_0, zbt0, zbt1, zB_0, zB_1, zB_b, zbool_0, zbool_1, ↓reduceIte, a1, hin]
theorem zfK_fr {I' : Nat → Nat → Int32} (hf : zfr zSg I I') (m r v : Nat) : (fun b => zkm I' nt LW (zcell m nt v) r b) = fun b => zkm I nt LW (zcell m nt v) r b := by
  funext b
  unfold zkm
  rw [zfr_row hf 107 (fun _ => rfl), zfr_row hf 109 (fun _ => rfl), zfr_row hf 111 (fun _ => rfl)]
theorem zfs_g {I' : Nat → Nat → Int32} (h : zfr (zSl [101, 102, 112, 113]) I I') : zfr zSg I I' := zfr_gl h (fun a ha k => by
  simp at ha
  rcases ha with rfl | rfl | rfl | rfl <;> rfl)
theorem m_fitL (hC : zCo I t nt nb nr q sh md om im LW BW) (hL : zLk I nb nr nl tm) {m r : Nat} (hm : m ≤ 2) (hr : r < nr) (k : Int32) :
    ∃ I', f_M_fit_25L zfu (zs I J (zPt t u i f s x)) 91 (nI r) (nI m) k 0 0 = some (nI (zct (fun v => zfitB I (fun b => zkm I nt LW (zcell m nt v) r b) r k nl) ((2 * m + 1) ^ nt)), (zs I' J (zPt t u i f s x))) ∧ zfr zSg I I' := by
  have hM := hC.2.1.1
  have hnb := hM.2.1.2
  have hR := zR_le (m := m) hm hM.1.2
  obtain ⟨Q, ⟨h1, h2⟩, h3⟩ := zfor (fun fuel (p : (Nat → Nat → Int32) × Nat) v => f_M_fit_25L fuel (zs p.1 J (zPt t u i f s x)) 91 (nI r) (nI m) k (nI p.2) (nI v)) ((2 * m + 1) ^ nt)
    (fun v p => zfr zSg I p.1 ∧ p.2 = zct (fun v => zfitB I (fun b => zkm I nt LW (zcell m nt v) r b) r k nl) v)
    (fun p => some (nI p.2, (zs p.1 J (zPt t u i f s x))))
    (fun m' v p hv hi => by
      have hC3 := zCo_fr hC hi.1
      have hL3 := zLk_fr hL (zfr_mono hi.1 zSg_n)
      have rw1 := g_M_rows (J := J) (t := t) (u := u) (i := i) (f := f) (s := s) (x := x) hC3.2.1.1.1.1 hM.1.2 hm
      obtain ⟨I4, c1, c2, -, -⟩ := g_M_fits (J := J) (t := t) (u := u) (i := i) (f := f) (s := s) (x := x) hC3 hL3 hm hr hv k
      rw [zfK_fr hi.1, zfitB_fr hL (zfr_mono hi.1 zSg_n) (fun _ _ => rfl) hnb] at c1
      have hle : ¬ (2 * m + 1) ^ nt ≤ v := by omega
      have hn := zct_le (fun v => zfitB I (fun b => zkm I nt LW (zcell m nt v) r b) r k nl) v
      refine ⟨(I4, p.2 + (if zfitB I (fun b => zkm I nt LW (zcell m nt v) r b) r k nl = true then 1 else 0)), ⟨zfr_trans hi.1 (zfs_g c2), ?_⟩, ?_⟩
      · dsimp only
        rw [zct_succ, hi.2]
      · show f_M_fit_25L (m' + 1) _ _ _ _ _ _ _ = _
        rw [f_M_fit_25L]
        cases hq : zfitB I (fun b => zkm I nt LW (zcell m nt v) r b) r k nl with
        | false =>
          rw [hq] at c1
          simp (disch := (first | omega | assumption)) only [f_M_fit_25, zbs, nI_add, pk_mul, znI_add1, znI_sub1, znI_subm, zle_nI, zlt_nI, zeq_nI, zle_0, zeq_0, zlt_0, zeq_m, zeq_1, zge_0, zbt0, zbt1, zB_0, zB_1, zB_b, zbool_0, zbool_1, ↓reduceIte, rw1, hle, c1, g_M_truth, Bool.false_eq_true, Nat.add_zero, Int32.add_zero]
        | true =>
          rw [hq] at c1
          simp (disch := (first | omega | assumption)) only [f_M_fit_25, zbs, nI_add, pk_mul, znI_add1, znI_sub1, znI_subm, zle_nI, zlt_nI, zeq_nI, zle_0, zeq_0, zlt_0, zeq_m, zeq_1, zge_0, zbt0, zbt1, zB_0, zB_1, zB_b, zbool_0, zbool_1, ↓reduceIte, rw1, hle, c1, g_M_truth, Bool.true_eq_false])
    (fun m' p hi => by
      have hC3 := zCo_fr hC hi.1
      have rw1 := g_M_rows (J := J) (t := t) (u := u) (i := i) (f := f) (s := s) (x := x) hC3.2.1.1.1.1 hM.1.2 hm
      show f_M_fit_25L (m' + 1) _ _ _ _ _ _ _ = _
      rw [f_M_fit_25L]
      simp (disch := (first | omega | assumption)) only [f_M_fit_25, zbs, nI_add, pk_mul, znI_add1, znI_sub1, znI_subm, zle_nI, zlt_nI, zeq_nI, zle_0, zeq_0, zlt_0, zeq_m, zeq_1, zge_0, zbt0, zbt1, zB_0, zB_1, zB_b, zbool_0, zbool_1, ↓reduceIte, rw1, Nat.le_refl]) ((2 * m + 1) ^ nt) 0 (I, 0) zfu (by omega) ⟨zfr_refl _ _, rfl⟩ (zfu_lt (by omega))
  refine ⟨Q.1, ?_, h1⟩
  rw [← h2]
  exact h3
theorem q_fit (hC : zCo I t nt nb nr q sh md om im LW BW) (hL : zLk I nb nr nl tm) (r p k : Int32) : zOK2 I J t u i f s x (fun σ => f_W_fit σ 0 r p k) (fun σ => f_M_fit σ 91 r p k) := by
  have ht := hC.1
  have hM := hC.2.1.1
  have hX := hC.2.1.2.1
  have hnb := hM.2.1.2
  have hnr := hM.2.2.1.2
  have x1 := g_W_isReader (J := J) (t := t) (u := u) (i := i) (f := f) (s := s) (x := x) ht hX.2.2.1.1 r
  have m1 := g_M_isReader (J := J) (t := t) (u := u) (i := i) (f := f) (s := s) (x := x) hM.2.2.1.1 hnr r
  rcases zlt_cases r (n := nr) (by omega) with ⟨hr, r, hrn, rfl⟩ | hr
  · rw [hr] at x1 m1
    rcases zm12 p with ⟨p1, p2, m, hm1, hm, rfl⟩ | ⟨p1, p2⟩
    · obtain ⟨I1, a1, a2, -, a3, -⟩ := g_W_findFitting (J := J) (t := t) (u := u) (i := i) (f := f) (s := s) (x := x) hC hL hm hrn k
      have hC1 := zCo_fr hC a2
      have hL1 := zLk_fr hL (zfr_mono a2 zSg_n)
      obtain ⟨I2, b1, b2⟩ := m_fitL (J := J) (t := t) (u := u) (i := i) (f := f) (s := t) (x := x) hC1 hL1 hm hrn k
      have eF : (fun v => zfitB I1 (fun b => zkm I1 nt LW (zcell m nt v) r b) r k nl) = fun v => zfitB I (fun b => zkm I nt LW (zcell m nt v) r b) r k nl := by
        funext v
        rw [zfK_fr a2]
        exact zfitB_fr hL (zfr_mono a2 zSg_n) (fun _ _ => rfl) hnb
      rw [eF] at b1
      rw [zfls_len] at a3
      have m1' := g_M_isReader (J := J) (t := t) (u := u) (i := i) (f := f) (s := t) (x := x) hC1.2.1.1.2.2.1.1 hnr (nI r)
      rw [hr] at m1'
      refine ⟨nI (zct (fun v => zfitB I (fun b => zkm I nt LW (zcell m nt v) r b) r k nl) ((2 * m + 1) ^ nt)), I1, J, t, I2, J, ?_, ?_, zfr_trans a2 b2, Or.inr rfl⟩
      · show f_W_fit _ 0 _ _ _ = _
        simp (disch := (first | omega | assumption)) only [f_W_fit, zg_11, gi_6, gp_11_10, zbs, nI_add, pk_mul, znI_add1, znI_sub1, znI_subm, zle_nI, zlt_nI, zeq_nI, zle_0, zeq_0, zlt_0, zeq_m, zeq_1, zge_0, zbt0, zbt1, zB_0, zB_1, zB_b, zbool_0, zbool_1, ↓reduceIte, x1, p1, a1, a3, Bool.true_eq_false]
      · show f_M_fit _ 91 _ _ _ = _
        simp (disch := (first | omega | assumption)) only [f_M_fit, zg_12, zbs, nI_add, pk_mul, znI_add1, znI_sub1, znI_subm, zle_nI, zlt_nI, zeq_nI, zle_0, zeq_0, zlt_0, zeq_m, zeq_1, zge_0, zbt0, zbt1, zB_0, zB_1, zB_b, zbool_0, zbool_1, ↓reduceIte, m1', p2, Bool.true_eq_false]
        exact b1
    · refine ⟨-1, I, J, s, I, J, ?_, ?_, zfr_refl _ _, Or.inl rfl⟩
      · show f_W_fit _ 0 _ _ _ = _
        simp (disch := (first | omega | assumption)) only [f_W_fit, zg_11, gi_6, gp_11_10, zbs, nI_add, pk_mul, znI_add1, znI_sub1, znI_subm, zle_nI, zlt_nI, zeq_nI, zle_0, zeq_0, zlt_0, zeq_m, zeq_1, zge_0, zbt0, zbt1, zB_0, zB_1, zB_b, zbool_0, zbool_1, ↓reduceIte, x1, p1, Bool.true_eq_false]
      · show f_M_fit _ 91 _ _ _ = _
        simp (disch := (first | omega | assumption)) only [f_M_fit, zg_12, zbs, nI_add, pk_mul, znI_add1, znI_sub1, znI_subm, zle_nI, zlt_nI, zeq_nI, zle_0, zeq_0, zlt_0, zeq_m, zeq_1, zge_0, zbt0, zbt1, zB_0, zB_1, zB_b, zbool_0, zbool_1, ↓reduceIte, m1, p2, Bool.true_eq_false]
  · rw [hr] at x1 m1
    refine ⟨-1, I, J, s, I, J, ?_, ?_, zfr_refl _ _, Or.inl rfl⟩
    · show f_W_fit _ 0 _ _ _ = _
      simp (disch := (first | omega | assumption)) only [f_W_fit, zg_11, gi_6, gp_11_10, zbs, nI_add, pk_mul, znI_add1, znI_sub1, znI_subm, zle_nI, zlt_nI, zeq_nI, zle_0, zeq_0, zlt_0, zeq_m, zeq_1, zge_0, zbt0, zbt1, zB_0, zB_1, zB_b, zbool_0, zbool_1, ↓reduceIte, x1]
    · show f_M_fit _ 91 _ _ _ = _
      simp (disch := (first | omega | assumption)) only [f_M_fit, zg_12, zbs, nI_add, pk_mul, znI_add1, znI_sub1, znI_subm, zle_nI, zlt_nI, zeq_nI, zle_0, zeq_0, zlt_0, zeq_m, zeq_1, zge_0, zbt0, zbt1, zB_0, zB_1, zB_b, zbool_0, zbool_1, ↓reduceIte, m1]
theorem zbs1_ne {mo : Bool} {c : Nat → Int32} {best : Int32} {v : Nat} (hc : ¬ c v = -1000000) : ¬ zbs1 mo c best v = -1000000 := by
  unfold zbs1
  by_cases h : best = -1000000
  · rw [if_pos h]; exact hc
  · rw [if_neg h]
    split
    · split
      · exact h
      · exact hc
    · split
      · exact h
      · exact hc
theorem x_sureL {m r : Nat} {K : Nat → Nat → Int32} (hm : m ≤ 2) (hnt : nt ≤ 4) (hW : zRw I 52 nt nb m r K) {F : List Nat} (h0 : I 52 0 = nI F.length) (hF : ∀ j v, F[j]? = some v → I 55 j = nI v) (hFb : ∀ v, v ∈ F → v < (2 * m + 1) ^ nt) (hFl : F.length ≤ 625) {c : Nat} (hc : c < nt) (mo : Bool) :
    (if zB mo = 0 then f_R_leastFitting (zs I J (zPt t u i f s x)) 52 (nI c) else f_R_mostFitting (zs I J (zPt t u i f s x)) 52 (nI c)) = some (F.foldl (zbs1 mo (fun v => zcell m nt v c)) (-1000000)) := by
  have hR := zR_le (m := m) hm hnt
  have tk : ∀ j v, F[j]? = some v → F.take (j + 1) = F.take j ++ [v] := fun j v h => by
    rw [List.take_succ, h]
    rfl
  have cell : ∀ j v, F[j]? = some v → f_R_cell (zs I J (zPt t u i f s x)) 52 (nI v) (nI c) = some (zcell m nt v c) := fun j v h => by
    have hv := hFb v (List.mem_of_getElem? h)
    have := g_R_cell (I := I) (J := J) (t := t) (u := u) (i := i) (f := f) (s := s) (x := x) (A := 52) (Or.inl rfl) (show v < 625 by omega) (show c < 4 by omega)
    rw [hW.2.2.2.1 v c hv hc] at this
    exact this
  cases mo with
  | true =>
    have h := zforF (fun fuel (b : Int32) j => f_R_mostFitting_5L fuel (zs I J (zPt t u i f s x)) 52 (nI c) b (nI j)) F.length (fun j b => match F[j]? with | none => b | some v => zbs1 true (fun v => zcell m nt v c) b v) (fun _ _ => True) (fun b => some b)
      (fun m' j b hj _ => by
        have hle : ¬ F.length ≤ j := by omega
        have e : F[j]? = some (F[j]'hj) := List.getElem?_eq_getElem hj
        have e1 := hF j _ e
        have e2 := cell j _ e
        have e3 : zmax b (zcell m nt (F[j]'hj) c) = zbs1 true (fun v => zcell m nt v c) b (F[j]'hj) := by
          unfold zmax zbs1
          by_cases hb : b = -1000000
          · subst hb
            rw [if_pos (zcell_gap hm).2, if_pos rfl]
          · rw [if_neg hb, if_pos rfl]
            by_cases hlt : b < zcell m nt (F[j]'hj) c
            · rw [if_pos hlt, if_neg (Int32.not_le.mpr hlt)]
            · rw [if_neg hlt, if_pos (Int32.not_lt.mp hlt)]
        show f_R_mostFitting_5L (m' + 1) _ _ _ _ _ = _
        rw [f_R_mostFitting_5L, e]
        dsimp only
        rw [← e3]
        simp (disch := (first | omega | assumption)) only [f_R_mostFitting_5, gi_6, gp_6_7, ai_6_7, zbs, nI_add, pk_mul, znI_add1, znI_sub1, znI_subm, zle_nI, zlt_nI, zeq_nI, zle_0, zeq_0, zlt_0, zeq_m, zeq_1, zge_0, zbt0, zbt1, zB_0, zB_1, zB_b, zbool_0, zbool_1, ↓reduceIte, h0, hle, e1, e2]) (fun _ _ _ _ => trivial)
      (fun m' b _ => by
        show f_R_mostFitting_5L (m' + 1) _ _ _ _ _ = _
        rw [f_R_mostFitting_5L]
        simp (disch := (first | omega | assumption)) only [f_R_mostFitting_5, gi_6, gp_6_7, ai_6_7, zbs, nI_add, pk_mul, znI_add1, znI_sub1, znI_subm, zle_nI, zlt_nI, zeq_nI, zle_0, zeq_0, zlt_0, zeq_m, zeq_1, zge_0, zbt0, zbt1, zB_0, zB_1, zB_b, zbool_0, zbool_1, ↓reduceIte, h0, Nat.le_refl]) F.length 0 (-1000000) zfu (by omega) trivial (zfu_lt (by omega))
    have hz : ∀ d, d ≤ F.length → zrn (fun j b => match F[j]? with | none => b | some v => zbs1 true (fun v => zcell m nt v c) b v) d 0 (-1000000) = (F.take d).foldl (zbs1 true (fun v => zcell m nt v c)) (-1000000) := by
      intro d
      induction d with
      | zero => intro _; rfl
      | succ d ih =>
        intro hd
        have e : F[d]? = some (F[d]'(by omega)) := List.getElem?_eq_getElem (by omega)
        rw [zrn_succ, ih (by omega), Nat.zero_add, e, tk d _ e, List.foldl_append]
        rfl
    rw [hz F.length (Nat.le_refl _), List.take_length] at h
    rw [if_neg (by simp [zB])]
    simp (disch := (first | omega | assumption)) only [f_R_mostFitting, zg_6, zbs, nI_add, pk_mul, znI_add1, znI_sub1, znI_subm, zle_nI, zlt_nI, zeq_nI, zle_0, zeq_0, zlt_0, zeq_m, zeq_1, zge_0, zbt0, zbt1, zB_0, zB_1, zB_b, zbool_0, zbool_1, ↓reduceIte]
    exact h
  | false =>
    have h := zforF (fun fuel (b : Int32) j => f_R_leastFitting_5L fuel (zs I J (zPt t u i f s x)) 52 (nI c) b (nI j)) F.length (fun j b => match F[j]? with | none => b | some v => zbs1 false (fun v => zcell m nt v c) b v) (fun j b => (j = 0 ∧ b = -1000000) ∨ (0 < j ∧ ¬ b = -1000000)) (fun b => some b)
      (fun m' j b hj hi => by
        have hle : ¬ F.length ≤ j := by omega
        have e : F[j]? = some (F[j]'hj) := List.getElem?_eq_getElem hj
        have e1 := hF j _ e
        have e2 := cell j _ e
        show f_R_leastFitting_5L (m' + 1) _ _ _ _ _ = _
        rw [f_R_leastFitting_5L, e]
        dsimp only
        rcases hi with ⟨rfl, rfl⟩ | ⟨hj0, hb⟩
        · have e3 : zbs1 false (fun v => zcell m nt v c) (-1000000) (F[0]'hj) = zcell m nt (F[0]'hj) c := by
            unfold zbs1
            rw [if_pos rfl]
          rw [e3]
          simp (disch := (first | omega | assumption)) only [f_R_leastFitting_5, gi_6, gp_6_7, ai_6_7, zbs, nI_add, pk_mul, znI_add1, znI_sub1, znI_subm, zle_nI, zlt_nI, zeq_nI, zle_0, zeq_0, zlt_0, zeq_m, zeq_1, zge_0, zbt0, zbt1, zB_0, zB_1, zB_b, zbool_0, zbool_1, ↓reduceIte, h0, hle, e1, e2]
        · have e3 : zmin b (zcell m nt (F[j]'hj) c) = zbs1 false (fun v => zcell m nt v c) b (F[j]'hj) := by
            unfold zmin zbs1
            rw [if_neg hb, if_neg (show ¬ false = true by simp)]
            by_cases hlt : zcell m nt (F[j]'hj) c < b
            · rw [if_pos hlt, if_neg (Int32.not_le.mpr hlt)]
            · rw [if_neg hlt, if_pos (Int32.not_lt.mp hlt)]
          rw [← e3]
          have hj1 : ¬ j = 0 := by omega
          simp (disch := (first | omega | assumption)) only [f_R_leastFitting_5, gi_6, gp_6_7, ai_6_7, zbs, nI_add, pk_mul, znI_add1, znI_sub1, znI_subm, zle_nI, zlt_nI, zeq_nI, zle_0, zeq_0, zlt_0, zeq_m, zeq_1, zge_0, zbt0, zbt1, zB_0, zB_1, zB_b, zbool_0, zbool_1, ↓reduceIte, h0, hle, e1, e2, hj1])
      (fun j b hj hi => by
        have e : F[j]? = some (F[j]'hj) := List.getElem?_eq_getElem hj
        right
        refine ⟨by omega, ?_⟩
        rw [e]
        exact zbs1_ne (zcell_gap hm).1)
      (fun m' b _ => by
        show f_R_leastFitting_5L (m' + 1) _ _ _ _ _ = _
        rw [f_R_leastFitting_5L]
        simp (disch := (first | omega | assumption)) only [f_R_leastFitting_5, gi_6, gp_6_7, ai_6_7, zbs, nI_add, pk_mul, znI_add1, znI_sub1, znI_subm, zle_nI, zlt_nI, zeq_nI, zle_0, zeq_0, zlt_0, zeq_m, zeq_1, zge_0, zbt0, zbt1, zB_0, zB_1, zB_b, zbool_0, zbool_1, ↓reduceIte, h0, Nat.le_refl]) F.length 0 (-1000000) zfu (by omega) (Or.inl ⟨rfl, rfl⟩) (zfu_lt (by omega))
    have hz : ∀ d, d ≤ F.length → zrn (fun j b => match F[j]? with | none => b | some v => zbs1 false (fun v => zcell m nt v c) b v) d 0 (-1000000) = (F.take d).foldl (zbs1 false (fun v => zcell m nt v c)) (-1000000) := by
      intro d
      induction d with
      | zero => intro _; rfl
      | succ d ih =>
        intro hd
        have e : F[d]? = some (F[d]'(by omega)) := List.getElem?_eq_getElem (by omega)
        rw [zrn_succ, ih (by omega), Nat.zero_add, e, tk d _ e, List.foldl_append]
        rfl
    rw [hz F.length (Nat.le_refl _), List.take_length] at h
    rw [if_pos (by simp [zB])]
    simp (disch := (first | omega | assumption)) only [f_R_leastFitting, zg_6, zbs, nI_add, pk_mul, znI_add1, znI_sub1, znI_subm, zle_nI, zlt_nI, zeq_nI, zle_0, zeq_0, zlt_0, zeq_m, zeq_1, zge_0, zbt0, zbt1, zB_0, zB_1, zB_b, zbool_0, zbool_1, ↓reduceIte]
    exact h
theorem m_sureL (hC : zCo I t nt nb nr q sh md om im LW BW) (hL : zLk I nb nr nl tm) {m r : Nat} (hm : m ≤ 2) (hr : r < nr) (k : Int32) {c : Nat} (hc : c < nt) (mo : Bool) :
    ∃ I', f_M_sure_38L zfu (zs I J (zPt t u i f s x)) 91 (nI r) (nI c) (zB mo) (nI m) k (-1000000) 0 = some ((zfls (fun v => zfitB I (fun b => zkm I nt LW (zcell m nt v) r b) r k nl) ((2 * m + 1) ^ nt)).foldl (zbs1 mo (fun v => zcell m nt v c)) (-1000000), (zs I' J (zPt t u i f s x))) ∧ zfr zSg I I' := by
  have hM := hC.2.1.1
  have hnb := hM.2.1.2
  have hnt := hM.1.2
  have hR := zR_le (m := m) hm hM.1.2
  obtain ⟨Q, ⟨h1, h2⟩, h3⟩ := zfor (fun fuel (p : (Nat → Nat → Int32) × Int32) v => f_M_sure_38L fuel (zs p.1 J (zPt t u i f s x)) 91 (nI r) (nI c) (zB mo) (nI m) k p.2 (nI v)) ((2 * m + 1) ^ nt)
    (fun v p => zfr zSg I p.1 ∧ p.2 = (zfls (fun v => zfitB I (fun b => zkm I nt LW (zcell m nt v) r b) r k nl) v).foldl (zbs1 mo (fun v => zcell m nt v c)) (-1000000))
    (fun p => some (p.2, (zs p.1 J (zPt t u i f s x))))
    (fun m' v p hv hi => by
      obtain ⟨I3, best⟩ := p
      obtain ⟨i1, i2⟩ := hi
      dsimp only at i1 i2
      have hC3 := zCo_fr hC i1
      have hL3 := zLk_fr hL (zfr_mono i1 zSg_n)
      have rw1 := g_M_rows (J := J) (t := t) (u := u) (i := i) (f := f) (s := s) (x := x) hC3.2.1.1.1.1 hM.1.2 hm
      obtain ⟨I4, c1, c2, -, c3⟩ := g_M_fits (J := J) (t := t) (u := u) (i := i) (f := f) (s := s) (x := x) hC3 hL3 hm hr hv k
      rw [zfK_fr i1, zfitB_fr hL (zfr_mono i1 zSg_n) (fun _ _ => rfl) hnb] at c1
      have hle : ¬ (2 * m + 1) ^ nt ≤ v := by omega
      have hh := c3 c (by omega)
      cases hq : zfitB I (fun b => zkm I nt LW (zcell m nt v) r b) r k nl with
      | false =>
        rw [hq] at c1
        refine ⟨(I4, best), ⟨zfr_trans i1 (zfs_g c2), ?_⟩, ?_⟩
        · dsimp only
          rw [zfls_succ, if_neg (by rw [hq]; simp)]
          exact i2
        · show f_M_sure_38L (m' + 1) _ _ _ _ _ _ _ _ _ = _
          rw [f_M_sure_38L]
          simp (disch := (first | omega | assumption)) only [f_M_sure_38, gp_12_50, ai_112, zbs, nI_add, pk_mul, znI_add1, znI_sub1, znI_subm, zle_nI, zlt_nI, zeq_nI, zle_0, zeq_0, zlt_0, zeq_m, zeq_1, zge_0, zbt0, zbt1, zB_0, zB_1, zB_b, zbool_0, zbool_1, ↓reduceIte, rw1, hle, c1]
      | true =>
        rw [hq] at c1
        refine ⟨(I4, zbs1 mo (fun v => zcell m nt v c) best v), ⟨zfr_trans i1 (zfs_g c2), ?_⟩, ?_⟩
        · dsimp only
          rw [zfls_succ, if_pos hq, List.foldl_append, ← i2]
          rfl
        · show f_M_sure_38L (m' + 1) _ _ _ _ _ _ _ _ _ = _
          rw [f_M_sure_38L]
          unfold zbs1
          by_cases hb : best = -1000000
          · subst hb
            simp (disch := (first | omega | assumption)) only [f_M_sure_38, gp_12_50, ai_112, zbs, nI_add, pk_mul, znI_add1, znI_sub1, znI_subm, zle_nI, zlt_nI, zeq_nI, zle_0, zeq_0, zlt_0, zeq_m, zeq_1, zge_0, zbt0, zbt1, zB_0, zB_1, zB_b, zbool_0, zbool_1, ↓reduceIte, rw1, hle, c1, hh, Bool.true_eq_false]
          · cases mo with
            | true =>
              by_cases hlt : zcell m nt v c ≤ best
              · simp (disch := (first | omega | assumption)) only [f_M_sure_38, gp_12_50, ai_112, zbs, nI_add, pk_mul, znI_add1, znI_sub1, znI_subm, zle_nI, zlt_nI, zeq_nI, zle_0, zeq_0, zlt_0, zeq_m, zeq_1, zge_0, zbt0, zbt1, zB_0, zB_1, zB_b, zbool_0, zbool_1, ↓reduceIte, rw1, hle, c1, hh, hb, hlt, Bool.true_eq_false]
              · simp (disch := (first | omega | assumption)) only [f_M_sure_38, gp_12_50, ai_112, zbs, nI_add, pk_mul, znI_add1, znI_sub1, znI_subm, zle_nI, zlt_nI, zeq_nI, zle_0, zeq_0, zlt_0, zeq_m, zeq_1, zge_0, zbt0, zbt1, zB_0, zB_1, zB_b, zbool_0, zbool_1, ↓reduceIte, rw1, hle, c1, hh, hb, hlt, Bool.true_eq_false]
            | false =>
              by_cases hlt : best ≤ zcell m nt v c
              · simp (disch := (first | omega | assumption)) only [f_M_sure_38, gp_12_50, ai_112, zbs, nI_add, pk_mul, znI_add1, znI_sub1, znI_subm, zle_nI, zlt_nI, zeq_nI, zle_0, zeq_0, zlt_0, zeq_m, zeq_1, zge_0, zbt0, zbt1, zB_0, zB_1, zB_b, zbool_0, zbool_1, ↓reduceIte, rw1, hle, c1, hh, hb, hlt, Bool.true_eq_false, Bool.false_eq_true]
              · simp (disch := (first | omega | assumption)) only [f_M_sure_38, gp_12_50, ai_112, zbs, nI_add, pk_mul, znI_add1, znI_sub1, znI_subm, zle_nI, zlt_nI, zeq_nI, zle_0, zeq_0, zlt_0, zeq_m, zeq_1, zge_0, zbt0, zbt1, zB_0, zB_1, zB_b, zbool_0, zbool_1, ↓reduceIte, rw1, hle, c1, hh, hb, hlt, Bool.true_eq_false, Bool.false_eq_true])
    (fun m' p hi => by
      have hC3 := zCo_fr hC hi.1
      have rw1 := g_M_rows (J := J) (t := t) (u := u) (i := i) (f := f) (s := s) (x := x) hC3.2.1.1.1.1 hM.1.2 hm
      show f_M_sure_38L (m' + 1) _ _ _ _ _ _ _ _ _ = _
      rw [f_M_sure_38L]
      simp (disch := (first | omega | assumption)) only [f_M_sure_38, gp_12_50, ai_112, zbs, nI_add, pk_mul, znI_add1, znI_sub1, znI_subm, zle_nI, zlt_nI, zeq_nI, zle_0, zeq_0, zlt_0, zeq_m, zeq_1, zge_0, zbt0, zbt1, zB_0, zB_1, zB_b, zbool_0, zbool_1, ↓reduceIte, rw1, Nat.le_refl]) ((2 * m + 1) ^ nt) 0 (I, -1000000) zfu (by omega) ⟨zfr_refl _ _, rfl⟩ (zfu_lt (by omega))
  refine ⟨Q.1, ?_, h1⟩
  rw [← h2]
  exact h3
theorem q_sure (hC : zCo I t nt nb nr q sh md om im LW BW) (hL : zLk I nb nr nl tm) (r c : Int32) (mo : Bool) (p k : Int32) : zOK2 I J t u i f s x (fun σ => f_W_sure σ 0 r c (zB mo) p k) (fun σ => f_M_sure σ 91 r c (zB mo) p k) := by
  have ht := hC.1
  have hM := hC.2.1.1
  have hX := hC.2.1.2.1
  have hnb := hM.2.1.2
  have hnr := hM.2.2.1.2
  have hnt := hM.1.2
  have x1 := g_W_isReader (J := J) (t := t) (u := u) (i := i) (f := f) (s := s) (x := x) ht hX.2.2.1.1 r
  have m1 := g_M_isReader (J := J) (t := t) (u := u) (i := i) (f := f) (s := s) (x := x) hM.2.2.1.1 hnr r
  have x2 := g_W_isTopic (J := J) (t := t) (u := u) (i := i) (f := f) (s := s) (x := x) ht hX.1.1 c
  have m2 := g_M_isTopic (J := J) (t := t) (u := u) (i := i) (f := f) (s := s) (x := x) hM.1.1 hnt c
  rcases zlt_cases r (n := nr) (by omega) with ⟨hr, r, hrn, rfl⟩ | hr
  · rw [hr] at x1 m1
    rcases zlt_cases c (n := nt) (by omega) with ⟨hc, c, hcn, rfl⟩ | hc
    · rw [hc] at x2 m2
      rcases zm12 p with ⟨p1, p2, m, hm1, hm, rfl⟩ | ⟨p1, p2⟩
      · have hR := zR_le (m := m) hm hnt
        obtain ⟨I1, a1, a2, a5, a3, a4⟩ := g_W_findFitting (J := J) (t := t) (u := u) (i := i) (f := f) (s := s) (x := x) hC hL hm hrn k
        have hC1 := zCo_fr hC a2
        have hL1 := zLk_fr hL (zfr_mono a2 zSg_n)
        have xs := x_sureL (J := J) (t := t) (u := u) (i := i) (f := f) (s := t) (x := x) hm hnt a5 a3 a4 (fun v hv => (zfls_mem hv).1) (by rw [zfls_len]; exact Nat.le_trans (zct_le _ _) hR) hcn mo
        obtain ⟨I2, b1, b2⟩ := m_sureL (J := J) (t := t) (u := u) (i := i) (f := f) (s := t) (x := x) hC1 hL1 hm hrn k hcn mo
        have eF : (fun v => zfitB I1 (fun b => zkm I1 nt LW (zcell m nt v) r b) r k nl) = fun v => zfitB I (fun b => zkm I nt LW (zcell m nt v) r b) r k nl := by
          funext v
          rw [zfK_fr a2]
          exact zfitB_fr hL (zfr_mono a2 zSg_n) (fun _ _ => rfl) hnb
        rw [eF] at b1
        have m1' := g_M_isReader (J := J) (t := t) (u := u) (i := i) (f := f) (s := t) (x := x) hC1.2.1.1.2.2.1.1 hnr (nI r)
        have m2' := g_M_isTopic (J := J) (t := t) (u := u) (i := i) (f := f) (s := t) (x := x) hC1.2.1.1.1.1 hnt (nI c)
        rw [hr] at m1'
        rw [hc] at m2'
        generalize (zfls (fun v => zfitB I (fun b => zkm I nt LW (zcell m nt v) r b) r k nl) ((2 * m + 1) ^ nt)).foldl (zbs1 mo (fun v => zcell m nt v c)) (-1000000) = V at xs b1
        refine ⟨V, I1, J, t, I2, J, ?_, ?_, zfr_trans a2 b2, Or.inr rfl⟩
        · show f_W_sure _ 0 _ _ _ _ _ = _
          cases mo with
          | true =>
            rw [if_neg (by simp [zB])] at xs
            simp (disch := (first | omega | assumption)) only [f_W_sure, zg_11, gp_11_10, zbs, nI_add, pk_mul, znI_add1, znI_sub1, znI_subm, zle_nI, zlt_nI, zeq_nI, zle_0, zeq_0, zlt_0, zeq_m, zeq_1, zge_0, zbt0, zbt1, zB_0, zB_1, zB_b, zbool_0, zbool_1, ↓reduceIte, x1, x2, p1, a1, xs, Bool.true_eq_false]
          | false =>
            rw [if_pos (by simp [zB])] at xs
            simp (disch := (first | omega | assumption)) only [f_W_sure, zg_11, gp_11_10, zbs, nI_add, pk_mul, znI_add1, znI_sub1, znI_subm, zle_nI, zlt_nI, zeq_nI, zle_0, zeq_0, zlt_0, zeq_m, zeq_1, zge_0, zbt0, zbt1, zB_0, zB_1, zB_b, zbool_0, zbool_1, ↓reduceIte, x1, x2, p1, a1, xs, Bool.true_eq_false]
        · show f_M_sure _ 91 _ _ _ _ _ = _
          simp (disch := (first | omega | assumption)) only [f_M_sure, zg_12, zbs, nI_add, pk_mul, znI_add1, znI_sub1, znI_subm, zle_nI, zlt_nI, zeq_nI, zle_0, zeq_0, zlt_0, zeq_m, zeq_1, zge_0, zbt0, zbt1, zB_0, zB_1, zB_b, zbool_0, zbool_1, ↓reduceIte, m1', m2', p2, Bool.true_eq_false]
          exact b1
      · refine ⟨-1000000, I, J, s, I, J, ?_, ?_, zfr_refl _ _, Or.inl rfl⟩
        · show f_W_sure _ 0 _ _ _ _ _ = _
          simp (disch := (first | omega | assumption)) only [f_W_sure, zg_11, gp_11_10, zbs, nI_add, pk_mul, znI_add1, znI_sub1, znI_subm, zle_nI, zlt_nI, zeq_nI, zle_0, zeq_0, zlt_0, zeq_m, zeq_1, zge_0, zbt0, zbt1, zB_0, zB_1, zB_b, zbool_0, zbool_1, ↓reduceIte, x1, x2, p1, Bool.true_eq_false]
        · show f_M_sure _ 91 _ _ _ _ _ = _
          simp (disch := (first | omega | assumption)) only [f_M_sure, zg_12, zbs, nI_add, pk_mul, znI_add1, znI_sub1, znI_subm, zle_nI, zlt_nI, zeq_nI, zle_0, zeq_0, zlt_0, zeq_m, zeq_1, zge_0, zbt0, zbt1, zB_0, zB_1, zB_b, zbool_0, zbool_1, ↓reduceIte, m1, m2, p2, Bool.true_eq_false]
    · rw [hc] at x2 m2
      refine ⟨-1000000, I, J, s, I, J, ?_, ?_, zfr_refl _ _, Or.inl rfl⟩
      · show f_W_sure _ 0 _ _ _ _ _ = _
        simp (disch := (first | omega | assumption)) only [f_W_sure, zg_11, gp_11_10, zbs, nI_add, pk_mul, znI_add1, znI_sub1, znI_subm, zle_nI, zlt_nI, zeq_nI, zle_0, zeq_0, zlt_0, zeq_m, zeq_1, zge_0, zbt0, zbt1, zB_0, zB_1, zB_b, zbool_0, zbool_1, ↓reduceIte, x1, x2, Bool.true_eq_false]
      · show f_M_sure _ 91 _ _ _ _ _ = _
        simp (disch := (first | omega | assumption)) only [f_M_sure, zg_12, zbs, nI_add, pk_mul, znI_add1, znI_sub1, znI_subm, zle_nI, zlt_nI, zeq_nI, zle_0, zeq_0, zlt_0, zeq_m, zeq_1, zge_0, zbt0, zbt1, zB_0, zB_1, zB_b, zbool_0, zbool_1, ↓reduceIte, m1, m2, Bool.true_eq_false]
  · rw [hr] at x1 m1
    refine ⟨-1000000, I, J, s, I, J, ?_, ?_, zfr_refl _ _, Or.inl rfl⟩
    · show f_W_sure _ 0 _ _ _ _ _ = _
      simp (disch := (first | omega | assumption)) only [f_W_sure, zg_11, gp_11_10, zbs, nI_add, pk_mul, znI_add1, znI_sub1, znI_subm, zle_nI, zlt_nI, zeq_nI, zle_0, zeq_0, zlt_0, zeq_m, zeq_1, zge_0, zbt0, zbt1, zB_0, zB_1, zB_b, zbool_0, zbool_1, ↓reduceIte, x1]
    · show f_M_sure _ 91 _ _ _ _ _ = _
      simp (disch := (first | omega | assumption)) only [f_M_sure, zg_12, zbs, nI_add, pk_mul, znI_add1, znI_sub1, znI_subm, zle_nI, zlt_nI, zeq_nI, zle_0, zeq_0, zlt_0, zeq_m, zeq_1, zge_0, zbt0, zbt1, zB_0, zB_1, zB_b, zbool_0, zbool_1, ↓reduceIte, m1]
end ZSu
