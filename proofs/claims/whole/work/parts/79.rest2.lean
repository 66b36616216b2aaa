/-! rest -/
section ZRf
variable {I : Nat → Nat → Int32} {J : Nat → Nat → Int64} {t u i f s x : Nat} {nt nb nr q sh md om im A : Nat} {LW BW : List Int32}
theorem m_layAs (hC : zCo I t nt nb nr q sh md om im LW BW) {m r : Nat} (hm : m ≤ 2) (hr : r < nr) {h : Option Nat} (hhb : ∀ v, h = some v → v < (2 * m + 1) ^ nt) :
    ∃ I', f_M_layAs (zs I J (zPt t u i f s x)) 91 (nI r) (zoI h) (nI m) = some (zs I' J (zPt t u i f s x)) ∧ zfr (zSl [101, 102, 112, 113]) I I' ∧ (∀ b, b < nb → zKm I' r b = zKA I nt m LW r h b) ∧ ∀ r' b, b < nb → r' ≠ r → r' < nr → zKm I' r' b = zKm I r' b := by
  have hM := hC.2.1.1
  have hnb := hM.2.1.2
  have hnr := hM.2.2.1.2
  have hR := zR_le (m := m) hm hM.1.2
  cases h with
  | none =>
    obtain ⟨I', a1, a2, a3, a4, -⟩ := g_M_layOwn (J := J) (t := t) (u := u) (i := i) (f := f) (s := s) (x := x) hM (show r < 6 by omega)
    refine ⟨I', ?_, a2, a3, fun r' b hb hne hr' => a4 _ (by omega)⟩
    have n1 : ¬ (0 : Int32) ≤ zoI none := by decide
    simp (disch := (first | omega | assumption)) only [f_M_layAs, zg_12, zbs, nI_add, pk_mul, znI_add1, znI_sub1, znI_subm, zle_nI, zlt_nI, zeq_nI, zle_0, zeq_0, zlt_0, zeq_m, zeq_1, zge_0, zbt0, zbt1, zB_0, zB_1, zB_b, zbool_0, zbool_1, ↓reduceIte, n1, a1]
  | some v =>
    have hv := hhb v rfl
    obtain ⟨I', a1, a2, a3, a4, -⟩ := g_M_layByRow (J := J) (t := t) (u := u) (i := i) (f := f) (s := s) (x := x) hM hm (show v < 625 by omega) (show r < 6 by omega)
    refine ⟨I', ?_, a2, a3, fun r' b hb hne hr' => a4 _ (by omega)⟩
    have n1 : (0 : Int32) ≤ zoI (some v) := nI_pos' (show v < 2 ^ 31 by omega)
    have a1 : f_M_layByRow (zs I J (zPt t u i f s x)) 91 (nI r) (zoI (some v)) (nI m) = _ := a1
    simp (disch := (first | omega | assumption)) only [f_M_layAs, zg_12, zbs, nI_add, pk_mul, znI_add1, znI_sub1, znI_subm, zle_nI, zlt_nI, zeq_nI, zle_0, zeq_0, zlt_0, zeq_m, zeq_1, zge_0, zbt0, zbt1, zB_0, zB_1, zB_b, zbool_0, zbool_1, ↓reduceIte, n1, a1]
theorem zKA_fr {I' : Nat → Nat → Int32} (hf : zfr zSg I I') (m r : Nat) (h : Option Nat) : zKA I' nt m LW r h = zKA I nt m LW r h := by
  cases h with
  | none =>
    show zKy I' nt LW r = zKy I nt LW r
    rw [zKy_fr hf]
  | some v => exact zfK_fr hf m r v
theorem m_take {I0 : Nat → Nat → Int32} (hC : zCo I0 t nt nb nr q sh md om im LW BW) (hf : zfr zSg I0 I) {m r o : Nat} (hm : m ≤ 2) (hr : r < nr) (ho : o < nr) {h : Option Nat} (hhb : ∀ v, h = some v → v < (2 * m + 1) ^ nt) {K : Nat → Nat → Int32} (hK : ∀ r' b, r' < nr → b < nb → r' ≠ r → zKm I r' b = K r' b) (hKr : ∀ b, b < nb → K r b = zKA I0 nt m LW r h b) {b : Nat} (hb : b < nb) (hob : om.testBit b = false) :
    ∃ I', f_M_takes (zs I J (zPt t u i f s x)) 91 (nI r) (zoI h) (nI o) (nI b) (nI m) = some (zoI (ztk I0 nt nb nr q om m (2 ^ r ||| 2 ^ o) LW r b K h), (zs I' J (zPt t u i f s x))) ∧ zfr zSg I I' ∧ (I' 91 68 = I 91 68 ∧ I' 91 69 = I 91 69) ∧ ∀ r' b', r' < nr → b' < nb → zKm I' r' b' = zKw K r (zKA I0 nt m LW r (ztk I0 nt nb nr q om m (2 ^ r ||| 2 ^ o) LW r b K h)) r' b' := by
  have hnb := hC.2.1.1.2.1.2
  have hnr := hC.2.1.1.2.2.1.2
  have hnt := hC.2.1.1.1.2
  have hR := zR_le (m := m) hm hnt
  have hC1 := zCo_fr hC hf
  obtain ⟨I2, a1, a2, a3, a4⟩ := m_layAs (J := J) (t := t) (u := u) (i := i) (f := f) (s := s) (x := x) hC1 hm hr hhb
  have f2 : zfr zSg I0 I2 := zfr_trans hf (zfs_g a2)
  have hC2 := zCo_fr hC f2
  have hK2 : ∀ r' b, r' < nr → b < nb → zKm I2 r' b = K r' b := fun r' b hr' hb => by
    by_cases hrr : r' = r
    · subst hrr
      rw [a3 b hb, zKA_fr hf, hKr b hb]
    · rw [a4 r' b hb hrr hr']
      exact hK r' b hr' hb hrr
  obtain ⟨I3, b1, b2, b3, -⟩ := m_stepsBoth (J := J) (t := t) (u := u) (i := i) (f := f) (s := s) (x := x) hC2 hK2 hr ho hb hob
  have f3 : zfr zSg I0 I3 := zfr_trans f2 (zfr_g b2 zSg_ls)
  have hC3 := zCo_fr hC f3
  have hK3 : ∀ r' b, r' < nr → b < nb → r' ≠ r → zKm I3 r' b = K r' b := fun r' b hr' hb _ => by rw [zKm_ls b2]; exact hK2 r' b hr' hb
  obtain ⟨I4, c1, c2, c3, c4, c5, c6, c7⟩ := m_bestRow (J := J) (t := t) (u := u) (i := i) (f := f) (s := s) (x := x) hC3 hm hK3 hr ho hb hob
  have hkr3 : ∀ v, (fun b => zkm I3 nt LW (zcell m nt v) r b) = fun b => zkm I0 nt LW (zcell m nt v) r b := fun v => zfK_fr f3 m r v
  have hP : (fun v => zPK (zKw K r (fun b => zkm I3 nt LW (zcell m nt v) r b)) q nr nb om (2 ^ r ||| 2 ^ o) b) = fun v => zPK (zKw K r (fun b => zkm I0 nt LW (zcell m nt v) r b)) q nr nb om (2 ^ r ||| 2 ^ o) b := by
    funext v
    rw [hkr3 v]
  obtain ⟨hcl, -, hcm⟩ := zcs_spec (I := I0) (nt := nt) (nr := nr) (q := q) (sh := sh) (LW := LW) (m := m) (set := 2 ^ r ||| 2 ^ o) (r := r) (K := K) hnb hb hob
  rw [hP, hcm] at c6 c7
  dsimp only at c6 c7
  have f4 : zfr zSg I0 I4 := zfr_trans f3 c2
  have hC4 := zCo_fr hC f4
  have hs1 := zst_lt (sh := sh) b3
  have hs2 := zst_lt (sh := sh) (zPK_10 (K := zKw K r (fun b' => zkm I0 nt LW (zcell m nt (zcs I0 nt nb nr q om m (2 ^ r ||| 2 ^ o) LW r b K)) r b')) (q := q) (nr := nr) (set := 2 ^ r ||| 2 ^ o) hnb hb hob)
  have hh' : ∀ v, ztk I0 nt nb nr q om m (2 ^ r ||| 2 ^ o) LW r b K h = some v → v < (2 * m + 1) ^ nt := fun v hv => by
    unfold ztk at hv
    split at hv
    · cases hv; exact hcl
    · exact hhb v hv
  obtain ⟨I5, d1, d2, d3, d4⟩ := m_layAs (h := ztk I0 nt nb nr q om m (2 ^ r ||| 2 ^ o) LW r b K h) (J := J) (t := t) (u := u) (i := i) (f := f) (s := s) (x := x) hC4 hm hr hh'
  have k91 : ∀ k, k ≠ 54 → k ≠ 66 → k ≠ 67 → I5 91 k = I 91 k := fun k h1 h2 h3 => by
    rw [zfr_sl d2 91 rfl, c4 k h1 h2 h3, zLs_91 b2 k h1, zfr_sl a2 91 rfl]
  refine ⟨I5, ?_, zfr_trans (zfs_g a2) (zfr_trans (zfr_g b2 zSg_ls) (zfr_trans c2 (zfs_g d2))), ⟨k91 68 (by decide) (by decide) (by decide), k91 69 (by decide) (by decide) (by decide)⟩, fun r' b' hr' hb' => ?_⟩
  · by_cases hlt : zPK (zKw K r (fun b' => zkm I0 nt LW (zcell m nt (zcs I0 nt nb nr q om m (2 ^ r ||| 2 ^ o) LW r b K)) r b')) q nr nb om (2 ^ r ||| 2 ^ o) b < zPK K q nr nb om (2 ^ r ||| 2 ^ o) b
    · have hm1 := zst_mono (sh := sh) hlt
      have hle : ¬ zst sh (zPK K q nr nb om (2 ^ r ||| 2 ^ o) b) ≤ zst sh (zPK (zKw K r (fun b' => zkm I0 nt LW (zcell m nt (zcs I0 nt nb nr q om m (2 ^ r ||| 2 ^ o) LW r b K)) r b')) q nr nb om (2 ^ r ||| 2 ^ o) b) := by omega
      have hz : ztk I0 nt nb nr q om m (2 ^ r ||| 2 ^ o) LW r b K h = some (zcs I0 nt nb nr q om m (2 ^ r ||| 2 ^ o) LW r b K) := by
        unfold ztk
        rw [if_pos hlt]
      rw [hz] at d1 ⊢
      have d1 : f_M_layAs (zs I4 J (zPt t u i f s x)) 91 (nI r) (nI (zcs I0 nt nb nr q om m (2 ^ r ||| 2 ^ o) LW r b K)) (nI m) = _ := d1
      simp (disch := (first | omega | assumption)) only [f_M_takes, f_M_takes_45, zg_12, gi_12, zbs, nI_add, pk_mul, znI_add1, znI_sub1, znI_subm, zle_nI, zlt_nI, zeq_nI, zle_0, zeq_0, zlt_0, zeq_m, zeq_1, zge_0, zbt0, zbt1, zB_0, zB_1, zB_b, zbool_0, zbool_1, ↓reduceIte, a1, b1, c1, c7, c6, hle, d1]
      rfl
    · have hle : zst sh (zPK K q nr nb om (2 ^ r ||| 2 ^ o) b) ≤ zst sh (zPK (zKw K r (fun b' => zkm I0 nt LW (zcell m nt (zcs I0 nt nb nr q om m (2 ^ r ||| 2 ^ o) LW r b K)) r b')) q nr nb om (2 ^ r ||| 2 ^ o) b) := by
        rcases Nat.lt_or_eq_of_le (Nat.not_lt.mp hlt) with h | h
        · have := zst_mono (sh := sh) h
          omega
        · rw [h]; exact Nat.le_refl _
      have hz : ztk I0 nt nb nr q om m (2 ^ r ||| 2 ^ o) LW r b K h = h := by
        unfold ztk
        rw [if_neg hlt]
      rw [hz] at d1 ⊢
      simp (disch := (first | omega | assumption)) only [f_M_takes, f_M_takes_45, zg_12, gi_12, zbs, nI_add, pk_mul, znI_add1, znI_sub1, znI_subm, zle_nI, zlt_nI, zeq_nI, zle_0, zeq_0, zlt_0, zeq_m, zeq_1, zge_0, zbt0, zbt1, zB_0, zB_1, zB_b, zbool_0, zbool_1, ↓reduceIte, a1, b1, c1, c7, hle, d1]
  · unfold zKw
    by_cases hrr : r' = r
    · subst hrr
      rw [if_pos rfl, d3 b' hb', zKA_fr f4]
    · rw [if_neg hrr, d4 r' b' hb' hrr hr']
      exact c5 r' b' hr' hb' hrr
/-- keys of all, when r and o have taken h -/
def zKh (I : Nat → Nat → Int32) (nt m : Nat) (LW : List Int32) (r o : Nat) (h : Option Nat × Option Nat) : Nat → Nat → Int32 := zKw (zKw (zKy I nt LW) r (zKA I nt m LW r h.1)) o (zKA I nt m LW o h.2)
/-- a turn of both -/
def zrtn (I : Nat → Nat → Int32) (nt nb nr q om m : Nat) (LW : List Int32) (r o b1 b2 : Nat) (h : Option Nat × Option Nat) : Option Nat × Option Nat :=
  (ztk I nt nb nr q om m (2 ^ r ||| 2 ^ o) LW r b1 (zKh I nt m LW r o h) h.1, ztk I nt nb nr q om m (2 ^ r ||| 2 ^ o) LW o b2 (zKh I nt m LW r o (ztk I nt nb nr q om m (2 ^ r ||| 2 ^ o) LW r b1 (zKh I nt m LW r o h) h.1, h.2)) h.2)
def zrf (step : Option Nat × Option Nat → Option Nat × Option Nat) : Nat → Nat → Option Nat × Option Nat → Option (Nat × (Option Nat × Option Nat))
  | 0, _, _ => none
  | d + 1, n, h => if step h = h then some (n, h) else zrf step d (n + 1) (step h)
theorem zKh_r {m r o : Nat} (hro : r ≠ o) (h : Option Nat × Option Nat) (k : Option Nat) : zKw (zKh I nt m LW r o h) r (zKA I nt m LW r k) = zKh I nt m LW r o (k, h.2) := by
  funext r' b
  unfold zKh zKw
  by_cases h1 : r' = r
  · subst h1
    simp [hro]
  · by_cases h2 : r' = o
    · subst h2
      simp [h1]
    · simp [h1, h2]
theorem zKh_o {m r o : Nat} (h : Option Nat × Option Nat) (k : Option Nat) : zKw (zKh I nt m LW r o h) o (zKA I nt m LW o k) = zKh I nt m LW r o (h.1, k) := by
  unfold zKh
  rw [zKw_w]
theorem zKh_at {m r o : Nat} (hro : r ≠ o) (h : Option Nat × Option Nat) (b : Nat) : zKh I nt m LW r o h r b = zKA I nt m LW r h.1 b ∧ zKh I nt m LW r o h o b = zKA I nt m LW o h.2 b := by
  unfold zKh zKw
  simp [hro]
theorem ztk_ne {m set r b : Nat} {K : Nat → Nat → Int32} {h : Option Nat} (hnb : nb ≤ 10) (hnr : nr ≤ 6) (hset : set < 2 ^ nr) (hKr : ∀ b, b < nb → K r b = zKA I nt m LW r h b) (hlt : zPK (zKw K r (fun b' => zkm I nt LW (zcell m nt (zcs I nt nb nr q om m set LW r b K)) r b')) q nr nb om set b < zPK K q nr nb om set b) : ¬ some (zcs I nt nb nr q om m set LW r b K) = h := fun e => by
  have : zord (zKw K r (fun b' => zkm I nt LW (zcell m nt (zcs I nt nb nr q om m set LW r b K)) r b')) q nr nb (zokO om) set = zord K q nr nb (zokO om) set := zord_congr hset hnr (fun r' b' hr' hb' => by
    unfold zKw
    by_cases hrr : r' = r
    · subst hrr
      rw [if_pos rfl, hKr b' hb', ← e]
      rfl
    · rw [if_neg hrr]) (fun _ _ => rfl)
  unfold zPK at hlt
  rw [this] at hlt
  omega
/-- whether he took another one -/
theorem ztk_ch {m set r b : Nat} {K : Nat → Nat → Int32} {h : Option Nat} (hnb : nb ≤ 10) (hnr : nr ≤ 6) (hset : set < 2 ^ nr) (hKr : ∀ b, b < nb → K r b = zKA I nt m LW r h b) : decide (zPK (zKw K r (fun b' => zkm I nt LW (zcell m nt (zcs I nt nb nr q om m set LW r b K)) r b')) q nr nb om set b < zPK K q nr nb om set b) = !decide (ztk I nt nb nr q om m set LW r b K h = h) := by
  by_cases hlt : zPK (zKw K r (fun b' => zkm I nt LW (zcell m nt (zcs I nt nb nr q om m set LW r b K)) r b')) q nr nb om set b < zPK K q nr nb om set b
  · have hne := ztk_ne hnb hnr hset hKr hlt
    unfold ztk
    rw [if_pos hlt, decide_eq_true hlt, decide_eq_false hne]
    rfl
  · unfold ztk
    rw [if_neg hlt, decide_eq_false hlt]
    simp
end ZRf
