/-! rest: what one takes -/
/-- his keys: as he is, or by a row -/
def zKA (I : Nat → Nat → Int32) (nt m : Nat) (LW : List Int32) (r : Nat) (h : Option Nat) : Nat → Int32 := match h with
  | none => zKy I nt LW r
  | some v => fun b => zkm I nt LW (zcell m nt v) r b
/-- the row that is nearest for b, by keys K -/
def zcs (I : Nat → Nat → Int32) (nt nb nr q om m set : Nat) (LW : List Int32) (r b : Nat) (K : Nat → Nat → Int32) : Nat := (zrn (ztx (fun v => zPK (zKw K r (fun b => zkm I nt LW (zcell m nt v) r b)) q nr nb om set b)) ((2 * m + 1) ^ nt) 0 (0, 10)).1
/-- what he takes -/
def ztk (I : Nat → Nat → Int32) (nt nb nr q om m set : Nat) (LW : List Int32) (r b : Nat) (K : Nat → Nat → Int32) (h : Option Nat) : Option Nat :=
  if zPK (zKw K r (fun b' => zkm I nt LW (zcell m nt (zcs I nt nb nr q om m set LW r b K)) r b')) q nr nb om set b < zPK K q nr nb om set b then some (zcs I nt nb nr q om m set LW r b K) else h
theorem zKw_same {K : Nat → Nat → Int32} {r nr nb : Nat} {k : Nat → Int32} (h : ∀ b, b < nb → K r b = k b) : ∀ r' b, r' < nr → b < nb → K r' b = zKw K r k r' b := fun r' b _ hb => by
  unfold zKw
  by_cases hr : r' = r
  · subst hr; rw [if_pos rfl]; exact h b hb
  · rw [if_neg hr]
theorem zKw_w {K : Nat → Nat → Int32} {r : Nat} {k k' : Nat → Int32} : zKw (zKw K r k) r k' = zKw K r k' := by
  funext r' b
  unfold zKw
  by_cases hr : r' = r
  · rw [if_pos hr, if_pos hr]
  · rw [if_neg hr, if_neg hr, if_neg hr]
def zSk (A t : Nat) : Nat → Nat → Bool := fun a k => zSw a k || (a == 51 && k != 2 && k != 3) || a == t + 7 || (a == A && k == 1)
section ZRe
variable {I : Nat → Nat → Int32} {J : Nat → Nat → Int64} {t u i f s x : Nat} {nt nb nr q sh md om im A : Nat} {LW BW : List Int32}
theorem zSg_k (hA : A = 52 ∨ A = 56) (ht : t = 2 ∨ t = 13) : ∀ a k, zSk A t a k = true → zSg a k = true := fun a k h => by
  unfold zSk at h
  simp only [Bool.or_eq_true] at h
  rcases h with ((h | h) | h) | h
  · exact zSg_w a k h
  · simp at h
    obtain ⟨⟨rfl, h1⟩, h2⟩ := h
    simp [zSg, h1, h2]
  · simp at h
    subst h
    rcases ht with rfl | rfl <;> rfl
  · simp at h
    obtain ⟨rfl, -⟩ := h
    rcases hA with rfl | rfl <;> rfl
theorem zcs_spec {K : Nat → Nat → Int32} {m set r b : Nat} (hnb : nb ≤ 10) (hb : b < nb) (hob : om.testBit b = false) : zcs I nt nb nr q om m set LW r b K < (2 * m + 1) ^ nt ∧ zrn (ztx (fun v => zPK (zKw K r (fun b => zkm I nt LW (zcell m nt v) r b)) q nr nb om set b)) ((2 * m + 1) ^ nt) 0 (0, 10) = (zcs I nt nb nr q om m set LW r b K, zPK (zKw K r (fun b' => zkm I nt LW (zcell m nt (zcs I nt nb nr q om m set LW r b K)) r b')) q nr nb om set b) ∧ zrn (zthm (fun v => zPK (zKw K r (fun b => zkm I nt LW (zcell m nt v) r b)) q nr nb om set b) sh) ((2 * m + 1) ^ nt) 0 (0, 1000000) = (zcs I nt nb nr q om m set LW r b K, zst sh (zPK (zKw K r (fun b' => zkm I nt LW (zcell m nt (zcs I nt nb nr q om m set LW r b K)) r b')) q nr nb om set b)) := by
  have hRp : 0 < (2 * m + 1) ^ nt := Nat.pow_pos (by omega)
  obtain ⟨c, hc, n1, n2⟩ := znear (P := fun v => zPK (zKw K r (fun b => zkm I nt LW (zcell m nt v) r b)) q nr nb om set b) (sh := sh) hRp (fun k _ => zPK_10 hnb hb hob)
  have e : zcs I nt nb nr q om m set LW r b K = c := by
    unfold zcs
    rw [n1]
  rw [e]
  exact ⟨hc, n1, n2⟩
theorem x_take (hA : A = 52 ∨ A = 56) {I0 : Nat → Nat → Int32} (hC : zCo I0 t nt nb nr q sh md om im LW BW) (hf : zfr zSg I0 I) (hS : zSh I t nb nr q (zhm nb om)) {m r : Nat} (hm : m ≤ 2) (hr : r < nr) (hW : zRw I A nt nb m r (fun v b => zkm I0 nt LW (zcell m nt v) r b)) {h : Option Nat} (hh : I A 1 = zoI h) (hhb : ∀ v, h = some v → v < (2 * m + 1) ^ nt) {K : Nat → Nat → Int32} (hK : ∀ r' b, r' < nr → b < nb → zKx I r' b = K r' b) (hKr : ∀ b, b < nb → K r b = zKA I0 nt m LW r h b) {set b : Nat} (hset : set < 2 ^ nr) (hb : b < nb) (hob : om.testBit b = false) :
    ∃ I', f_R_takeBetter (zs I J (zPt t u i f t x)) A 47 30 (nI set) (nI b) = some (zB (decide (zPK (zKw K r (fun b' => zkm I0 nt LW (zcell m nt (zcs I0 nt nb nr q om m set LW r b K)) r b')) q nr nb om set b < zPK K q nr nb om set b)), (zs I' J (zPt t u i f t x))) ∧ zfr (zSk A t) I I' ∧ zSh I' t nb nr q (zhm nb om) ∧ I' A 1 = zoI (ztk I0 nt nb nr q om m set LW r b K h) ∧ ∀ r' b', r' < nr → b' < nb → zKx I' r' b' = zKw K r (zKA I0 nt m LW r (ztk I0 nt nb nr q om m set LW r b K h)) r' b' := by
  have ht := hC.1
  have hnb := hS.2.1
  have hnr := hS.2.2.2.1
  have hnt := hC.2.1.1.1.2
  have hR := zR_le (m := m) hm hnt
  have fw : ∀ {I1 I2 : Nat → Nat → Int32}, zfr zSw I1 I2 → zfr (zSk A t) I1 I2 := fun h => zfr_mono h (fun a k h => by simp [zSk, h])
  obtain ⟨I1, a1, a2, a3⟩ := g_placeK (J := J) (t := t) (u := u) (i := i) (f := f) (x := x) ht hS hK hset hb hob
  have f1 : zfr zSw I I1 := zfr_mono a2 zXls_w
  have hS1 := zSh_w ht hS f1
  have hW1 := zRw_fr hA hW f1
  have hK1 : ∀ r' b, r' < nr → b < nb → zKx I1 r' b = K r' b := by rw [zKx_ls a2]; exact hK
  have eA : ∀ {I1 I2 : Nat → Nat → Int32}, zfr zSw I1 I2 → I2 A = I1 A := fun h => zfr_row h A (fun k => by rcases hA with rfl | rfl <;> rfl)
  obtain ⟨hcl, hcx, -⟩ := zcs_spec (I := I0) (nt := nt) (nr := nr) (q := q) (sh := sh) (LW := LW) (m := m) (set := set) (r := r) (K := K) hnb hb hob
  have n10 : ¬ (1 : Int32) = 0 := by decide
  by_cases h0 : zPK K q nr nb om set b = 0
  · have hz : ztk I0 nt nb nr q om m set LW r b K h = h := by
      unfold ztk
      rw [if_neg (by omega)]
    rw [hz, h0]
    refine ⟨I1, ?_, fw f1, hS1, ?_, fun r' b' hr' hb' => ?_⟩
    · rw [h0] at a1
      simp (disch := (first | omega | assumption)) only [f_R_takeBetter, zg_6, gi_6, si_6, gp_4_1, ai_4_1, zbs, nI_add, pk_mul, znI_add1, znI_sub1, znI_subm, zle_nI, zlt_nI, zeq_nI, zle_0, zeq_0, zlt_0, zeq_m, zeq_1, zge_0, zbt0, zbt1, zB_0, zB_1, zB_b, zbool_0, zbool_1, ↓reduceIte, a1]
      simp [zB, zbool]
    · rw [eA f1]; exact hh
    · rw [hK1 r' b' hr' hb']
      exact zKw_same (nr := nr) hKr r' b' hr' hb'
  · obtain ⟨I2, b1, b2, b3⟩ := x_nearest (J := J) (t := t) (u := u) (i := i) (f := f) (x := x) hA ht hS1 hW1 hR hr hK1 hset hb hob
    rw [hcx] at b1 b3
    dsimp only at b1 b3
    have hS2 := zSh_w ht hS1 b2
    obtain ⟨I3, c1, c2, c3⟩ := g_placeK (J := J) (t := t) (u := u) (i := i) (f := f) (x := x) ht hS2 b3 hset hb hob
    have f3 : zfr zSw I I3 := zfr_trans f1 (zfr_trans b2 (zfr_mono c2 zXls_w))
    have hS3 := zSh_ls ht hS2 c2
    have hW3 := zRw_fr hA hW f3
    have hK3 : ∀ r' b', r' < nr → b' < nb → zKx I3 r' b' = zKw K r (fun b' => zkm I0 nt LW (zcell m nt (zcs I0 nt nb nr q om m set LW r b K)) r b') r' b' := by rw [zKx_ls c2]; exact b3
    have h31 : I3 A 1 = zoI h := by rw [eA f3]; exact hh
    have h32 : I3 A 2 = nI r := hW3.1
    unfold ztk
    by_cases hlt : zPK (zKw K r (fun b' => zkm I0 nt LW (zcell m nt (zcs I0 nt nb nr q om m set LW r b K)) r b')) q nr nb om set b < zPK K q nr nb om set b
    · rw [if_pos hlt, decide_eq_true hlt]
      have hlt2 : ¬ zPK K q nr nb om set b ≤ zPK (zKw K r (fun b' => zkm I0 nt LW (zcell m nt (zcs I0 nt nb nr q om m set LW r b K)) r b')) q nr nb om set b := by omega
      refine ⟨zup I3 A 1 (nI (zcs I0 nt nb nr q om m set LW r b K)), ?_, zfr_up (fw f3) (by simp [zSk]), ?_, zup_s _ _ _ _, fun r' b' hr' hb' => ?_⟩
      · simp (disch := (first | omega | assumption)) only [f_R_takeBetter, zg_6, gi_6, si_6, gp_4_1, ai_4_1, zbs, nI_add, pk_mul, znI_add1, znI_sub1, znI_subm, zle_nI, zlt_nI, zeq_nI, zle_0, zeq_0, zlt_0, zeq_m, zeq_1, zge_0, zbt0, zbt1, zB_0, zB_1, zB_b, zbool_0, zbool_1, ↓reduceIte, a1, h0, b1, c1, hlt2]
        rfl
      · unfold zSh
        rw [zup_ne _ _ _ (by omega), zup_ne _ _ _ (by omega)]
        exact hS3
      · have : zKx (zup I3 A 1 (nI (zcs I0 nt nb nr q om m set LW r b K))) = zKx I3 := by
          unfold zKx
          rw [zup_ne _ _ _ (by omega)]
        rw [this]
        exact hK3 r' b' hr' hb'
    · rw [if_neg hlt, decide_eq_false hlt]
      have hlt2 : zPK K q nr nb om set b ≤ zPK (zKw K r (fun b' => zkm I0 nt LW (zcell m nt (zcs I0 nt nb nr q om m set LW r b K)) r b')) q nr nb om set b := by omega
      cases h with
      | none =>
        have h31' : I3 A 1 = -1 := h31
        have hC3 := zCo_fr hC (zfr_trans hf (zfr_g f3 zSg_w))
        obtain ⟨I4, d1, d2, d3, d4⟩ := g_S_weigh (N := 30) (J := J) (t := t) (u := u) (i := i) (f := f) (x := x) ht (Or.inl rfl) hC3.2.1.2.1 hC3.2.2.2.2.2.2.1 hC3.2.2.2.2.2.2.2 (show r < 6 by omega) (I3 32 r)
        refine ⟨I4, ?_, zfr_trans (fw f3) (zfr_mono d2 (fun a k h => ?_)), ?_, ?_, fun r' b' hr' hb' => ?_⟩
        · simp (disch := (first | omega | assumption)) only [f_R_takeBetter, zg_6, gi_6, si_6, gp_4_1, ai_4_1, zbs, nI_add, pk_mul, znI_add1, znI_sub1, znI_subm, zle_nI, zlt_nI, zeq_nI, zle_0, zeq_0, zlt_0, zeq_m, zeq_1, zge_0, zbt0, zbt1, zB_0, zB_1, zB_b, zbool_0, zbool_1, ↓reduceIte, a1, h0, b1, c1, hlt2, h31', h32, Nat.reduceAdd, ai_32, d1]
          rfl
        · unfold zKs at h
          simp at h
          rcases h with (rfl | h) | rfl
          · rfl
          · simp [zSk, h]
          · simp [zSk]
        · unfold zSh
          rw [zKs_row ht d2 t (by omega) (by omega) (by omega), zKs_row ht d2 47 (by decide) (by decide) (by omega)]
          exact hS3
        · rw [zKs_row ht d2 A (by omega) (by omega) (by omega)]; exact h31
        · unfold zKw
          by_cases hrr : r' = r
          · subst hrr
            rw [if_pos rfl]
            show I4 48 (10 * r' + b') = zKy I0 nt LW r' b'
            rw [d3 b' hb']
            have := zbridge hC3 hr hb'
            rw [zKy_fr (zfr_trans hf (zfr_g f3 zSg_w))] at this
            exact this
          · rw [if_neg hrr]
            show I4 48 (10 * r' + b') = _
            rw [d4 _ (by omega)]
            have := hK3 r' b' hr' hb'
            unfold zKw at this
            rw [if_neg hrr] at this
            exact this
      | some v =>
        have hv := hhb v rfl
        have h31' : I3 A 1 = nI v := h31
        have w1 := g_R_wear (J := J) (t := t) (u := u) (i := i) (f := f) (s := t) (x := x) hA hW3 hR (show r < 6 by omega) hv
        have kk := zwear_K (nr := nr) hA hW3 hnb (show r < 6 by omega) hv hK3
        refine ⟨zro I3 48 (va_cpy (I3 (A + 2)) (I3 48) (10 * v) (10 * r) 10), ?_, fw (zfr_ro f3 (fun _ => rfl)), zSh_w ht hS3 (zfr_ro (zfr_refl _ _) (fun _ => rfl)), ?_, fun r' b' hr' hb' => ?_⟩
        · have n1 : ¬ nI v = -1 := znI_ne_m1 (by omega)
          simp (disch := (first | omega | assumption)) only [f_R_takeBetter, zg_6, gi_6, si_6, gp_4_1, ai_4_1, zbs, nI_add, pk_mul, znI_add1, znI_sub1, znI_subm, zle_nI, zlt_nI, zeq_nI, zle_0, zeq_0, zlt_0, zeq_m, zeq_1, zge_0, zbt0, zbt1, zB_0, zB_1, zB_b, zbool_0, zbool_1, ↓reduceIte, a1, h0, b1, c1, hlt2, h31', n1, w1]
          rfl
        · rw [zro_ne _ _ (by omega)]; exact h31
        · rw [kk r' b' hr' hb', zKw_w]
          rfl
end ZRe
