/-! the nearest row -/
/-- keys, with those of r by another row -/
def zKw (K : Nat → Nat → Int32) (r : Nat) (k : Nat → Int32) : Nat → Nat → Int32 := fun r' b => if r' = r then k b else K r' b
/-- the place of b for a party by keys K -/
def zPK (K : Nat → Nat → Int32) (q nr nb om set b : Nat) : Nat := zps (zord K q nr nb (zokO om) set) b
theorem zcp {I : Nat → Nat → Int32} {J : Nat → Nat → Int64} {P : Nat → Nat → Option Nat} {a a2 n1 n2 sp dp n : Nat} (h : zLAY[a]? = some (1, n1)) (h2 : zLAY[a2]? = some (1, n2)) (h3 : sp + n ≤ n1) (h4 : dp + n ≤ n2) (hn1 : n1 < 2 ^ 31) (hn2 : n2 < 2 ^ 31) : zcpy (zs I J P) a (nI sp) a2 (nI dp) (nI n) = some (zs (zro I a2 (va_cpy (I a) (I a2) sp dp n)) J P) := by
  unfold zcpy
  rw [zs_1, h, h2]
  simp only [zs_I, nI_clamp (show sp < 2 ^ 31 by omega), nI_clamp (show dp < 2 ^ 31 by omega), nI_clamp (show n < 2 ^ 31 by omega)]
  rw [if_pos ⟨trivial, trivial, nI_pos (by omega), nI_pos (by omega), nI_pos (by omega), h3, h4⟩]
  rfl
def zSw : Nat → Nat → Bool := fun a k => a == 48 || a == 49 || a == 50 || (a == 47 && k == 2)
theorem zSg_w : ∀ a k, zSw a k = true → zSg a k = true := fun a k h => by
  unfold zSw at h
  simp at h
  rcases h with ((rfl | rfl) | rfl) | ⟨rfl, rfl⟩ <;> rfl
theorem zXls_w : ∀ a k, zXls a k = true → zSw a k = true := fun a k h => by
  unfold zXls at h
  simp at h
  rcases h with (rfl | rfl) | ⟨rfl, rfl⟩ <;> rfl
theorem ztx_at {P : Nat → Nat} {n : Nat} (hP : ∀ k, k < n → P k < 10) : ∀ d, 0 < d → d ≤ n → (zrn (ztx P) d 0 (0, 10)).1 < d ∧ (zrn (ztx P) d 0 (0, 10)).2 = P (zrn (ztx P) d 0 (0, 10)).1 := by
  intro d
  induction d with
  | zero => intro h; omega
  | succ d ih =>
    intro _ hd
    rw [zrn_succ, Nat.zero_add]
    by_cases h0 : d = 0
    · subst h0
      have := hP 0 (by omega)
      show (ztx P 0 (0, 10)).1 < 1 ∧ (ztx P 0 (0, 10)).2 = P (ztx P 0 (0, 10)).1
      unfold ztx
      rw [if_pos this]
      exact ⟨Nat.zero_lt_one, rfl⟩
    · have h := ih (by omega) (by omega)
      generalize zrn (ztx P) d 0 (0, 10) = p at h
      unfold ztx
      split
      · exact ⟨by show d < d + 1; omega, rfl⟩
      · exact ⟨by omega, h.2⟩
section ZNe
variable {I : Nat → Nat → Int32} {J : Nat → Nat → Int64} {t u i f s x : Nat} {nt nb nr q sh md om im A : Nat} {LW BW : List Int32}
theorem g_R_wear (hA : A = 52 ∨ A = 56) {m r : Nat} {K : Nat → Nat → Int32} (hW : zRw I A nt nb m r K) (hR : (2 * m + 1) ^ nt ≤ 625) (hr : r < 6) {v : Nat} (hv : v < (2 * m + 1) ^ nt) : f_R_wear (zs I J (zPt t u i f s x)) A 47 (nI v) = some (zs (zro I 48 (va_cpy (I (A + 2)) (I 48) (10 * v) (10 * r) 10)) J (zPt t u i f s x)) := by
  have hl : zLAY[A + 2]? = some (1, 6250) := by rcases hA with rfl | rfl <;> rfl
  have hc : zcpy (zs I J (zPt t u i f s x)) (A + 2) (nI (10 * v)) 48 (nI (10 * r)) 10 = some (zs (zro I 48 (va_cpy (I (A + 2)) (I 48) (10 * v) (10 * r) 10)) J (zPt t u i f s x)) := zcp (n := 10) hl zl_48 (by omega) (by omega) (by decide) (by decide)
  simp (disch := (first | omega | assumption)) only [f_R_wear, f_S_pretendRow, zg_6, gi_6, gp_6_6, mr10, zg_8, gp_8_3, zbs, nI_add, pk_mul, znI_add1, znI_sub1, znI_subm, zle_nI, zlt_nI, zeq_nI, zle_0, zeq_0, zlt_0, zeq_m, zeq_1, zge_0, zbt0, zbt1, zB_0, zB_1, zB_b, zbool_0, zbool_1, ↓reduceIte, hW.1, hc]
theorem zwear_K (hA : A = 52 ∨ A = 56) {m r : Nat} {KR K : Nat → Nat → Int32} (hW : zRw I A nt nb m r KR) (hnb : nb ≤ 10) (hr : r < 6) {v : Nat} (hv : v < (2 * m + 1) ^ nt) (hK : ∀ r' b, r' < nr → b < nb → zKx I r' b = K r' b) : ∀ r' b, r' < nr → b < nb → zKx (zro I 48 (va_cpy (I (A + 2)) (I 48) (10 * v) (10 * r) 10)) r' b = zKw K r (KR v) r' b := fun r' b hr' hb => by
  unfold zKx zKw
  rw [zro_self]
  by_cases h : r' = r
  · subst h
    rw [if_pos rfl, pk_cpy_in (by omega) (by omega), show 10 * v + (10 * r' + b - 10 * r') = 10 * v + b by omega]
    exact hW.2.2.2.2 v b hv hb
  · rw [if_neg h, pk_cpy_out (by omega)]
    exact hK r' b hr' hb
theorem zRw_fr {I' : Nat → Nat → Int32} (hA : A = 52 ∨ A = 56) {m r : Nat} {KR : Nat → Nat → Int32} (h : zRw I A nt nb m r KR) (hf : zfr zSw I I') : zRw I' A nt nb m r KR := by
  unfold zRw
  rw [zfr_row hf A (fun k => by rcases hA with rfl | rfl <;> rfl), zfr_row hf (A + 1) (fun k => by rcases hA with rfl | rfl <;> rfl), zfr_row hf (A + 2) (fun k => by rcases hA with rfl | rfl <;> rfl)]
  exact h
theorem zSh_w {I' : Nat → Nat → Int32} (hs : s = 2 ∨ s = 13) (h : zSh I s nb nr q om) (hf : zfr zSw I I') : zSh I' s nb nr q om := by
  unfold zSh
  rw [zfr_row hf s (fun k => by rcases hs with rfl | rfl <;> rfl), hf 47 1 rfl]
  exact h
/-- placeFor by keys K -/
theorem g_placeK (ht : t = 2 ∨ t = 13) (hS : zSh I t nb nr q (zhm nb om)) {K : Nat → Nat → Int32} (hK : ∀ r b, r < nr → b < nb → zKx I r b = K r b) {set b : Nat} (hset : set < 2 ^ nr) (hb : b < nb) (hob : om.testBit b = false) :
    ∃ I', f_S_placeFor (zs I J (zPt t u i f t x)) 47 (nI set) (nI b) = some (nI (zPK K q nr nb om set b), (zs I' J (zPt t u i f t x))) ∧ zfr zXls I I' ∧ zPK K q nr nb om set b < 10 := by
  obtain ⟨I', k, a1, a2, a3⟩ := g_S_placeFor (J := J) (t := t) (u := u) (i := i) (f := f) (x := x) ht hS hset hb (by rw [zhm_ok hS.2.1 hb]; simp [zokO, hob])
  rw [zord_congr hset hS.2.2.2.1 hK (fun b hb => zhm_ok hS.2.1 hb)] at a3
  have hO := zord_Od (K := K) (q := q) (nr := nr) (ok := zokO om) (set := set) hS.2.1
  have e : zPK K q nr nb om set b = k := zps_at hO.1 a3
  have hl := (List.getElem?_eq_some_iff.mp a3).1
  have hc := zct_le (zokO om) nb
  have := hS.2.1
  rw [hO.2.1] at hl
  rw [e]
  exact ⟨I', a1, a2, by omega⟩
theorem x_nearest (hA : A = 52 ∨ A = 56) (ht : t = 2 ∨ t = 13) (hS : zSh I t nb nr q (zhm nb om)) {m r : Nat} {KR K : Nat → Nat → Int32} (hW : zRw I A nt nb m r KR) (hR : (2 * m + 1) ^ nt ≤ 625) (hr : r < nr) (hK : ∀ r' b, r' < nr → b < nb → zKx I r' b = K r' b) {set b : Nat} (hset : set < 2 ^ nr) (hb : b < nb) (hob : om.testBit b = false) :
    ∃ I', f_R_nearest (zs I J (zPt t u i f t x)) A 47 (nI set) (nI b) = some (nI (zrn (ztx (fun v => zPK (zKw K r (KR v)) q nr nb om set b)) ((2 * m + 1) ^ nt) 0 (0, 10)).1, (zs I' J (zPt t u i f t x))) ∧ zfr zSw I I' ∧ ∀ r' b', r' < nr → b' < nb → zKx I' r' b' = zKw K r (KR (zrn (ztx (fun v => zPK (zKw K r (KR v)) q nr nb om set b)) ((2 * m + 1) ^ nt) 0 (0, 10)).1) r' b' := by
  have hnb := hS.2.1
  have hnr := hS.2.2.2.1
  have hRp : 0 < (2 * m + 1) ^ nt := Nat.pow_pos (by omega)
  have hP10 : ∀ v, zPK (zKw K r (KR v)) q nr nb om set b < 10 := fun v => by
    have hO := zord_Od (K := zKw K r (KR v)) (q := q) (nr := nr) (ok := zokO om) (set := set) hnb
    obtain ⟨k, hk⟩ := List.getElem?_of_mem ((hO.2.2 b).mpr ⟨hb, by simp [zokO, hob]⟩)
    have hl := (List.getElem?_eq_some_iff.mp hk).1
    have hc := zct_le (zokO om) nb
    rw [hO.2.1] at hl
    have e : zPK (zKw K r (KR v)) q nr nb om set b = k := zps_at hO.1 hk
    omega
  -- the keys of r may be any by now
  have key := zforW (fun fuel (p : (Nat → Nat → Int32) × (Nat × Nat)) v => f_R_nearest_10L fuel (zs p.1 J (zPt t u i f t x)) A 47 (nI set) (nI b) (nI p.2.1) (nI p.2.2) (nI v)) ((2 * m + 1) ^ nt)
    (fun v p => zfr zSw I p.1 ∧ (∀ r' b, r' < nr → b < nb → r' ≠ r → zKx p.1 r' b = K r' b) ∧ p.2 = zrn (ztx (fun v => zPK (zKw K r (KR v)) q nr nb om set b)) v 0 (0, 10) ∧ p.2.1 < 625 ∧ p.2.2 ≤ 10)
    (fun res => ∃ (I' : Nat → Nat → Int32) (c : Nat), res = f_R_nearest_60 (zs I' J (zPt t u i f t x)) A 47 (nI c) ∧ c = (zrn (ztx (fun v => zPK (zKw K r (KR v)) q nr nb om set b)) ((2 * m + 1) ^ nt) 0 (0, 10)).1 ∧ zfr zSw I I' ∧ ∀ r' b, r' < nr → b < nb → r' ≠ r → zKx I' r' b = K r' b)
    (fun m' v p hv hi => by
      obtain ⟨I3, c, bp⟩ := p
      obtain ⟨i1, i2, i3, i4, i5⟩ := hi
      dsimp only at i1 i2 i3 i4 i5
      have hW3 := zRw_fr hA hW i1
      have hS3 := zSh_w ht hS i1
      have hle : ¬ (2 * m + 1) ^ nt ≤ v := by omega
      show (∃ I' c', f_R_nearest_10L (m' + 1) _ _ _ _ _ _ _ _ = _ ∧ _) ∨ ∃ s', _ ∧ f_R_nearest_10L (m' + 1) _ _ _ _ _ _ _ _ = _
      rw [f_R_nearest_10L]
      by_cases hbp : bp = 0
      · left
        refine ⟨I3, c, ?_, ?_, i1, i2⟩
        · simp (disch := (first | omega | assumption)) only [f_R_nearest_10, gi_6, zbs, nI_add, pk_mul, znI_add1, znI_sub1, znI_subm, zle_nI, zlt_nI, zeq_nI, zle_0, zeq_0, zlt_0, zeq_m, zeq_1, zge_0, zbt0, zbt1, zB_0, zB_1, zB_b, zbool_0, zbool_1, ↓reduceIte, hW3.2.2.1, hle, hbp]
        · have hmore : ∀ d, zrn (ztx (fun v => zPK (zKw K r (KR v)) q nr nb om set b)) (v + d) 0 (0, 10) = (c, 0) := by
            intro d
            induction d with
            | zero => rw [Nat.add_zero, ← i3, hbp]
            | succ d ih =>
              rw [← Nat.add_assoc, zrn_succ, ih]
              unfold ztx
              rw [if_neg (Nat.not_lt_zero _)]
          have := hmore ((2 * m + 1) ^ nt - v)
          rw [show v + ((2 * m + 1) ^ nt - v) = (2 * m + 1) ^ nt by omega] at this
          rw [this]
      · right
        have w1 := g_R_wear (J := J) (t := t) (u := u) (i := i) (f := f) (s := t) (x := x) hA hW3 hR (show r < 6 by omega) hv
        generalize hI4 : zro I3 48 (va_cpy (I3 (A + 2)) (I3 48) (10 * v) (10 * r) 10) = I4 at w1
        have f4 : zfr zSw I3 I4 := by rw [← hI4]; exact zfr_ro (zfr_refl _ _) (fun _ => rfl)
        have k4 : ∀ r' b, r' < nr → b < nb → zKx I4 r' b = zKw K r (KR v) r' b := fun r' b hr' hb => by
          have := zwear_K (nr := nr) (K := fun r' b => zKx I3 r' b) hA hW3 hnb (show r < 6 by omega) hv (fun _ _ _ _ => rfl) r' b hr' hb
          rw [hI4] at this
          rw [this]
          unfold zKw
          by_cases h : r' = r
          · rw [if_pos h, if_pos h]
          · rw [if_neg h, if_neg h]
            exact i2 r' b hr' hb h
        have hS4 := zSh_w ht hS3 f4
        obtain ⟨I5, c1, c2, c3⟩ := g_placeK (J := J) (t := t) (u := u) (i := i) (f := f) (x := x) ht hS4 k4 hset hb hob
        refine ⟨(I5, ztx (fun v => zPK (zKw K r (KR v)) q nr nb om set b) v (c, bp)), ⟨zfr_trans i1 (zfr_trans f4 (zfr_mono c2 zXls_w)), fun r' b hr' hb hne => ?_, ?_, ?_, ?_⟩, ?_⟩
        · dsimp only
          rw [zKx_ls c2, k4 r' b hr' hb]
          unfold zKw
          rw [if_neg hne]
        · dsimp only
          rw [zrn_succ, ← i3, Nat.zero_add]
        · dsimp only [ztx]
          split
          · show v < 625
            omega
          · exact i4
        · dsimp only [ztx]
          split
          · exact Nat.le_of_lt c3
          · exact i5
        · unfold ztx
          dsimp only
          by_cases hlt : zPK (zKw K r (KR v)) q nr nb om set b < bp
          · have hlt2 : ¬ bp ≤ zPK (zKw K r (KR v)) q nr nb om set b := by omega
            simp (disch := (first | omega | assumption)) only [f_R_nearest_10, gi_6, zbs, nI_add, pk_mul, znI_add1, znI_sub1, znI_subm, zle_nI, zlt_nI, zeq_nI, zle_0, zeq_0, zlt_0, zeq_m, zeq_1, zge_0, zbt0, zbt1, zB_0, zB_1, zB_b, zbool_0, zbool_1, ↓reduceIte, hW3.2.2.1, hle, hbp, w1, c1, hlt, hlt2]
          · have hlt2 : bp ≤ zPK (zKw K r (KR v)) q nr nb om set b := by omega
            simp (disch := (first | omega | assumption)) only [f_R_nearest_10, gi_6, zbs, nI_add, pk_mul, znI_add1, znI_sub1, znI_subm, zle_nI, zlt_nI, zeq_nI, zle_0, zeq_0, zlt_0, zeq_m, zeq_1, zge_0, zbt0, zbt1, zB_0, zB_1, zB_b, zbool_0, zbool_1, ↓reduceIte, hW3.2.2.1, hle, hbp, w1, c1, hlt, hlt2])
    (fun m' p hi => by
      have hW3 := zRw_fr hA hW hi.1
      refine ⟨p.1, p.2.1, ?_, by rw [hi.2.2.1], hi.1, hi.2.1⟩
      show f_R_nearest_10L (m' + 1) _ _ _ _ _ _ _ _ = _
      rw [f_R_nearest_10L]
      simp (disch := (first | omega | assumption)) only [f_R_nearest_10, gi_6, zbs, nI_add, pk_mul, znI_add1, znI_sub1, znI_subm, zle_nI, zlt_nI, zeq_nI, zle_0, zeq_0, zlt_0, zeq_m, zeq_1, zge_0, zbt0, zbt1, zB_0, zB_1, zB_b, zbool_0, zbool_1, ↓reduceIte, hW3.2.2.1, Nat.le_refl]) ((2 * m + 1) ^ nt) 0 (I, (0, 10)) zfu (by omega) ⟨zfr_refl _ _, fun r' b hr' hb _ => hK r' b hr' hb, rfl, (by show 0 < 625; decide), Nat.le_refl _⟩ (zfu_lt (by omega))
  obtain ⟨I2, c, k1, k2, k3, k4⟩ := key
  have hc : c < (2 * m + 1) ^ nt := by rw [k2]; exact (ztx_at (fun k _ => hP10 k) _ hRp (Nat.le_refl _)).1
  have hW2 := zRw_fr hA hW k3
  have w1 := g_R_wear (J := J) (t := t) (u := u) (i := i) (f := f) (s := t) (x := x) hA hW2 hR (show r < 6 by omega) hc
  have kk := zwear_K (nr := nr) (K := fun r' b => zKx I2 r' b) hA hW2 hnb (show r < 6 by omega) hc (fun _ _ _ _ => rfl)
  rw [← k2]
  refine ⟨zro I2 48 (va_cpy (I2 (A + 2)) (I2 48) (10 * c) (10 * r) 10), ?_, zfr_ro k3 (fun _ => rfl), fun r' b hr' hb => ?_⟩
  · have k1 : f_R_nearest_10L zfu (zs I J (zPt t u i f t x)) A 47 (nI set) (nI b) 0 10 0 = _ := k1
    simp (disch := (first | omega | assumption)) only [f_R_nearest, f_R_nearest_60, zg_6, zbs, nI_add, pk_mul, znI_add1, znI_sub1, znI_subm, zle_nI, zlt_nI, zeq_nI, zle_0, zeq_0, zlt_0, zeq_m, zeq_1, zge_0, zbt0, zbt1, zB_0, zB_1, zB_b, zbool_0, zbool_1, ↓reduceIte, k1, w1]
  · rw [kk r' b hr' hb]
    unfold zKw
    by_cases h : r' = r
    · rw [if_pos h, if_pos h]
    · rw [if_neg h, if_neg h]
      exact k4 r' b hr' hb h
/-- both together, and the steps, by keys K -/
theorem m_stepsBoth (hC : zCo I t nt nb nr q sh md om im LW BW) {K : Nat → Nat → Int32} (hK : ∀ r b, r < nr → b < nb → zKm I r b = K r b) {r o b : Nat} (hr : r < nr) (ho : o < nr) (hb : b < nb) (hob : om.testBit b = false) :
    ∃ I', f_M_stepsBoth (zs I J (zPt t u i f s x)) 91 (nI r) (nI o) (nI b) = some (nI (zst sh (zPK K q nr nb om (2 ^ r ||| 2 ^ o) b)), (zs I' J (zPt t u i f s x))) ∧ zfr zLs I I' ∧ zPK K q nr nb om (2 ^ r ||| 2 ^ o) b < 10 ∧ 2 ^ r ||| 2 ^ o < 2 ^ nr := by
  have hM := hC.2.1.1
  have hnb := hM.2.1.2
  have hnr := hM.2.2.1.2
  have hq := hC.2.1.2.2.1
  have hsh := hC.2.1.2.2.2.1
  have hset : 2 ^ r ||| 2 ^ o < 2 ^ nr := Nat.or_lt_two_pow (z2r hr) (z2r ho)
  obtain ⟨I', a1, a2, a3⟩ := g_M_layOrder (J := J) (t := t) (u := u) (i := i) (f := f) (s := s) (x := x) hM.2.1.1 hnb hC.2.2.2.2.1.1 (z2n hnb hC.2.2.2.2.1.2) hM.2.2.1.1 hnr hq.1 hq.2.2 (z64 hnr hset)
  rw [zord_congr hset hnr hK (fun _ _ => rfl)] at a3
  have hO := zord_Od (K := K) (q := q) (nr := nr) (ok := zokO om) (set := 2 ^ r ||| 2 ^ o) hnb
  obtain ⟨k, hk⟩ := List.getElem?_of_mem ((hO.2.2 b).mpr ⟨hb, by simp [zokO, hob]⟩)
  have hl := (List.getElem?_eq_some_iff.mp hk).1
  have hc := zct_le (zokO om) nb
  rw [hO.2.1] at hl
  have e : zPK K q nr nb om (2 ^ r ||| 2 ^ o) b = k := zps_at hO.1 hk
  have e2 := (a3.2.1 k b hk).2
  have hC' := zCo_fr hC (zfr_g a2 zSg_ls)
  have y6 := g_M_stepsTo (p := k) (J := J) (t := t) (u := u) (i := i) (f := f) (s := s) (x := x) hC'.2.1.2.2.2.1.1 hsh.2.2.1 hsh.2.2.2 (by omega)
  have e3 : k + 1 + 2 * (k / sh) = zst sh k := rfl
  rw [e3] at y6
  have hor : (1 : Int32) <<< (nI r &&& 31) ||| 1 <<< (nI o &&& 31) = nI (2 ^ r ||| 2 ^ o) := by
    rw [zshl1 r (by omega), zshl1 o (by omega), znor]
    · have := z64 hnr (z2r hr); omega
    · have := z64 hnr (z2r ho); omega
  rw [e]
  refine ⟨I', ?_, a2, by omega, hset⟩
  simp (disch := (first | omega | assumption)) only [f_M_stepsBoth, zg_12, gp_12_53, ai_115, zbs, nI_add, pk_mul, znI_add1, znI_sub1, znI_subm, zle_nI, zlt_nI, zeq_nI, zle_0, zeq_0, zlt_0, zeq_m, zeq_1, zge_0, zbt0, zbt1, zB_0, zB_1, zB_b, zbool_0, zbool_1, ↓reduceIte, hor, a1, e2, y6]
theorem m_bestRow (hC : zCo I t nt nb nr q sh md om im LW BW) {m r o b : Nat} (hm : m ≤ 2) {K : Nat → Nat → Int32} (hK : ∀ r' b, r' < nr → b < nb → r' ≠ r → zKm I r' b = K r' b) (hr : r < nr) (ho : o < nr) (hb : b < nb) (hob : om.testBit b = false) :
    ∃ I', f_M_layBestRow (zs I J (zPt t u i f s x)) 91 (nI r) (nI o) (nI b) (nI m) = some (zs I' J (zPt t u i f s x)) ∧ zfr zSg I I' ∧ (∀ a, a ≠ 91 → a ≠ 101 → a ≠ 102 → a ≠ 112 → a ≠ 113 → a ≠ 114 → a ≠ 115 → I' a = I a) ∧ (∀ k, k ≠ 54 → k ≠ 66 → k ≠ 67 → I' 91 k = I 91 k) ∧ (∀ r' b, r' < nr → b < nb → r' ≠ r → zKm I' r' b = K r' b) ∧
      I' 91 66 = nI (zrn (zthm (fun v => zPK (zKw K r (fun b => zkm I nt LW (zcell m nt v) r b)) q nr nb om (2 ^ r ||| 2 ^ o) b) sh) ((2 * m + 1) ^ nt) 0 (0, 1000000)).1 ∧ I' 91 67 = nI (zrn (zthm (fun v => zPK (zKw K r (fun b => zkm I nt LW (zcell m nt v) r b)) q nr nb om (2 ^ r ||| 2 ^ o) b) sh) ((2 * m + 1) ^ nt) 0 (0, 1000000)).2 := by
  have hM := hC.2.1.1
  have hnb := hM.2.1.2
  have hnr := hM.2.2.1.2
  have hnt := hM.1.2
  have hR := zR_le (m := m) hm hnt
  have hRp : 0 < (2 * m + 1) ^ nt := Nat.pow_pos (by omega)
  generalize hPe : (fun v => zPK (zKw K r (fun b => zkm I nt LW (zcell m nt v) r b)) q nr nb om (2 ^ r ||| 2 ^ o) b) = P
  obtain ⟨Q, ⟨h1, h6, h7, h2, h3, h4, -⟩, h5⟩ := zfor (fun fuel (p : (Nat → Nat → Int32) × (Nat × Nat)) v => f_M_layBestRow_15L fuel (zs p.1 J (zPt t u i f s x)) 91 (nI r) (nI o) (nI b) (nI m) (nI v)) ((2 * m + 1) ^ nt)
    (fun v p => zfr zSg I p.1 ∧ (∀ a, a ≠ 91 → a ≠ 101 → a ≠ 102 → a ≠ 112 → a ≠ 113 → a ≠ 114 → a ≠ 115 → p.1 a = I a) ∧ (∀ k, k ≠ 54 → k ≠ 66 → k ≠ 67 → p.1 91 k = I 91 k) ∧ (∀ r' b, r' < nr → b < nb → r' ≠ r → zKm p.1 r' b = K r' b) ∧ p.2 = zrn (zthm P sh) v 0 (0, 1000000) ∧ (p.1 91 67 = nI p.2.2 ∧ ((v = 0 ∧ p.2.2 = 1000000) ∨ p.1 91 66 = nI p.2.1)) ∧ p.2.2 ≤ 1000000)
    (fun p => some (zs p.1 J (zPt t u i f s x)))
    (fun m' v p hv hi => by
      obtain ⟨I3, c, bp⟩ := p
      obtain ⟨i1, i8, i9, i2, i3, ⟨i4, i6⟩, i7⟩ := hi
      dsimp only at i1 i8 i9 i2 i3 i4 i6 i7
      have hC3 := zCo_fr hC i1
      have rw1 := g_M_rows (J := J) (t := t) (u := u) (i := i) (f := f) (s := s) (x := x) hC3.2.1.1.1.1 hnt hm
      obtain ⟨I4, c1, c2, c3, c4, -⟩ := g_M_layByRow (J := J) (t := t) (u := u) (i := i) (f := f) (s := s) (x := x) hC3.2.1.1 hm (show v < 625 by omega) (show r < 6 by omega)
      have f4 : zfr zSg I3 I4 := zfs_g c2
      have hC4 := zCo_fr hC3 f4
      have k4 : ∀ r' b, r' < nr → b < nb → zKm I4 r' b = zKw K r (fun b => zkm I nt LW (zcell m nt v) r b) r' b := fun r' b hr' hb => by
        unfold zKw
        by_cases h : r' = r
        · subst h
          rw [if_pos rfl]
          show I4 113 (10 * r' + b) = _
          rw [c3 b hb]
          exact congrFun (zfK_fr i1 m r' v) b
        · rw [if_neg h, ← i2 r' b hr' hb h]
          exact c4 _ (by omega)
      obtain ⟨I5, d1, d2, d3, -⟩ := m_stepsBoth (J := J) (t := t) (u := u) (i := i) (f := f) (s := s) (x := x) hC4 k4 hr ho hb hob
      have hPv : zPK (zKw K r (fun b => zkm I nt LW (zcell m nt v) r b)) q nr nb om (2 ^ r ||| 2 ^ o) b = P v := by rw [← hPe]
      rw [hPv] at d1 d3
      have hst := zst_lt (sh := sh) d3
      have hle : ¬ (2 * m + 1) ^ nt ≤ v := by omega
      have e67 : I5 91 67 = nI bp := by rw [zLs_91 d2 67 (by decide), zfr_sl c2 91 rfl]; exact i4
      have f5 : zfr zSg I I5 := zfr_trans i1 (zfr_trans f4 (zfr_g d2 zSg_ls))
      have R5 : ∀ a, a ≠ 91 → a ≠ 101 → a ≠ 102 → a ≠ 112 → a ≠ 113 → a ≠ 114 → a ≠ 115 → I5 a = I a := fun a h1 h2 h3 h4 h5 h6 h7 => by
        rw [zLs_row d2 a h6 h7 h1, zfr_sl c2 a (by simp [h2, h3, h4, h5]), i8 a h1 h2 h3 h4 h5 h6 h7]
      have R91 : ∀ k, k ≠ 54 → k ≠ 66 → k ≠ 67 → I5 91 k = I 91 k := fun k h1 h2 h3 => by
        rw [zLs_91 d2 k h1, zfr_sl c2 91 rfl, i9 k h1 h2 h3]
      have k5 : ∀ r' b, r' < nr → b < nb → r' ≠ r → zKm I5 r' b = K r' b := fun r' b hr' hb hne => by
        rw [zKm_ls d2, k4 r' b hr' hb]
        unfold zKw
        rw [if_neg hne]
      show ∃ s', _ ∧ f_M_layBestRow_15L (m' + 1) _ _ _ _ _ _ _ = _
      rw [f_M_layBestRow_15L]
      by_cases hlt : zst sh (P v) < bp
      · refine ⟨(zup (zup I5 91 66 (nI v)) 91 67 (nI (zst sh (P v))), (v, zst sh (P v))), ⟨zfr_up (zfr_up f5 rfl) rfl, fun a h1 h2 h3 h4 h5 h6 h7 => ?_, fun k h1 h2 h3 => ?_, fun r' b hr' hb hne => ?_, ?_, ⟨(by dsimp only; exact zup_s _ _ _ _), Or.inr ?_⟩, ?_⟩, ?_⟩
        · dsimp only
          rw [zup_ne _ _ _ h1, zup_ne _ _ _ h1]
          exact R5 a h1 h2 h3 h4 h5 h6 h7
        · dsimp only
          rw [zup_k _ _ h3, zup_k _ _ h2]
          exact R91 k h1 h2 h3
        · dsimp only
          have : zKm (zup (zup I5 91 66 (nI v)) 91 67 (nI (zst sh (P v)))) = zKm I5 := by
            unfold zKm
            rw [zup_ne _ _ _ (by decide), zup_ne _ _ _ (by decide)]
          rw [this]
          exact k5 r' b hr' hb hne
        · dsimp only
          rw [zrn_succ, ← i3, Nat.zero_add]
          unfold zthm
          rw [if_pos hlt]
        · dsimp only
          rw [zup_k _ _ (by decide), zup_s]
        · show zst sh (P v) ≤ 1000000
          omega
        · simp (disch := (first | omega | assumption)) only [f_M_layBestRow_15, gi_12, si_12, zbs, nI_add, pk_mul, znI_add1, znI_sub1, znI_subm, zle_nI, zlt_nI, zeq_nI, zle_0, zeq_0, zlt_0, zeq_m, zeq_1, zge_0, zbt0, zbt1, zB_0, zB_1, zB_b, zbool_0, zbool_1, ↓reduceIte, rw1, hle, c1, d1, e67, hlt]
      · refine ⟨(I5, (c, bp)), ⟨f5, R5, R91, k5, ?_, ⟨e67, Or.inr ?_⟩, i7⟩, ?_⟩
        · dsimp only
          rw [zrn_succ, ← i3, Nat.zero_add]
          unfold zthm
          rw [if_neg hlt]
        · dsimp only
          rcases i6 with ⟨-, h⟩ | h
          · omega
          · rw [zLs_91 d2 66 (by decide), zfr_sl c2 91 rfl]
            exact h
        · simp (disch := (first | omega | assumption)) only [f_M_layBestRow_15, gi_12, si_12, zbs, nI_add, pk_mul, znI_add1, znI_sub1, znI_subm, zle_nI, zlt_nI, zeq_nI, zle_0, zeq_0, zlt_0, zeq_m, zeq_1, zge_0, zbt0, zbt1, zB_0, zB_1, zB_b, zbool_0, zbool_1, ↓reduceIte, rw1, hle, c1, d1, e67, hlt])
    (fun m' p hi => by
      have hC3 := zCo_fr hC hi.1
      have rw1 := g_M_rows (J := J) (t := t) (u := u) (i := i) (f := f) (s := s) (x := x) hC3.2.1.1.1.1 hnt hm
      show f_M_layBestRow_15L (m' + 1) _ _ _ _ _ _ _ = _
      rw [f_M_layBestRow_15L]
      simp (disch := (first | omega | assumption)) only [f_M_layBestRow_15, gi_12, si_12, zbs, nI_add, pk_mul, znI_add1, znI_sub1, znI_subm, zle_nI, zlt_nI, zeq_nI, zle_0, zeq_0, zlt_0, zeq_m, zeq_1, zge_0, zbt0, zbt1, zB_0, zB_1, zB_b, zbool_0, zbool_1, ↓reduceIte, rw1, Nat.le_refl]) ((2 * m + 1) ^ nt) 0 (zup (zup I 91 66 (-1)) 91 67 1000000, (0, 1000000)) zfu (by omega) ⟨zfr_up (zfr_up (zfr_refl _ _) rfl) rfl, fun a h1 h2 h3 h4 h5 h6 h7 => by
        dsimp only
        rw [zup_ne _ _ _ h1, zup_ne _ _ _ h1], fun k h1 h2 h3 => by
        dsimp only
        rw [zup_k _ _ h3, zup_k _ _ h2], fun r' b hr' hb hne => by
        dsimp only
        have : zKm (zup (zup I 91 66 (-1)) 91 67 1000000) = zKm I := by
          unfold zKm
          rw [zup_ne _ _ _ (by decide), zup_ne _ _ _ (by decide)]
        rw [this]
        exact hK r' b hr' hb hne, rfl, ⟨(by dsimp only; exact zup_s _ _ _ _), Or.inl ⟨rfl, rfl⟩⟩, Nat.le_refl _⟩ (zfu_lt (by omega))
  refine ⟨Q.1, ?_, h1, h6, h7, h2, ?_, ?_⟩
  · simp (disch := (first | omega | assumption)) only [f_M_layBestRow, zg_12, si_12, zbs, nI_add, pk_mul, znI_add1, znI_sub1, znI_subm, zle_nI, zlt_nI, zeq_nI, zle_0, zeq_0, zlt_0, zeq_m, zeq_1, zge_0, zbt0, zbt1, zB_0, zB_1, zB_b, zbool_0, zbool_1, ↓reduceIte]
    exact h5
  · rcases h4.2 with ⟨h, -⟩ | h
    · omega
    · rw [h, h3]
  · rw [h4.1, h3]
end ZNe
