/-! the class reads a text: the lines told once -/
section ZXo
variable {I : Nat → Nat → Int32} {J : Nat → Nat → Int64} {t u f s : Nat} {B : Nat → Nat} {n : Nat} {ps : yPs}
/-- one of the told numbers is otherwise -/
theorem yXD_q {I' : Nat → Nat → Int32} {J' : Nat → Nat → Int64} {v p : Nat} (hu : u = 2 ∨ u = 13) (hd : yXD I J u ps) (hz : ∀ a, a ≠ u → a ≠ 24 → a ≠ 25 → I' a = I a) (hzu : ∀ k, k ≠ 3 → I' u k = I u k) (hv : I' u 3 = nI v) (h24 : ∀ k, k ≠ 8 → k ≠ 10 → I' 24 k = I 24 k) (hJ : ∀ a, a ≠ 25 → J' a = J a) : yXD I' J' u (p, ps.2.1, ps.2.2.1, ps.2.2.2.1, ps.2.2.2.2.1, ps.2.2.2.2.2.1, ps.2.2.2.2.2.2.1, ps.2.2.2.2.2.2.2.1, v, ps.2.2.2.2.2.2.2.2.2.1, ps.2.2.2.2.2.2.2.2.2.2.1, ps.2.2.2.2.2.2.2.2.2.2.2.1, ps.2.2.2.2.2.2.2.2.2.2.2.2.1, ps.2.2.2.2.2.2.2.2.2.2.2.2.2.1, ps.2.2.2.2.2.2.2.2.2.2.2.2.2.2) := by
  obtain ⟨⟨k0, k1, k2, k3, k4, k5, k6, k9⟩, ⟨r1, r2, r3, r4⟩, ⟨l1, l2⟩, m1, m2, m3⟩ := hd
  unfold yXD yFm yNa
  rw [h24 9 (by decide) (by decide), h24 0 (by decide) (by decide), h24 1 (by decide) (by decide), hz (u + 1) (by omega) (by omega) (by omega), hz (u + 2) (by omega) (by omega) (by omega), hz (u + 3) (by omega) (by omega) (by omega), hz (u + 4) (by omega) (by omega) (by omega), hz (u + 5) (by omega) (by omega) (by omega), hz (u + 5 + 1) (by omega) (by omega) (by omega), hz (u + 8) (by omega) (by omega) (by omega), hz (u + 8 + 1) (by omega) (by omega) (by omega), hzu 0 (by decide), hzu 1 (by decide), hzu 2 (by decide), hzu 4 (by decide), hzu 5 (by decide), hzu 6 (by decide), hJ 27 (by decide), hJ 28 (by decide), hJ 29 (by decide)]
  exact ⟨⟨k0, k1, k2, hv, k4, k5, k6, k9⟩, ⟨r1, r2, r3, r4⟩, ⟨l1, l2⟩, m1, m2, m3⟩
theorem yXD_sh {I' : Nat → Nat → Int32} {J' : Nat → Nat → Int64} {v p : Nat} (hu : u = 2 ∨ u = 13) (hd : yXD I J u ps) (hz : ∀ a, a ≠ u → a ≠ 24 → a ≠ 25 → I' a = I a) (hzu : ∀ k, k ≠ 4 → I' u k = I u k) (hv : I' u 4 = nI v) (h24 : ∀ k, k ≠ 8 → k ≠ 10 → I' 24 k = I 24 k) (hJ : ∀ a, a ≠ 25 → J' a = J a) : yXD I' J' u (p, ps.2.1, ps.2.2.1, ps.2.2.2.1, ps.2.2.2.2.1, ps.2.2.2.2.2.1, ps.2.2.2.2.2.2.1, ps.2.2.2.2.2.2.2.1, ps.2.2.2.2.2.2.2.2.1, v, ps.2.2.2.2.2.2.2.2.2.2.1, ps.2.2.2.2.2.2.2.2.2.2.2.1, ps.2.2.2.2.2.2.2.2.2.2.2.2.1, ps.2.2.2.2.2.2.2.2.2.2.2.2.2.1, ps.2.2.2.2.2.2.2.2.2.2.2.2.2.2) := by
  obtain ⟨⟨k0, k1, k2, k3, k4, k5, k6, k9⟩, ⟨r1, r2, r3, r4⟩, ⟨l1, l2⟩, m1, m2, m3⟩ := hd
  unfold yXD yFm yNa
  rw [h24 9 (by decide) (by decide), h24 0 (by decide) (by decide), h24 1 (by decide) (by decide), hz (u + 1) (by omega) (by omega) (by omega), hz (u + 2) (by omega) (by omega) (by omega), hz (u + 3) (by omega) (by omega) (by omega), hz (u + 4) (by omega) (by omega) (by omega), hz (u + 5) (by omega) (by omega) (by omega), hz (u + 5 + 1) (by omega) (by omega) (by omega), hz (u + 8) (by omega) (by omega) (by omega), hz (u + 8 + 1) (by omega) (by omega) (by omega), hzu 0 (by decide), hzu 1 (by decide), hzu 2 (by decide), hzu 3 (by decide), hzu 5 (by decide), hzu 6 (by decide), hJ 27 (by decide), hJ 28 (by decide), hJ 29 (by decide)]
  exact ⟨⟨k0, k1, k2, k3, hv, k5, k6, k9⟩, ⟨r1, r2, r3, r4⟩, ⟨l1, l2⟩, m1, m2, m3⟩
theorem yXD_md {I' : Nat → Nat → Int32} {J' : Nat → Nat → Int64} {v p : Nat} (hu : u = 2 ∨ u = 13) (hd : yXD I J u ps) (hz : ∀ a, a ≠ u → a ≠ 24 → a ≠ 25 → I' a = I a) (hzu : ∀ k, k ≠ 5 → I' u k = I u k) (hv : I' u 5 = nI v) (h24 : ∀ k, k ≠ 8 → k ≠ 10 → I' 24 k = I 24 k) (hJ : ∀ a, a ≠ 25 → J' a = J a) : yXD I' J' u (p, ps.2.1, ps.2.2.1, ps.2.2.2.1, ps.2.2.2.2.1, ps.2.2.2.2.2.1, ps.2.2.2.2.2.2.1, ps.2.2.2.2.2.2.2.1, ps.2.2.2.2.2.2.2.2.1, ps.2.2.2.2.2.2.2.2.2.1, v, ps.2.2.2.2.2.2.2.2.2.2.2.1, ps.2.2.2.2.2.2.2.2.2.2.2.2.1, ps.2.2.2.2.2.2.2.2.2.2.2.2.2.1, ps.2.2.2.2.2.2.2.2.2.2.2.2.2.2) := by
  obtain ⟨⟨k0, k1, k2, k3, k4, k5, k6, k9⟩, ⟨r1, r2, r3, r4⟩, ⟨l1, l2⟩, m1, m2, m3⟩ := hd
  unfold yXD yFm yNa
  rw [h24 9 (by decide) (by decide), h24 0 (by decide) (by decide), h24 1 (by decide) (by decide), hz (u + 1) (by omega) (by omega) (by omega), hz (u + 2) (by omega) (by omega) (by omega), hz (u + 3) (by omega) (by omega) (by omega), hz (u + 4) (by omega) (by omega) (by omega), hz (u + 5) (by omega) (by omega) (by omega), hz (u + 5 + 1) (by omega) (by omega) (by omega), hz (u + 8) (by omega) (by omega) (by omega), hz (u + 8 + 1) (by omega) (by omega) (by omega), hzu 0 (by decide), hzu 1 (by decide), hzu 2 (by decide), hzu 3 (by decide), hzu 4 (by decide), hzu 6 (by decide), hJ 27 (by decide), hJ 28 (by decide), hJ 29 (by decide)]
  exact ⟨⟨k0, k1, k2, k3, k4, hv, k6, k9⟩, ⟨r1, r2, r3, r4⟩, ⟨l1, l2⟩, m1, m2, m3⟩
theorem x_shelfLine (hu : u = 2 ∨ u = 13) (hq : yXq I J B n ps.1) (hd : yXD I J u ps) (hk : ¬ (ytok B n ps.1).1 = 1) : yLR B n u t s I J (f_T_shelfLine (zs I J (zPt t u u f s 1)) 24) ((ynum (ytok B n) 1 9 (ytok B n ps.1).2.2.2.2).bd fun v => yfin (ytok B n) (v.2, ps.2.1, ps.2.2.1, ps.2.2.2.1, ps.2.2.2.2.1, ps.2.2.2.2.2.1, ps.2.2.2.2.2.2.1, ps.2.2.2.2.2.2.2.1, ps.2.2.2.2.2.2.2.2.1, v.1, ps.2.2.2.2.2.2.2.2.2.2.1, ps.2.2.2.2.2.2.2.2.2.2.2.1, ps.2.2.2.2.2.2.2.2.2.2.2.2.1, ps.2.2.2.2.2.2.2.2.2.2.2.2.2.1, ps.2.2.2.2.2.2.2.2.2.2.2.2.2.2)) := by
  obtain ⟨I1, J1, a1, a2, a3⟩ := x_adv (t := t) (u := u) (i := u) (f := f) (s := s) hq hk
  have hd1 := yXD_fs hd a2 hu
  have n1 : ¬ (1 : Int32) = 0 := by decide
  have hO := x_num (t := t) (u := u) (f := f) (s := s) (lo := 1) (hi := 9) (by decide) (by decide) a3
  cases hx : ynum (ytok B n) 1 9 (ytok B n ps.1).2.2.2.2 with
  | error cp_ =>
    obtain ⟨c, pl⟩ := cp_
    rw [hx] at hO
    obtain ⟨σ', d1, d2⟩ := hO
    have d1 : f_T_takeNumber (zs I1 J1 (zPt t u u f s 1)) 24 1 9 = some (0, σ') := d1
    refine ⟨σ', ?_, yEX_fr (yfX_fs a2) d2⟩
    simp (disch := (first | omega | assumption)) only [f_T_shelfLine, zg_9, gi_9, si_10, gp_9_2, gp_9_6, zbs, nI_add, pk_mul, znI_add1, znI_sub1, znI_subm, zle_nI, zlt_nI, zeq_nI, zle_0, zeq_0, zlt_0, zeq_m, zeq_1, zge_0, zbt0, zbt1, zB_0, zB_1, zB_b, zbool_0, zbool_1, ↓reduceIte, a1, d1]
  | ok o =>
    rw [hx] at hO
    obtain ⟨I2, J2, d1, d2, d3⟩ := hO
    have d1 : f_T_takeNumber (zs I1 J1 (zPt t u u f s 1)) 24 1 9 = some (1, zs I2 J2 (zPt t u u f s 1)) := d1
    have e10 : I2 24 10 = nI o.1 := by rw [d2.1 24 (by decide), zup_s]
    have f3 : yfX u I J (zup I2 u 4 (nI o.1)) J2 := yfX_trans (yfX_fs a2) (yfX_up (yfX_trans (yfX_24 (yfX_refl u I1 J1)) (yfX_fs d2)) (by omega))
    refine yLR_fr f3 ?_
    have hfin := x_fin (I := zup I2 u 4 (nI o.1)) (J := J2) (B := B) (n := n) (t := t) (f := f) (s := s) (ps := (o.2, ps.2.1, ps.2.2.1, ps.2.2.2.1, ps.2.2.2.2.1, ps.2.2.2.2.2.1, ps.2.2.2.2.2.2.1, ps.2.2.2.2.2.2.2.1, ps.2.2.2.2.2.2.2.2.1, o.1, ps.2.2.2.2.2.2.2.2.2.2.1, ps.2.2.2.2.2.2.2.2.2.2.2.1, ps.2.2.2.2.2.2.2.2.2.2.2.2.1, ps.2.2.2.2.2.2.2.2.2.2.2.2.2.1, ps.2.2.2.2.2.2.2.2.2.2.2.2.2.2)) hu (yXq_fr d3 (zup_ne _ _ _ (by omega)) (zup_ne _ _ _ (by omega)) rfl) (yXD_sh (p := o.2) hu hd1 (fun a h1 h2 h3 => (zup_ne _ _ _ h1).trans ((d2.1 a h3).trans (zup_ne _ _ _ h2))) (fun k h => (zup_k _ _ h).trans (by rw [d2.1 u (by omega), zup_ne _ _ _ (by omega)])) (zup_s _ _ _ _) (fun k _ h => by rw [zup_ne _ _ _ (by omega), d2.1 24 (by decide), zup_k _ _ h]) d2.2)
    have hres : f_T_shelfLine (zs I J (zPt t u u f s 1)) 24 = (f_T_take (zs (zup I2 u 4 (nI o.1)) J2 (zPt t u u f s 1)) 24 59).bind fun q => (zbool q.1).bind fun x => some (x, q.2) := by
      simp (disch := (first | omega | assumption)) only [f_T_shelfLine, zg_9, gi_9, si_10, gp_9_2, gp_9_6, zbs, nI_add, pk_mul, znI_add1, znI_sub1, znI_subm, zle_nI, zlt_nI, zeq_nI, zle_0, zeq_0, zlt_0, zeq_m, zeq_1, zge_0, zbt0, zbt1, zB_0, zB_1, zB_b, zbool_0, zbool_1, ↓reduceIte, a1, d1, n1, e10, ybid]
    rw [hres]
    exact yLR_zb hfin
theorem x_moodLine (hu : u = 2 ∨ u = 13) (hq : yXq I J B n ps.1) (hd : yXD I J u ps) (hk : ¬ (ytok B n ps.1).1 = 1) : yLR B n u t s I J (f_T_moodLine (zs I J (zPt t u u f s 1)) 24) ((ynum (ytok B n) 0 9 (ytok B n ps.1).2.2.2.2).bd fun v => yfin (ytok B n) (v.2, ps.2.1, ps.2.2.1, ps.2.2.2.1, ps.2.2.2.2.1, ps.2.2.2.2.2.1, ps.2.2.2.2.2.2.1, ps.2.2.2.2.2.2.2.1, ps.2.2.2.2.2.2.2.2.1, ps.2.2.2.2.2.2.2.2.2.1, v.1, ps.2.2.2.2.2.2.2.2.2.2.2.1, ps.2.2.2.2.2.2.2.2.2.2.2.2.1, ps.2.2.2.2.2.2.2.2.2.2.2.2.2.1, ps.2.2.2.2.2.2.2.2.2.2.2.2.2.2)) := by
  obtain ⟨I1, J1, a1, a2, a3⟩ := x_adv (t := t) (u := u) (i := u) (f := f) (s := s) hq hk
  have hd1 := yXD_fs hd a2 hu
  have n1 : ¬ (1 : Int32) = 0 := by decide
  have hO := x_num (t := t) (u := u) (f := f) (s := s) (lo := 0) (hi := 9) (by decide) (by decide) a3
  cases hx : ynum (ytok B n) 0 9 (ytok B n ps.1).2.2.2.2 with
  | error cp_ =>
    obtain ⟨c, pl⟩ := cp_
    rw [hx] at hO
    obtain ⟨σ', d1, d2⟩ := hO
    have d1 : f_T_takeNumber (zs I1 J1 (zPt t u u f s 1)) 24 0 9 = some (0, σ') := d1
    refine ⟨σ', ?_, yEX_fr (yfX_fs a2) d2⟩
    simp (disch := (first | omega | assumption)) only [f_T_moodLine, zg_9, gi_9, si_10, gp_9_2, gp_9_6, zbs, nI_add, pk_mul, znI_add1, znI_sub1, znI_subm, zle_nI, zlt_nI, zeq_nI, zle_0, zeq_0, zlt_0, zeq_m, zeq_1, zge_0, zbt0, zbt1, zB_0, zB_1, zB_b, zbool_0, zbool_1, ↓reduceIte, a1, d1]
  | ok o =>
    rw [hx] at hO
    obtain ⟨I2, J2, d1, d2, d3⟩ := hO
    have d1 : f_T_takeNumber (zs I1 J1 (zPt t u u f s 1)) 24 0 9 = some (1, zs I2 J2 (zPt t u u f s 1)) := d1
    have e10 : I2 24 10 = nI o.1 := by rw [d2.1 24 (by decide), zup_s]
    have f3 : yfX u I J (zup I2 u 5 (nI o.1)) J2 := yfX_trans (yfX_fs a2) (yfX_up (yfX_trans (yfX_24 (yfX_refl u I1 J1)) (yfX_fs d2)) (by omega))
    refine yLR_fr f3 ?_
    have hfin := x_fin (I := zup I2 u 5 (nI o.1)) (J := J2) (B := B) (n := n) (t := t) (f := f) (s := s) (ps := (o.2, ps.2.1, ps.2.2.1, ps.2.2.2.1, ps.2.2.2.2.1, ps.2.2.2.2.2.1, ps.2.2.2.2.2.2.1, ps.2.2.2.2.2.2.2.1, ps.2.2.2.2.2.2.2.2.1, ps.2.2.2.2.2.2.2.2.2.1, o.1, ps.2.2.2.2.2.2.2.2.2.2.2.1, ps.2.2.2.2.2.2.2.2.2.2.2.2.1, ps.2.2.2.2.2.2.2.2.2.2.2.2.2.1, ps.2.2.2.2.2.2.2.2.2.2.2.2.2.2)) hu (yXq_fr d3 (zup_ne _ _ _ (by omega)) (zup_ne _ _ _ (by omega)) rfl) (yXD_md (p := o.2) hu hd1 (fun a h1 h2 h3 => (zup_ne _ _ _ h1).trans ((d2.1 a h3).trans (zup_ne _ _ _ h2))) (fun k h => (zup_k _ _ h).trans (by rw [d2.1 u (by omega), zup_ne _ _ _ (by omega)])) (zup_s _ _ _ _) (fun k _ h => by rw [zup_ne _ _ _ (by omega), d2.1 24 (by decide), zup_k _ _ h]) d2.2)
    have hres : f_T_moodLine (zs I J (zPt t u u f s 1)) 24 = (f_T_take (zs (zup I2 u 5 (nI o.1)) J2 (zPt t u u f s 1)) 24 59).bind fun q => (zbool q.1).bind fun x => some (x, q.2) := by
      simp (disch := (first | omega | assumption)) only [f_T_moodLine, zg_9, gi_9, si_10, gp_9_2, gp_9_6, zbs, nI_add, pk_mul, znI_add1, znI_sub1, znI_subm, zle_nI, zlt_nI, zeq_nI, zle_0, zeq_0, zlt_0, zeq_m, zeq_1, zge_0, zbt0, zbt1, zB_0, zB_1, zB_b, zbool_0, zbool_1, ↓reduceIte, a1, d1, n1, e10, ybid]
    rw [hres]
    exact yLR_zb hfin
theorem x_quarrelLine (hu : u = 2 ∨ u = 13) (hq : yXq I J B n ps.1) (hd : yXD I J u ps) (hk : ¬ (ytok B n ps.1).1 = 1) : yLR B n u t s I J (f_T_quarrelLine (zs I J (zPt t u u f s 1)) 24) (if 14 ≤ (ytok B n (ytok B n ps.1).2.2.2.2).1 ∧ (ytok B n (ytok B n ps.1).2.2.2.2).1 ≤ 17 then yfin (ytok B n) ((ytok B n (ytok B n ps.1).2.2.2.2).2.2.2.2, ps.2.1, ps.2.2.1, ps.2.2.2.1, ps.2.2.2.2.1, ps.2.2.2.2.2.1, ps.2.2.2.2.2.2.1, ps.2.2.2.2.2.2.2.1, (ytok B n (ytok B n ps.1).2.2.2.2).1 - 14, ps.2.2.2.2.2.2.2.2.2.1, ps.2.2.2.2.2.2.2.2.2.2.1, ps.2.2.2.2.2.2.2.2.2.2.2.1, ps.2.2.2.2.2.2.2.2.2.2.2.2.1, ps.2.2.2.2.2.2.2.2.2.2.2.2.2.1, ps.2.2.2.2.2.2.2.2.2.2.2.2.2.2) else yer (ytok B n (ytok B n ps.1).2.2.2.2)) := by
  obtain ⟨I1, J1, a1, a2, a3⟩ := x_adv (t := t) (u := u) (i := u) (f := f) (s := s) hq hk
  have hd1 := yXD_fs hd a2 hu
  have h0 := a3.2.1.1
  have hkb := (ytok_To (B := B) a3.2.2).1
  generalize hK : (ytok B n (ytok B n ps.1).2.2.2.2).1 = K at h0 hkb
  by_cases hc : 14 ≤ K ∧ K ≤ 17
  · rw [if_pos hc]
    have c14 : ¬ nI K < 14 := by rw [show (14 : Int32) = nI 14 from rfl, zlt_nI (by omega) (by decide)]; omega
    have c17 : nI K ≤ 17 := by rw [show (17 : Int32) = nI 17 from rfl, zle_nI (by omega) (by decide)]; omega
    have e14 : nI K - 14 = nI (K - 14) := by
      rcases (show K = 14 ∨ K = 15 ∨ K = 16 ∨ K = 17 by omega) with h | h | h | h <;> rw [h] <;> decide
    have a3' : yXq (zup I1 u 3 (nI (K - 14))) J1 B n (ytok B n ps.1).2.2.2.2 := yXq_fr a3 (zup_ne _ _ _ (by omega)) (zup_ne _ _ _ (by omega)) rfl
    obtain ⟨I2, J2, b1, b2, b3⟩ := x_adv (t := t) (u := u) (i := u) (f := f) (s := s) a3' (by omega)
    have f3 : yfX u I J I2 J2 := yfX_trans (yfX_fs a2) (yfX_trans (yfX_up (yfX_refl u I1 J1) (by omega)) (yfX_fs b2))
    refine yLR_fr f3 ?_
    have hfin := x_fin (I := I2) (J := J2) (B := B) (n := n) (t := t) (f := f) (s := s) (ps := ((ytok B n (ytok B n ps.1).2.2.2.2).2.2.2.2, ps.2.1, ps.2.2.1, ps.2.2.2.1, ps.2.2.2.2.1, ps.2.2.2.2.2.1, ps.2.2.2.2.2.2.1, ps.2.2.2.2.2.2.2.1, K - 14, ps.2.2.2.2.2.2.2.2.2.1, ps.2.2.2.2.2.2.2.2.2.2.1, ps.2.2.2.2.2.2.2.2.2.2.2.1, ps.2.2.2.2.2.2.2.2.2.2.2.2.1, ps.2.2.2.2.2.2.2.2.2.2.2.2.2.1, ps.2.2.2.2.2.2.2.2.2.2.2.2.2.2)) hu b3 (yXD_q (p := (ytok B n (ytok B n ps.1).2.2.2.2).2.2.2.2) hu hd1 (fun a h1 h2 h3 => (b2.1 a h3).trans (zup_ne _ _ _ h1)) (fun k h => by rw [b2.1 u (by omega)]; exact zup_k _ _ h) (by rw [b2.1 u (by omega), zup_s]) (fun k _ _ => by rw [b2.1 24 (by decide), zup_ne _ _ _ (by omega)]) b2.2)
    have hres : f_T_quarrelLine (zs I J (zPt t u u f s 1)) 24 = (f_T_take (zs I2 J2 (zPt t u u f s 1)) 24 59).bind fun q => (zbool q.1).bind fun x => some (x, q.2) := by
      simp (disch := (first | omega | assumption)) only [f_T_quarrelLine, zg_9, gi_7, si_10, gp_9_2, gp_9_6, zbs, nI_add, pk_mul, znI_add1, znI_sub1, znI_subm, zle_nI, zlt_nI, zeq_nI, zle_0, zeq_0, zlt_0, zeq_m, zeq_1, zge_0, zbt0, zbt1, zB_0, zB_1, zB_b, zbool_0, zbool_1, ↓reduceIte, a1, h0, c14, c17, e14, b1, ybid]
    rw [hres]
    exact yLR_zb hfin
  · rw [if_neg hc]
    obtain ⟨σ', c, pl, e1, e2, e3⟩ := x_ref (α := yPs) (u := u) (t := t) (f := f) (s := s) a3
    rw [e2]
    refine ⟨σ', ?_, yEX_fr (yfX_fs a2) e3⟩
    by_cases h14 : K < 14
    · have c14 : nI K < 14 := by rw [show (14 : Int32) = nI 14 from rfl, zlt_nI (by omega) (by decide)]; omega
      simp (disch := (first | omega | assumption)) only [f_T_quarrelLine, f_T_quarrelLine_31, zg_9, gi_7, si_10, gp_9_2, gp_9_6, zbs, nI_add, pk_mul, znI_add1, znI_sub1, znI_subm, zle_nI, zlt_nI, zeq_nI, zle_0, zeq_0, zlt_0, zeq_m, zeq_1, zge_0, zbt0, zbt1, zB_0, zB_1, zB_b, zbool_0, zbool_1, ↓reduceIte, a1, h0, c14, e1]
    · have c14 : ¬ nI K < 14 := by rw [show (14 : Int32) = nI 14 from rfl, zlt_nI (by omega) (by decide)]; omega
      have c17 : ¬ nI K ≤ 17 := by rw [show (17 : Int32) = nI 17 from rfl, zle_nI (by omega) (by decide)]; omega
      simp (disch := (first | omega | assumption)) only [f_T_quarrelLine, f_T_quarrelLine_31, zg_9, gi_7, si_10, gp_9_2, gp_9_6, zbs, nI_add, pk_mul, znI_add1, znI_sub1, znI_subm, zle_nI, zlt_nI, zeq_nI, zle_0, zeq_0, zlt_0, zeq_m, zeq_1, zge_0, zbt0, zbt1, zB_0, zB_1, zB_b, zbool_0, zbool_1, ↓reduceIte, a1, h0, c14, c17, e1]
theorem x_formulaLine_law (hu : u = 2 ∨ u = 13) (hq : yXq I J B n ps.1) (hd : yXD I J u ps) (hk : ¬ (ytok B n ps.1).1 = 1) : yLR B n u t s I J (f_T_formulaLine (zs I J (zPt t u u f s 1)) 24 (u + 5)) (((ylv (ytok B n) 7).1 (ytok B n ps.1).2.2.2.2 0).bd fun r => yfin (ytok B n) (r.2.1, ps.2.1, ps.2.2.1, ps.2.2.2.1, ps.2.2.2.2.1, ps.2.2.2.2.2.1, ps.2.2.2.2.2.2.1, ps.2.2.2.2.2.2.2.1, ps.2.2.2.2.2.2.2.2.1, ps.2.2.2.2.2.2.2.2.2.1, ps.2.2.2.2.2.2.2.2.2.2.1, ps.2.2.2.2.2.2.2.2.2.2.2.1, some r.1, ps.2.2.2.2.2.2.2.2.2.2.2.2.2.1, ps.2.2.2.2.2.2.2.2.2.2.2.2.2.2 + r.2.2)) := by
  have hF : u + 5 = 7 ∨ u + 5 = 10 ∨ u + 5 = 18 ∨ u + 5 = 21 := by omega
  have n1 : ¬ (1 : Int32) = 0 := by decide
  have f0 : yfX u I J (zup (zup I (u + 5) 2 0) 24 8 0) J := yfX_24 (yfX_up (yfX_refl u I J) (by omega))
  have hq0 : yXq (zup (zup I (u + 5) 2 0) 24 8 0) J B n ps.1 := yXq_fr hq ((zup_ne _ _ _ (by omega)).trans (zup_ne _ _ _ (by omega))) ((zup_ne _ _ _ (by omega)).trans (zup_ne _ _ _ (by omega))) rfl
  obtain ⟨I1, J1, a1, a2, a3⟩ := x_adv (t := t) (u := u) (i := u) (f := u + 5) (s := s) hq0 hk
  have hz1 : ∀ a, a ≠ 24 → a ≠ 25 → a ≠ u + 5 → I1 a = I a := fun a h1 h2 h3 => (a2.1 a h2).trans ((zup_ne _ _ _ h1).trans (zup_ne _ _ _ h3))
  have hf1 : yXf I1 J1 B n (u + 5) [] (ytok B n ps.1).2.2.2.2 0 := by
    refine ⟨a3.1, a3.2.1, a3.2.2, ⟨?_, fun k hk => absurd hk (Nat.not_lt_zero _)⟩, ?_⟩
    · rw [a2.1 (u + 5) (by omega), zup_ne _ _ _ (by omega), zup_s]; rfl
    · rw [a2.1 24 (by decide), zup_s, zup_k _ _ (show 0 ≠ 8 by decide), zup_k _ _ (show 1 ≠ 8 by decide), zup_ne _ _ _ (by omega)]
      exact ⟨rfl, hd.1.2.2.2.2.2.2.2.2⟩
  have it := x_formula (B := B) (n := n) (t := t) (u := u) (i := u) (s := s) hF I1 J1 [] (ytok B n ps.1).2.2.2.2 0 hf1 (by decide) (by decide)
  cases hx : (ylv (ytok B n) 7).1 (ytok B n ps.1).2.2.2.2 0 with
  | error cp_ =>
    obtain ⟨c, pl⟩ := cp_
    rw [hx] at it
    obtain ⟨I2, J2, b1, b2, b3⟩ := it
    have b1 : f_T_tieE (zs I1 J1 (zPt t u u (u + 5) s 1)) 24 0 = some (0, zs I2 J2 (zPt t u u (u + 5) s 1)) := b1
    refine ⟨zs I2 J2 (zPt t u u (u + 5) s 1), ?_, I2, J2, u + 5, rfl, yfX_trans f0 (yfX_trans (yfX_fs a2) (yfX_ff (by omega) b2)), b3⟩
    simp (disch := (first | omega | assumption)) only [f_T_formulaLine, f_F_clear, zg_9, gi_10, gi_9, si_9, si_10, sp_9, gp_9_7, gp_9_2, gp_9_6, zg_2, si_2, zbs, nI_add, pk_mul, znI_add1, znI_sub1, znI_subm, zle_nI, zlt_nI, zeq_nI, zle_0, zeq_0, zlt_0, zeq_m, zeq_1, zge_0, zbt0, zbt1, zB_0, zB_1, zB_b, zbool_0, zbool_1, ↓reduceIte, zput_f, hF, a1, b1]
  | ok r =>
    rw [hx] at it
    obtain ⟨I2, J2, b1, b2, b3⟩ := it
    have b1 : f_T_tieE (zs I1 J1 (zPt t u u (u + 5) s 1)) 24 0 = some (1, zs I2 J2 (zPt t u u (u + 5) s 1)) := b1
    have hz2 : ∀ a, a ≠ 24 → a ≠ 25 → a ≠ u + 5 → a ≠ u + 5 + 1 → I2 a = I a := fun a h1 h2 h3 h4 => (b2.1 a h1 h2 h3 h4).trans (hz1 a h1 h2 h3)
    have e6 : I2 u 6 = nI ps.2.2.2.2.2.2.2.2.2.2.2.2.2.2 := by rw [hz2 u (by omega) (by omega) (by omega) (by omega)]; exact hd.1.2.2.2.2.2.2.1
    have e8 : I2 24 8 = nI r.2.2 := b3.2.2.2.2.1
    have f3 : yfX u I J (zup I2 u 6 (nI (ps.2.2.2.2.2.2.2.2.2.2.2.2.2.2 + r.2.2))) J2 := yfX_trans f0 (yfX_trans (yfX_fs a2) (yfX_up (yfX_ff (by omega) b2) (by omega)))
    refine yLR_fr f3 ?_
    have hfin := x_fin (I := zup I2 u 6 (nI (ps.2.2.2.2.2.2.2.2.2.2.2.2.2.2 + r.2.2))) (J := J2) (B := B) (n := n) (t := t) (f := u + 5) (s := s) (ps := (r.2.1, ps.2.1, ps.2.2.1, ps.2.2.2.1, ps.2.2.2.2.1, ps.2.2.2.2.2.1, ps.2.2.2.2.2.2.1, ps.2.2.2.2.2.2.2.1, ps.2.2.2.2.2.2.2.2.1, ps.2.2.2.2.2.2.2.2.2.1, ps.2.2.2.2.2.2.2.2.2.2.1, ps.2.2.2.2.2.2.2.2.2.2.2.1, some r.1, ps.2.2.2.2.2.2.2.2.2.2.2.2.2.1, ps.2.2.2.2.2.2.2.2.2.2.2.2.2.2 + r.2.2)) hu (yXq_fr ⟨b3.1, b3.2.1, b3.2.2.1⟩ (zup_ne _ _ _ (by omega)) (zup_ne _ _ _ (by omega)) rfl) (by
      obtain ⟨⟨k0, k1, k2, k3, k4, k5, k6, k9⟩, ⟨r1, r2, r3, r4⟩, ⟨l1, l2⟩, m1, m2, m3⟩ := hd
      have hz : ∀ a, a ≠ 24 → a ≠ 25 → a ≠ u → a ≠ u + 5 → a ≠ u + 5 + 1 → zup I2 u 6 (nI (ps.2.2.2.2.2.2.2.2.2.2.2.2.2.2 + r.2.2)) a = I a := fun a h1 h2 h3 h4 h5 => (zup_ne _ _ _ h3).trans (hz2 a h1 h2 h4 h5)
      have hzu : ∀ k, k ≠ 6 → zup I2 u 6 (nI (ps.2.2.2.2.2.2.2.2.2.2.2.2.2.2 + r.2.2)) u k = I u k := fun k h => (zup_k _ _ h).trans (by rw [hz2 u (by omega) (by omega) (by omega) (by omega)])
      have h249 : zup I2 u 6 (nI (ps.2.2.2.2.2.2.2.2.2.2.2.2.2.2 + r.2.2)) 24 9 = I 24 9 := by rw [zup_ne _ _ _ (by omega), b2.2.1 9 (by decide) (by decide) (by decide), a2.1 24 (by decide), zup_k _ _ (by decide), zup_ne _ _ _ (by omega)]
      have h240 : zup I2 u 6 (nI (ps.2.2.2.2.2.2.2.2.2.2.2.2.2.2 + r.2.2)) 24 0 = 0 ∧ zup I2 u 6 (nI (ps.2.2.2.2.2.2.2.2.2.2.2.2.2.2 + r.2.2)) 24 1 = -1 := by rw [zup_ne _ _ _ (by omega)]; exact b3.2.2.2.2.2
      have hm : yFm (zup I2 u 6 (nI (ps.2.2.2.2.2.2.2.2.2.2.2.2.2.2 + r.2.2))) (u + 5) r.1 := by
        have := b3.2.2.2.1
        unfold yFm at this ⊢
        rw [zup_ne _ _ _ (by omega), zup_ne _ _ _ (by omega)]
        exact this
      have ho : yFm (zup I2 u 6 (nI (ps.2.2.2.2.2.2.2.2.2.2.2.2.2.2 + r.2.2))) (u + 8) (ps.2.2.2.2.2.2.2.2.2.2.2.2.2.1.getD [-3]) := by
        unfold yFm
        rw [hz (u + 8) (by omega) (by omega) (by omega) (by omega) (by omega), hz (u + 8 + 1) (by omega) (by omega) (by omega) (by omega) (by omega)]
        exact l2
      have hJ : ∀ a, a ≠ 25 → J2 a = J a := fun a h => (b2.2.2 a h).trans (a2.2 a h)
      unfold yXD yNa
      rw [h249, hz (u + 1) (by omega) (by omega) (by omega) (by omega) (by omega), hz (u + 2) (by omega) (by omega) (by omega) (by omega) (by omega), hz (u + 3) (by omega) (by omega) (by omega) (by omega) (by omega), hz (u + 4) (by omega) (by omega) (by omega) (by omega) (by omega), hzu 0 (by decide), hzu 1 (by decide), hzu 2 (by decide), hzu 3 (by decide), hzu 4 (by decide), hzu 5 (by decide), hJ 27 (by decide), hJ 28 (by decide), hJ 29 (by decide)]
      exact ⟨⟨k0, k1, k2, k3, k4, k5, zup_s _ _ _ _, k9.1, h240⟩, ⟨r1, r2, r3, r4⟩, ⟨hm, ho⟩, m1, m2, m3⟩)
    have hres : f_T_formulaLine (zs I J (zPt t u u f s 1)) 24 (u + 5) = (f_T_take (zs (zup I2 u 6 (nI (ps.2.2.2.2.2.2.2.2.2.2.2.2.2.2 + r.2.2))) J2 (zPt t u u (u + 5) s 1)) 24 59).bind fun q => (zbool q.1).bind fun x => some (x, q.2) := by
      simp (disch := (first | omega | assumption)) only [f_T_formulaLine, f_F_clear, zg_9, gi_10, gi_9, si_9, si_10, sp_9, gp_9_7, gp_9_2, gp_9_6, zg_2, si_2, zbs, nI_add, pk_mul, znI_add1, znI_sub1, znI_subm, zle_nI, zlt_nI, zeq_nI, zle_0, zeq_0, zlt_0, zeq_m, zeq_1, zge_0, zbt0, zbt1, zB_0, zB_1, zB_b, zbool_0, zbool_1, ↓reduceIte, zput_f, hF, a1, b1, n1, e6, e8, ybid]
    rw [hres]
    exact yLR_zb hfin
theorem x_formulaLine_bend (hu : u = 2 ∨ u = 13) (hq : yXq I J B n ps.1) (hd : yXD I J u ps) (hk : ¬ (ytok B n ps.1).1 = 1) : yLR B n u t s I J (f_T_formulaLine (zs I J (zPt t u u f s 1)) 24 (u + 8)) (((ylv (ytok B n) 7).1 (ytok B n ps.1).2.2.2.2 0).bd fun r => yfin (ytok B n) (r.2.1, ps.2.1, ps.2.2.1, ps.2.2.2.1, ps.2.2.2.2.1, ps.2.2.2.2.2.1, ps.2.2.2.2.2.2.1, ps.2.2.2.2.2.2.2.1, ps.2.2.2.2.2.2.2.2.1, ps.2.2.2.2.2.2.2.2.2.1, ps.2.2.2.2.2.2.2.2.2.2.1, ps.2.2.2.2.2.2.2.2.2.2.2.1, ps.2.2.2.2.2.2.2.2.2.2.2.2.1, some r.1, ps.2.2.2.2.2.2.2.2.2.2.2.2.2.2 + r.2.2)) := by
  have hF : u + 8 = 7 ∨ u + 8 = 10 ∨ u + 8 = 18 ∨ u + 8 = 21 := by omega
  have n1 : ¬ (1 : Int32) = 0 := by decide
  have f0 : yfX u I J (zup (zup I (u + 8) 2 0) 24 8 0) J := yfX_24 (yfX_up (yfX_refl u I J) (by omega))
  have hq0 : yXq (zup (zup I (u + 8) 2 0) 24 8 0) J B n ps.1 := yXq_fr hq ((zup_ne _ _ _ (by omega)).trans (zup_ne _ _ _ (by omega))) ((zup_ne _ _ _ (by omega)).trans (zup_ne _ _ _ (by omega))) rfl
  obtain ⟨I1, J1, a1, a2, a3⟩ := x_adv (t := t) (u := u) (i := u) (f := u + 8) (s := s) hq0 hk
  have hz1 : ∀ a, a ≠ 24 → a ≠ 25 → a ≠ u + 8 → I1 a = I a := fun a h1 h2 h3 => (a2.1 a h2).trans ((zup_ne _ _ _ h1).trans (zup_ne _ _ _ h3))
  have hf1 : yXf I1 J1 B n (u + 8) [] (ytok B n ps.1).2.2.2.2 0 := by
    refine ⟨a3.1, a3.2.1, a3.2.2, ⟨?_, fun k hk => absurd hk (Nat.not_lt_zero _)⟩, ?_⟩
    · rw [a2.1 (u + 8) (by omega), zup_ne _ _ _ (by omega), zup_s]; rfl
    · rw [a2.1 24 (by decide), zup_s, zup_k _ _ (show 0 ≠ 8 by decide), zup_k _ _ (show 1 ≠ 8 by decide), zup_ne _ _ _ (by omega)]
      exact ⟨rfl, hd.1.2.2.2.2.2.2.2.2⟩
  have it := x_formula (B := B) (n := n) (t := t) (u := u) (i := u) (s := s) hF I1 J1 [] (ytok B n ps.1).2.2.2.2 0 hf1 (by decide) (by decide)
  cases hx : (ylv (ytok B n) 7).1 (ytok B n ps.1).2.2.2.2 0 with
  | error cp_ =>
    obtain ⟨c, pl⟩ := cp_
    rw [hx] at it
    obtain ⟨I2, J2, b1, b2, b3⟩ := it
    have b1 : f_T_tieE (zs I1 J1 (zPt t u u (u + 8) s 1)) 24 0 = some (0, zs I2 J2 (zPt t u u (u + 8) s 1)) := b1
    refine ⟨zs I2 J2 (zPt t u u (u + 8) s 1), ?_, I2, J2, u + 8, rfl, yfX_trans f0 (yfX_trans (yfX_fs a2) (yfX_ff (by omega) b2)), b3⟩
    simp (disch := (first | omega | assumption)) only [f_T_formulaLine, f_F_clear, zg_9, gi_10, gi_9, si_9, si_10, sp_9, gp_9_7, gp_9_2, gp_9_6, zg_2, si_2, zbs, nI_add, pk_mul, znI_add1, znI_sub1, znI_subm, zle_nI, zlt_nI, zeq_nI, zle_0, zeq_0, zlt_0, zeq_m, zeq_1, zge_0, zbt0, zbt1, zB_0, zB_1, zB_b, zbool_0, zbool_1, ↓reduceIte, zput_f, hF, a1, b1]
  | ok r =>
    rw [hx] at it
    obtain ⟨I2, J2, b1, b2, b3⟩ := it
    have b1 : f_T_tieE (zs I1 J1 (zPt t u u (u + 8) s 1)) 24 0 = some (1, zs I2 J2 (zPt t u u (u + 8) s 1)) := b1
    have hz2 : ∀ a, a ≠ 24 → a ≠ 25 → a ≠ u + 8 → a ≠ u + 8 + 1 → I2 a = I a := fun a h1 h2 h3 h4 => (b2.1 a h1 h2 h3 h4).trans (hz1 a h1 h2 h3)
    have e6 : I2 u 6 = nI ps.2.2.2.2.2.2.2.2.2.2.2.2.2.2 := by rw [hz2 u (by omega) (by omega) (by omega) (by omega)]; exact hd.1.2.2.2.2.2.2.1
    have e8 : I2 24 8 = nI r.2.2 := b3.2.2.2.2.1
    have f3 : yfX u I J (zup I2 u 6 (nI (ps.2.2.2.2.2.2.2.2.2.2.2.2.2.2 + r.2.2))) J2 := yfX_trans f0 (yfX_trans (yfX_fs a2) (yfX_up (yfX_ff (by omega) b2) (by omega)))
    refine yLR_fr f3 ?_
    have hfin := x_fin (I := zup I2 u 6 (nI (ps.2.2.2.2.2.2.2.2.2.2.2.2.2.2 + r.2.2))) (J := J2) (B := B) (n := n) (t := t) (f := u + 8) (s := s) (ps := (r.2.1, ps.2.1, ps.2.2.1, ps.2.2.2.1, ps.2.2.2.2.1, ps.2.2.2.2.2.1, ps.2.2.2.2.2.2.1, ps.2.2.2.2.2.2.2.1, ps.2.2.2.2.2.2.2.2.1, ps.2.2.2.2.2.2.2.2.2.1, ps.2.2.2.2.2.2.2.2.2.2.1, ps.2.2.2.2.2.2.2.2.2.2.2.1, ps.2.2.2.2.2.2.2.2.2.2.2.2.1, some r.1, ps.2.2.2.2.2.2.2.2.2.2.2.2.2.2 + r.2.2)) hu (yXq_fr ⟨b3.1, b3.2.1, b3.2.2.1⟩ (zup_ne _ _ _ (by omega)) (zup_ne _ _ _ (by omega)) rfl) (by
      obtain ⟨⟨k0, k1, k2, k3, k4, k5, k6, k9⟩, ⟨r1, r2, r3, r4⟩, ⟨l1, l2⟩, m1, m2, m3⟩ := hd
      have hz : ∀ a, a ≠ 24 → a ≠ 25 → a ≠ u → a ≠ u + 8 → a ≠ u + 8 + 1 → zup I2 u 6 (nI (ps.2.2.2.2.2.2.2.2.2.2.2.2.2.2 + r.2.2)) a = I a := fun a h1 h2 h3 h4 h5 => (zup_ne _ _ _ h3).trans (hz2 a h1 h2 h4 h5)
      have hzu : ∀ k, k ≠ 6 → zup I2 u 6 (nI (ps.2.2.2.2.2.2.2.2.2.2.2.2.2.2 + r.2.2)) u k = I u k := fun k h => (zup_k _ _ h).trans (by rw [hz2 u (by omega) (by omega) (by omega) (by omega)])
      have h249 : zup I2 u 6 (nI (ps.2.2.2.2.2.2.2.2.2.2.2.2.2.2 + r.2.2)) 24 9 = I 24 9 := by rw [zup_ne _ _ _ (by omega), b2.2.1 9 (by decide) (by decide) (by decide), a2.1 24 (by decide), zup_k _ _ (by decide), zup_ne _ _ _ (by omega)]
      have h240 : zup I2 u 6 (nI (ps.2.2.2.2.2.2.2.2.2.2.2.2.2.2 + r.2.2)) 24 0 = 0 ∧ zup I2 u 6 (nI (ps.2.2.2.2.2.2.2.2.2.2.2.2.2.2 + r.2.2)) 24 1 = -1 := by rw [zup_ne _ _ _ (by omega)]; exact b3.2.2.2.2.2
      have hm : yFm (zup I2 u 6 (nI (ps.2.2.2.2.2.2.2.2.2.2.2.2.2.2 + r.2.2))) (u + 8) r.1 := by
        have := b3.2.2.2.1
        unfold yFm at this ⊢
        rw [zup_ne _ _ _ (by omega), zup_ne _ _ _ (by omega)]
        exact this
      have ho : yFm (zup I2 u 6 (nI (ps.2.2.2.2.2.2.2.2.2.2.2.2.2.2 + r.2.2))) (u + 5) (ps.2.2.2.2.2.2.2.2.2.2.2.2.1.getD [-1]) := by
        unfold yFm
        rw [hz (u + 5) (by omega) (by omega) (by omega) (by omega) (by omega), hz (u + 5 + 1) (by omega) (by omega) (by omega) (by omega) (by omega)]
        exact l1
      have hJ : ∀ a, a ≠ 25 → J2 a = J a := fun a h => (b2.2.2 a h).trans (a2.2 a h)
      unfold yXD yNa
      rw [h249, hz (u + 1) (by omega) (by omega) (by omega) (by omega) (by omega), hz (u + 2) (by omega) (by omega) (by omega) (by omega) (by omega), hz (u + 3) (by omega) (by omega) (by omega) (by omega) (by omega), hz (u + 4) (by omega) (by omega) (by omega) (by omega) (by omega), hzu 0 (by decide), hzu 1 (by decide), hzu 2 (by decide), hzu 3 (by decide), hzu 4 (by decide), hzu 5 (by decide), hJ 27 (by decide), hJ 28 (by decide), hJ 29 (by decide)]
      exact ⟨⟨k0, k1, k2, k3, k4, k5, zup_s _ _ _ _, k9.1, h240⟩, ⟨r1, r2, r3, r4⟩, ⟨ho, hm⟩, m1, m2, m3⟩)
    have hres : f_T_formulaLine (zs I J (zPt t u u f s 1)) 24 (u + 8) = (f_T_take (zs (zup I2 u 6 (nI (ps.2.2.2.2.2.2.2.2.2.2.2.2.2.2 + r.2.2))) J2 (zPt t u u (u + 8) s 1)) 24 59).bind fun q => (zbool q.1).bind fun x => some (x, q.2) := by
      simp (disch := (first | omega | assumption)) only [f_T_formulaLine, f_F_clear, zg_9, gi_10, gi_9, si_9, si_10, sp_9, gp_9_7, gp_9_2, gp_9_6, zg_2, si_2, zbs, nI_add, pk_mul, znI_add1, znI_sub1, znI_subm, zle_nI, zlt_nI, zeq_nI, zle_0, zeq_0, zlt_0, zeq_m, zeq_1, zge_0, zbt0, zbt1, zB_0, zB_1, zB_b, zbool_0, zbool_1, ↓reduceIte, zput_f, hF, a1, b1, n1, e6, e8, ybid]
    rw [hres]
    exact yLR_zb hfin
end ZXo
