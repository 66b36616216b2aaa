/-! the class fills its rows -/
def zRs (A t : Nat) : Nat → Nat → Bool := fun a k => a == A || a == A + 1 || a == A + 2 || (a == 51 && k != 2 && k != 3) || a == t + 7
/-- rows of reader r lie at A -/
def zRw (I : Nat → Nat → Int32) (A nt nb m r : Nat) (K : Nat → Nat → Int32) : Prop :=
  I A 2 = nI r ∧ I A 3 = nI nt ∧ I A 4 = nI ((2 * m + 1) ^ nt) ∧ (∀ v k, v < (2 * m + 1) ^ nt → k < nt → I (A + 1) (4 * v + k) = zcell m nt v k) ∧ ∀ v b, v < (2 * m + 1) ^ nt → b < nb → I (A + 2) (10 * v + b) = K v b
section ZFi
variable {I : Nat → Nat → Int32} {J : Nat → Nat → Int64} {t u i f s x : Nat} {nt nb nr q sh md om im A N : Nat} {LW BW : List Int32}
theorem zRs_row {I' : Nat → Nat → Int32} (h : zfr (zRs A t) I I') (a : Nat) (h1 : a ≠ A) (h2 : a ≠ A + 1) (h3 : a ≠ A + 2) (h4 : a ≠ 51) (h5 : a ≠ t + 7) : I' a = I a := zfr_row h a (fun k => by simp [zRs, h1, h2, h3, h4, h5])
theorem zSg_rs (hA : A = 52 ∨ A = 56) (ht : t = 2 ∨ t = 13) : ∀ a k, zRs A t a k = true → zSg a k = true := fun a k h => by
  unfold zRs at h
  simp at h
  rcases h with (((rfl | rfl) | rfl) | ⟨⟨rfl, h1⟩, h2⟩) | rfl
  · rcases hA with rfl | rfl <;> rfl
  · rcases hA with rfl | rfl <;> rfl
  · rcases hA with rfl | rfl <;> rfl
  · simp [zSg, h1, h2]
  · rcases ht with rfl | rfl <;> rfl
theorem g_R_cell (hA : A = 52 ∨ A = 56) {v k : Nat} (hv : v < 625) (hk : k < 4) : f_R_cell (zs I J (zPt t u i f s x)) A (nI v) (nI k) = some (I (A + 1) (4 * v + k)) := by
  simp (disch := (first | omega | assumption)) only [f_R_cell, zg_6, gp_6_5, ai_6_5, mr4, zbs, nI_add, pk_mul, znI_add1, znI_sub1, znI_subm, zle_nI, zlt_nI, zeq_nI, zle_0, zeq_0, zlt_0, zeq_m, zeq_1, zge_0, zbt0, zbt1, zB_0, zB_1, zB_b, zbool_0, zbool_1, ↓reduceIte]
theorem g_R_fill (hA : A = 52 ∨ A = 56) (hC : zCo I t nt nb nr q sh md om im LW BW) {m r : Nat} (hm : m ≤ 2) (hr : r < nr) :
    ∃ I', f_R_fill (zs I J (zPt t u i f t x)) A 47 30 (nI r) (nI m) = some (zs I' J (zPt t u i f t x)) ∧ zfr (zRs A t) I I' ∧ (I' A 1 = -1 ∧ I' A 0 = 0) ∧ zRw I' A nt nb m r (fun v b => zkm I nt LW (zcell m nt v) r b) := by
  have ht := hC.1
  have hnb := hC.2.1.1.2.1.2
  have hnr := hC.2.1.1.2.2.1.2
  have hnt := hC.2.1.1.1.2
  have hX := hC.2.1.2.1
  have hR := zR_le (m := m) hm hnt
  have hw := hC.2.1.2.2.2.2.2.2.1
  have hou := hC.2.1.2.2.2.2.2.2.2.1
  have hNow := hC.2.2.1
  have w2 := hC.2.2.2.2.2.2.1
  have w3 := hC.2.2.2.2.2.2.2
  -- bridge
  have bridge : ∀ v b, b < nb → zkx I t nt LW (zcell m nt v) (I 33 (10 * r + b)) r b = zkm I nt LW (zcell m nt v) r b := fun v b hb => by
    unfold zkx zkm
    have w1 : ∀ k, k < nt → I (t + 1) (4 * b + k) = I 107 (4 * b + k) := fun k hk => hw b k hb hk
    rw [hNow.2.2.2.2 (10 * r + b) (by omega), zsm_congr (n := nt) (h := zcell m nt v) (h' := zcell m nt v) (w' := fun k => I 107 (4 * b + k)) (fun _ _ => rfl) w1, zsm_congr (n := nt) (h' := fun k => I 109 (4 * r + k)) (w' := fun k => I 107 (4 * b + k)) (fun k hk => hou r k hr hk) w1, Nat.add_assoc]
  -- the head
  generalize hI1 : zup (zup (zup (zup I A 2 (nI r)) A 3 (nI nt)) A 1 (-1)) A 0 0 = I1
  have F1 : zfr (zRs A t) I I1 := by
    rw [← hI1]
    refine zfr_up (zfr_up (zfr_up (zfr_up (zfr_refl _ _) ?_) ?_) ?_) ?_ <;> simp [zRs]
  have h13 : I1 A 3 = nI nt := by rw [← hI1, zup_k _ _ (by decide), zup_k _ _ (by decide), zup_s]
  obtain ⟨I2, c1, c2, c3, c4⟩ := g_R_fillCells (J := J) (t := t) (u := u) (i := i) (f := f) (s := t) (x := x) hA h13 hnt hm
  have F2 : zfr (zRs A t) I I2 := zfr_trans F1 (zfr_mono c2 (fun a k h => by
    simp at h
    rcases h with h | ⟨h, -⟩ <;> simp [zRs, h]))
  have fA : ∀ k, k ≠ 4 → I2 A k = I1 A k := fun k hk => c2 A k (by simp [hk])
  have base : ∀ I', zfr (zRs A t) I I' → zXd I' t nt nb nr LW := fun I' h => zXd_rows hX (zRs_row h t (by omega) (by omega) (by omega) (by omega) (by omega)) (zRs_row h (t + 5) (by omega) (by omega) (by omega) (by omega) (by omega)) (zRs_row h (t + 6) (by omega) (by omega) (by omega) (by omega) (by omega))
  obtain ⟨I', ⟨a1, a2, a4, a5⟩, a3⟩ := zfor (fun fuel I' k => f_R_fill_35L fuel (zs I' J (zPt t u i f t x)) A 47 30 (nI k)) nb
    (fun k I' => zfr (zRs A t) I I' ∧ I' A = I2 A ∧ I' (A + 1) = I2 (A + 1) ∧ ∀ v b, v < (2 * m + 1) ^ nt → b < k → I' (A + 2) (10 * v + b) = zkm I nt LW (zcell m nt v) r b)
    (fun I' => some (zs I' J (zPt t u i f t x)))
    (fun m' k I' hk hi => by
      obtain ⟨i1, i2, i3, i4⟩ := hi
      have hX' := base I' i1
      have hle : ¬ nb ≤ k := by omega
      have e2 : I' A 2 = nI r := by rw [i2, fA 2 (by decide), ← hI1, zup_k _ _ (by decide), zup_k _ _ (by decide), zup_k _ _ (by decide), zup_s]
      have R := fun a h1 h2 h3 h4 h5 => zRs_row i1 a h1 h2 h3 h4 h5
      have t1 := g_S_turnTo (N := 30) (J := J) (t := t) (u := u) (i := i) (f := f) (x := x) ht (Or.inl rfl) hX' (show r < 6 by omega) (show k < 10 by omega)
      rw [R (t + 1) (by omega) (by omega) (by omega) (by omega) (by omega), R (t + 3) (by omega) (by omega) (by omega) (by omega) (by omega), R (30 + 3) (by omega) (by omega) (by omega) (by omega) (by omega)] at t1
      generalize hT : zup (zup (zup I' 51 1 (zsm (fun k => I (t + 3) (4 * r + k)) (fun j => I (t + 1) (4 * k + j)) nt)) 51 4 (I (30 + 3) (10 * r + k))) 51 5 (nI k) = T at t1
      have FT : zfr (zRs A t) I T := by
        rw [← hT]
        refine zfr_up (zfr_up (zfr_up i1 ?_) ?_) ?_ <;> simp [zRs]
      have T1 : T 51 1 = zsm (fun k => I (t + 3) (4 * r + k)) (fun j => I (t + 1) (4 * k + j)) nt := by rw [← hT, zup_k _ _ (by decide), zup_k _ _ (by decide), zup_s]
      have T4 : T 51 4 = I 33 (10 * r + k) := by rw [← hT, zup_k _ _ (by decide), zup_s]
      have T5 : T 51 5 = nI k := by rw [← hT, zup_s]
      have TA : ∀ a, a ≠ 51 → T a = I' a := fun a ha => by rw [← hT, zup_ne _ _ _ ha, zup_ne _ _ _ ha, zup_ne _ _ _ ha]
      obtain ⟨I3, ⟨g1, g2, g3, g4, g5, g6⟩, g7⟩ := zfor (fun fuel I3 v => f_R_fill_61L (f_R_fill_35L m') fuel (zs I3 J (zPt t u i f t x)) A 47 30 (nI k) (nI v)) ((2 * m + 1) ^ nt)
        (fun v I3 => zfr (zRs A t) I I3 ∧ I3 A = I2 A ∧ I3 (A + 1) = I2 (A + 1) ∧ (∀ v' b, v' < (2 * m + 1) ^ nt → b < k → I3 (A + 2) (10 * v' + b) = zkm I nt LW (zcell m nt v') r b) ∧ (∀ v', v' < v → I3 (A + 2) (10 * v' + k) = zkm I nt LW (zcell m nt v') r k) ∧ (I3 51 1 = zsm (fun k => I (t + 3) (4 * r + k)) (fun j => I (t + 1) (4 * k + j)) nt ∧ I3 51 4 = I 33 (10 * r + k) ∧ I3 51 5 = nI k))
        (fun I3 => f_R_fill_35L m' (zs I3 J (zPt t u i f t x)) A 47 30 (nI (k + 1)))
        (fun m2 v I3 hv hi3 => by
          obtain ⟨j1, j2, j3, j4, j5, j6, j7, j8⟩ := hi3
          have hX3 := base I3 j1
          have hle2 : ¬ (2 * m + 1) ^ nt ≤ v := by omega
          have e4 : I3 A 4 = nI ((2 * m + 1) ^ nt) := by rw [j2]; exact c3
          have e3 : I3 A 3 = nI nt := by rw [j2, fA 3 (by decide)]; exact h13
          have R3 := fun a h1 h2 h3 h4 h5 => zRs_row j1 a h1 h2 h3 h4 h5
          have hin := zforF (fun fuel (p : Int32) j => f_R_fill_76L (f_R_fill_35L m') (f_R_fill_61L (f_R_fill_35L m') m2) fuel (zs I3 J (zPt t u i f t x)) A 47 30 (nI k) (nI v) p (nI j)) nt (fun j p => p + zcell m nt v j * I (t + 1) (4 * k + j)) (fun _ _ => True) (fun p => f_R_fill_120 (f_R_fill_35L m') (f_R_fill_61L (f_R_fill_35L m') m2) (zs I3 J (zPt t u i f t x)) A 47 30 (nI k) (nI v) p)
            (fun m3 j p hj _ => by
              have hle3 : ¬ nt ≤ j := by omega
              have ce := g_R_cell (I := I3) (J := J) (t := t) (u := u) (i := i) (f := f) (s := t) (x := x) hA (show v < 625 by omega) (show j < 4 by omega)
              rw [j3, c4 v j hv hj] at ce
              have w1 : I3 (t + 1) = I (t + 1) := R3 (t + 1) (by omega) (by omega) (by omega) (by omega) (by omega)
              show f_R_fill_76L _ _ (m3 + 1) _ _ _ _ _ _ _ _ = _
              rw [f_R_fill_76L]
              simp (disch := (first | omega | assumption)) only [f_R_fill_76, gi_6, gp_8_0, gp_10_7, ai_10_7, mr4, zbs, nI_add, pk_mul, znI_add1, znI_sub1, znI_subm, zle_nI, zlt_nI, zeq_nI, zle_0, zeq_0, zlt_0, zeq_m, zeq_1, zge_0, zbt0, zbt1, zB_0, zB_1, zB_b, zbool_0, zbool_1, ↓reduceIte, e3, hle3, ce, w1]) (fun _ _ _ _ => trivial)
            (fun m3 p _ => by
              show f_R_fill_76L _ _ (m3 + 1) _ _ _ _ _ _ _ _ = _
              rw [f_R_fill_76L]
              simp (disch := (first | omega | assumption)) only [f_R_fill_76, gi_6, gp_8_0, gp_10_7, ai_10_7, mr4, zbs, nI_add, pk_mul, znI_add1, znI_sub1, znI_subm, zle_nI, zlt_nI, zeq_nI, zle_0, zeq_0, zlt_0, zeq_m, zeq_1, zge_0, zbt0, zbt1, zB_0, zB_1, zB_b, zbool_0, zbool_1, ↓reduceIte, e3, Nat.le_refl]) nt 0 0 zfu (by omega) trivial (zfu_lt (by omega))
          have hin : f_R_fill_76L (f_R_fill_35L m') (f_R_fill_61L (f_R_fill_35L m') m2) zfu (zs I3 J (zPt t u i f t x)) A 47 30 (nI k) (nI v) 0 0 = f_R_fill_120 (f_R_fill_35L m') (f_R_fill_61L (f_R_fill_35L m') m2) (zs I3 J (zPt t u i f t x)) A 47 30 (nI k) (nI v) (zsm (zcell m nt v) (fun j => I (t + 1) (4 * k + j)) nt) := hin
          obtain ⟨row', kb⟩ := g_S_keyByWant (J := J) (t := t) (u := u) (i := i) (f := f) (x := x) ht hX3 (zsm (zcell m nt v) (fun j => I (t + 1) (4 * k + j)) nt)
          have hwv : zev (va_up (I3 51) 0 (zsm (zcell m nt v) (fun j => I (t + 1) (4 * k + j)) nt)) LW = zkm I nt LW (zcell m nt v) r k := by
            rw [← bridge v k hk]
            refine zev_congr (fun j hj => ?_) LW
            unfold va_up zwrd
            have : j = 0 ∨ j = 1 ∨ j = 2 ∨ j = 3 ∨ j = 4 ∨ j = 5 := by omega
            rcases this with rfl | rfl | rfl | rfl | rfl | rfl
            · rfl
            · simp [j6]
            · have := (j1 51 2 (by simp [zRs]; omega)).trans w2
              simp [this]
            · have := (j1 51 3 (by simp [zRs]; omega)).trans w3
              simp [this]
            · simp [j7]
            · simp [j8]
          rw [hwv] at kb
          refine ⟨zup (zro (zup I3 51 0 (zsm (zcell m nt v) (fun j => I (t + 1) (4 * k + j)) nt)) (t + 7) row') (A + 2) (10 * v + k) (zkm I nt LW (zcell m nt v) r k), ⟨?_, ?_, ?_, fun v' b hv' hb => ?_, fun v' hv' => ?_, ?_, ?_, ?_⟩, ?_⟩
          · refine zfr_up (zfr_ro (zfr_up j1 ?_) (fun _ => ?_)) ?_ <;> simp [zRs]
          · rw [zup_ne _ _ _ (by omega), zro_ne _ _ (by omega), zup_ne _ _ _ (by omega)]; exact j2
          · rw [zup_ne _ _ _ (by omega), zro_ne _ _ (by omega), zup_ne _ _ _ (by omega)]; exact j3
          · rw [zup_k _ _ (by omega), zro_ne _ _ (by omega), zup_ne _ _ _ (by omega)]; exact j4 v' b hv' hb
          · by_cases hvv : v' = v
            · subst hvv; exact zup_s _ _ _ _
            · rw [zup_k _ _ (by omega), zro_ne _ _ (by omega), zup_ne _ _ _ (by omega)]; exact j5 v' (by omega)
          · rw [zup_ne _ _ _ (by omega), zro_ne _ _ (by omega), zup_k _ _ (by decide)]; exact j6
          · rw [zup_ne _ _ _ (by omega), zro_ne _ _ (by omega), zup_k _ _ (by decide)]; exact j7
          · rw [zup_ne _ _ _ (by omega), zro_ne _ _ (by omega), zup_k _ _ (by decide)]; exact j8
          · show f_R_fill_61L _ (m2 + 1) _ _ _ _ _ _ = _
            rw [f_R_fill_61L]
            simp (disch := (first | omega | assumption)) only [f_R_fill_61, gi_6, zbs, nI_add, pk_mul, znI_add1, znI_sub1, znI_subm, zle_nI, zlt_nI, zeq_nI, zle_0, zeq_0, zlt_0, zeq_m, zeq_1, zge_0, zbt0, zbt1, zB_0, zB_1, zB_b, zbool_0, zbool_1, ↓reduceIte, e4, hle2]
            refine Eq.trans hin ?_
            simp (disch := (first | omega | assumption)) only [f_R_fill_120, gp_6_6, wi_6_6, mr10, zbs, nI_add, pk_mul, znI_add1, znI_sub1, znI_subm, zle_nI, zlt_nI, zeq_nI, zle_0, zeq_0, zlt_0, zeq_m, zeq_1, zge_0, zbt0, zbt1, zB_0, zB_1, zB_b, zbool_0, zbool_1, ↓reduceIte, kb])
        (fun m2 I3 hi3 => by
          have e4 : I3 A 4 = nI ((2 * m + 1) ^ nt) := by rw [hi3.2.1]; exact c3
          show f_R_fill_61L _ (m2 + 1) _ _ _ _ _ _ = _
          rw [f_R_fill_61L]
          simp (disch := (first | omega | assumption)) only [f_R_fill_61, gi_6, zbs, nI_add, pk_mul, znI_add1, znI_sub1, znI_subm, zle_nI, zlt_nI, zeq_nI, zle_0, zeq_0, zlt_0, zeq_m, zeq_1, zge_0, zbt0, zbt1, zB_0, zB_1, zB_b, zbool_0, zbool_1, ↓reduceIte, e4, Nat.le_refl]) ((2 * m + 1) ^ nt) 0 T zfu (by omega) ⟨FT, by rw [TA A (by omega)]; exact i2, by rw [TA (A + 1) (by omega)]; exact i3, fun v' b hv' hb => by rw [TA (A + 2) (by omega)]; exact i4 v' b hv' hb, fun v' hv' => by omega, T1, T4, T5⟩ (zfu_lt (by omega))
      refine ⟨I3, ⟨g1, g2, g3, fun v b hv hb => ?_⟩, ?_⟩
      · by_cases hbk : b = k
        · subst hbk; exact g5 v hv
        · exact g4 v b hv (by omega)
      · show f_R_fill_35L (m' + 1) _ _ _ _ _ = _
        rw [f_R_fill_35L]
        simp (disch := (first | omega | assumption)) only [f_R_fill_35, gi_10, gi_6, gp_8_0, zbs, nI_add, pk_mul, znI_add1, znI_sub1, znI_subm, zle_nI, zlt_nI, zeq_nI, zle_0, zeq_0, zlt_0, zeq_m, zeq_1, zge_0, zbt0, zbt1, zB_0, zB_1, zB_b, zbool_0, zbool_1, ↓reduceIte, hX'.2.1.1, hle, e2, t1]
        exact g7)
    (fun m' I' hi => by
      have hX' := base I' hi.1
      show f_R_fill_35L (m' + 1) _ _ _ _ _ = _
      rw [f_R_fill_35L]
      simp (disch := (first | omega | assumption)) only [f_R_fill_35, gi_10, gi_6, gp_8_0, zbs, nI_add, pk_mul, znI_add1, znI_sub1, znI_subm, zle_nI, zlt_nI, zeq_nI, zle_0, zeq_0, zlt_0, zeq_m, zeq_1, zge_0, zbt0, zbt1, zB_0, zB_1, zB_b, zbool_0, zbool_1, ↓reduceIte, hX'.2.1.1, Nat.le_refl]) nb 0 I2 zfu (by omega) ⟨F2, rfl, rfl, fun v b hv hb => by omega⟩ (zfu_lt (by omega))
  refine ⟨I', ?_, a1, ⟨?_, ?_⟩, ?_, ?_, ?_, ?_, a5⟩
  · have e0 : zup I A 2 (nI r) t 0 = nI nt := by rw [zup_ne _ _ _ (by omega)]; exact hX.1.1
    simp (disch := (first | omega | assumption)) only [f_R_fill, zg_6, gi_10, si_6, gp_8_0, zbs, nI_add, pk_mul, znI_add1, znI_sub1, znI_subm, zle_nI, zlt_nI, zeq_nI, zle_0, zeq_0, zlt_0, zeq_m, zeq_1, zge_0, zbt0, zbt1, zB_0, zB_1, zB_b, zbool_0, zbool_1, ↓reduceIte, e0, hI1, c1]
    exact a3
  · rw [a2, fA 1 (by decide), ← hI1, zup_k _ _ (by decide), zup_s]
  · rw [a2, fA 0 (by decide), ← hI1, zup_s]
  · rw [a2, fA 2 (by decide), ← hI1, zup_k _ _ (by decide), zup_k _ _ (by decide), zup_k _ _ (by decide), zup_s]
  · rw [a2, fA 3 (by decide)]; exact h13
  · rw [a2]; exact c3
  · rw [a4]; exact c4
end ZFi
