/-! rows of wants -/
/-- what a row v wants of topic t -/
def zcell (m nt v t : Nat) : Int32 := if t < nt then nI (v / (2 * m + 1) ^ (nt - 1 - t) % (2 * m + 1)) - nI m else 0
theorem zR_le {m nt : Nat} (hm : m ≤ 2) (hnt : nt ≤ 4) : (2 * m + 1) ^ nt ≤ 625 := Nat.le_trans (Nat.pow_le_pow_left (show 2 * m + 1 ≤ 5 by omega) nt) (Nat.le_trans (Nat.pow_le_pow_right (by decide) hnt) (by decide))
theorem zpowB (B : Nat) : ∀ d, zrn (fun _ (l : Nat) => l * B) d 0 1 = B ^ d := by
  intro d
  induction d with
  | zero => rfl
  | succ d ih => rw [zrn_succ, ih, Nat.pow_succ]
section ZRo
variable {I : Nat → Nat → Int32} {J : Nat → Nat → Int64} {t u i f s x : Nat} {nt nb nr q sh md om im A N : Nat} {LW BW : List Int32}
theorem zbase (m : Nat) : (2 : Int32) * nI m + 1 = nI (2 * m + 1) := by
  rw [ml2, nI_1]
theorem g_M_rows (h41 : I 91 41 = nI nt) (hnt : nt ≤ 4) {m : Nat} (hm : m ≤ 2) : f_M_rows (zs I J (zPt t u i f s x)) 91 (nI m) = some (nI ((2 * m + 1) ^ nt)) := by
  have h := zforF (fun fuel (p : Nat) k => f_M_rows_4L fuel (zs I J (zPt t u i f s x)) 91 (nI m) (nI p) (nI k)) nt (fun _ p => p * (2 * m + 1)) (fun _ _ => True) (fun p => some (nI p))
    (fun m' k p hk _ => by
      have hle : ¬ nt ≤ k := by omega
      show f_M_rows_4L (m' + 1) _ _ _ _ _ = _
      rw [f_M_rows_4L]
      simp (disch := (first | omega | assumption)) only [f_M_rows_4, gi_12, ml2, zbs, nI_add, pk_mul, znI_add1, znI_sub1, znI_subm, zle_nI, zlt_nI, zeq_nI, zle_0, zeq_0, zlt_0, zeq_m, zeq_1, zge_0, zbt0, zbt1, zB_0, zB_1, zB_b, zbool_0, zbool_1, ↓reduceIte, h41, hle, zbase]) (fun _ _ _ _ => trivial)
    (fun m' p _ => by
      show f_M_rows_4L (m' + 1) _ _ _ _ _ = _
      rw [f_M_rows_4L]
      simp (disch := (first | omega | assumption)) only [f_M_rows_4, gi_12, ml2, zbs, nI_add, pk_mul, znI_add1, znI_sub1, znI_subm, zle_nI, zlt_nI, zeq_nI, zle_0, zeq_0, zlt_0, zeq_m, zeq_1, zge_0, zbt0, zbt1, zB_0, zB_1, zB_b, zbool_0, zbool_1, ↓reduceIte, h41, Nat.le_refl]) nt 0 1 zfu (by omega) trivial (zfu_lt (by omega))
  rw [zpowB] at h
  simp (disch := (first | omega | assumption)) only [f_M_rows, zg_12, zbs, nI_add, pk_mul, znI_add1, znI_sub1, znI_subm, zle_nI, zlt_nI, zeq_nI, zle_0, zeq_0, zlt_0, zeq_m, zeq_1, zge_0, zbt0, zbt1, zB_0, zB_1, zB_b, zbool_0, zbool_1, ↓reduceIte]
  exact h
/-- a loop that counts down to 0 -/
theorem zdown {A R : Type} (L : Nat → A → Nat → R) (Inv : Nat → A → Prop) (E : A → R)
    (step : ∀ m k s, Inv (k + 1) s → ∃ s', Inv k s' ∧ L (m + 1) s (k + 1) = L m s' k)
    (stop : ∀ m s, Inv 0 s → L (m + 1) s 0 = E s) :
    ∀ (k : Nat) (s : A) (fuel : Nat), Inv k s → k < fuel → ∃ s', Inv 0 s' ∧ L fuel s k = E s' := by
  intro k
  induction k with
  | zero =>
    intro s fuel hi hf
    obtain ⟨m, rfl⟩ : ∃ m, fuel = m + 1 := ⟨fuel - 1, by omega⟩
    exact ⟨s, hi, stop m s hi⟩
  | succ k ih =>
    intro s fuel hi hf
    obtain ⟨m, rfl⟩ : ∃ m, fuel = m + 1 := ⟨fuel - 1, by omega⟩
    obtain ⟨s', h1, h2⟩ := step m k s hi
    obtain ⟨s2, h3, h4⟩ := ih s' m h1 (by omega)
    exact ⟨s2, h3, h2.trans h4⟩
theorem zrI_lt {k : Nat} (hk : k < 2 ^ 31) : (zrI k < 0) = (k = 0) := by
  cases k with
  | zero => simp [zrI]
  | succ k =>
    rw [zrI_pos, zlt_0 (by omega)]
    exact propext ⟨fun h => h.elim, fun h => by omega⟩
theorem zrI_m (k : Nat) : nI k + (-1) = zrI k := by
  cases k with
  | zero => rfl
  | succ k => rw [zrI_pos]; exact pk_m1 k
theorem zrI_s (k : Nat) : nI k - 1 = zrI k := by
  cases k with
  | zero => decide
  | succ k => rw [zrI_pos]; exact znI_sub1 k
theorem zpow_div {B : Nat} (v j : Nat) : v / B ^ j / B = v / B ^ (j + 1) := by
  rw [Nat.div_div_eq_div_mul, Nat.pow_succ]
theorem g_M_layRow (h41 : I 91 41 = nI nt) (hnt : nt ≤ 4) {m v : Nat} (hm : m ≤ 2) (hv : v < 625) : ∃ I', f_M_layRow (zs I J (zPt t u i f s x)) 91 (nI v) (nI m) = some (zs I' J (zPt t u i f s x)) ∧ zfr (zSl [112]) I I' ∧ ∀ t, t < 4 → I' 112 t = zcell m nt v t := by
  have hz : znz (nI (2 * m + 1)) = some (nI (2 * m + 1)) := znz_ne (nI_ne0 (by omega) (by omega))
  obtain ⟨Q, ⟨h1, h2, -⟩, h3⟩ := zdown (fun fuel (p : (Nat → Nat → Int32) × Nat) k => f_M_layRow_5L fuel (zs p.1 J (zPt t u i f s x)) 91 (nI m) (nI p.2) (zrI k))
    (fun k p => zfr (zSl [112]) I p.1 ∧ (∀ t, k ≤ t → t < 4 → p.1 112 t = zcell m nt v t) ∧ k ≤ 4 ∧ p.2 = (if nt ≤ k then v else v / (2 * m + 1) ^ (nt - k)) ∧ p.2 < 625)
    (fun p => some (zs p.1 J (zPt t u i f s x)))
    (fun m' k p hi => by
      obtain ⟨I3, w⟩ := p
      obtain ⟨i1, i2, i3, i4, i5⟩ := hi
      dsimp only at i1 i2 i4 i5
      have e41 : I3 91 41 = nI nt := by rw [zfr_sl i1 91 rfl]; exact h41
      have e41' : ∀ y, zup I3 112 k y 91 41 = nI nt := fun y => by rw [zup_ne _ _ _ (by decide)]; exact e41
      have hneg : (zrI (k + 1) < 0) = False := by rw [zrI_pos]; exact zlt_0 (by omega)
      show ∃ s', _ ∧ f_M_layRow_5L (m' + 1) _ _ _ _ _ = _
      rw [f_M_layRow_5L]
      by_cases hk : nt ≤ k
      · refine ⟨(zup I3 112 k 0, w), ⟨zfr_up i1 rfl, fun t ht1 ht2 => ?_, by omega, ?_, i5⟩, ?_⟩
        · dsimp only
          by_cases htk : t = k
          · subst htk
            rw [zup_s]
            unfold zcell
            rw [if_neg (by omega)]
          · rw [zup_k _ _ htk]; exact i2 t (by omega) ht2
        · dsimp only
          rw [i4, if_pos (by omega), if_pos hk]
        · simp (disch := (first | omega | assumption)) only [f_M_layRow_5, f_M_layRow_38, gi_12, gp_12_50, ml2, zbs, nI_add, pk_mul, znI_add1, znI_sub1, znI_subm, zle_nI, zlt_nI, zeq_nI, zle_0, zeq_0, zlt_0, zeq_m, zeq_1, zge_0, zbt0, zbt1, zB_0, zB_1, zB_b, zbool_0, zbool_1, ↓reduceIte, hneg, zrI_pos, e41, hk, wi_112, e41', zrI_m]
      · have hw : w = v / (2 * m + 1) ^ (nt - (k + 1)) := by
          rw [i4]
          by_cases hk2 : nt ≤ k + 1
          · rw [if_pos hk2, show nt - (k + 1) = 0 by omega, Nat.pow_zero, Nat.div_one]
          · rw [if_neg hk2]
        have hmod : zrem (nI w) (nI (2 * m + 1)) = nI (w % (2 * m + 1)) := pk_rem (by omega) (by omega) (by omega)
        have hdiv : nI w / nI (2 * m + 1) = nI (w / (2 * m + 1)) := pk_div (by omega) (by omega) (by omega)
        have hcell : nI (w % (2 * m + 1)) - nI m = zcell m nt v k := by
          unfold zcell
          rw [if_pos (by omega), hw, show nt - 1 - k = nt - (k + 1) by omega]
        refine ⟨(zup I3 112 k (zcell m nt v k), w / (2 * m + 1)), ⟨zfr_up i1 rfl, fun t ht1 ht2 => ?_, by omega, ?_, ?_⟩, ?_⟩
        · dsimp only
          by_cases htk : t = k
          · subst htk; exact zup_s _ _ _ _
          · rw [zup_k _ _ htk]; exact i2 t (by omega) ht2
        · dsimp only
          rw [if_neg hk, hw, zpow_div, show nt - (k + 1) + 1 = nt - k by omega]
        · dsimp only
          exact Nat.lt_of_le_of_lt (Nat.div_le_self _ _) i5
        · simp (disch := (first | omega | assumption)) only [f_M_layRow_5, f_M_layRow_38, gi_12, gp_12_50, ml2, zbs, nI_add, pk_mul, znI_add1, znI_sub1, znI_subm, zle_nI, zlt_nI, zeq_nI, zle_0, zeq_0, zlt_0, zeq_m, zeq_1, zge_0, zbt0, zbt1, zB_0, zB_1, zB_b, zbool_0, zbool_1, ↓reduceIte, hneg, zrI_pos, e41, hk, zbase, hz, hmod, hcell, wi_112, e41', hdiv, zrI_m])
    (fun m' p hi => by
      have hneg : (zrI 0 < 0) = True := by simp [zrI]
      show f_M_layRow_5L (m' + 1) _ _ _ _ _ = _
      rw [f_M_layRow_5L]
      simp (disch := (first | omega | assumption)) only [f_M_layRow_5, gi_12, gp_12_50, ml2, zbs, nI_add, pk_mul, znI_add1, znI_sub1, znI_subm, zle_nI, zlt_nI, zeq_nI, zle_0, zeq_0, zlt_0, zeq_m, zeq_1, zge_0, zbt0, zbt1, zB_0, zB_1, zB_b, zbool_0, zbool_1, ↓reduceIte, hneg]) 4 (I, v) zfu ⟨zfr_refl _ _, fun t h1 h2 => by omega, Nat.le_refl _, (by rw [if_pos (by omega)]), hv⟩ (zfu_lt (by decide))
  refine ⟨Q.1, ?_, h1, fun t ht => h2 t (Nat.zero_le _) ht⟩
  simp (disch := (first | omega | assumption)) only [f_M_layRow, zg_12, zbs, nI_add, pk_mul, znI_add1, znI_sub1, znI_subm, zle_nI, zlt_nI, zeq_nI, zle_0, zeq_0, zlt_0, zeq_m, zeq_1, zge_0, zbt0, zbt1, zB_0, zB_1, zB_b, zbool_0, zbool_1, ↓reduceIte]
  exact h3
theorem g_M_layByRow (hM : zMd I nt nb nr LW) {m v r : Nat} (hm : m ≤ 2) (hv : v < 625) (hr : r < 6) :
    ∃ I', f_M_layByRow (zs I J (zPt t u i f s x)) 91 (nI r) (nI v) (nI m) = some (zs I' J (zPt t u i f s x)) ∧ zfr (zSl [101, 102, 112, 113]) I I' ∧ (∀ b, b < nb → I' 113 (10 * r + b) = zkm I nt LW (zcell m nt v) r b) ∧ (∀ j, (j < 10 * r ∨ 10 * r + 10 ≤ j) → I' 113 j = I 113 j) ∧ ∀ t, t < 4 → I' 112 t = zcell m nt v t := by
  obtain ⟨I1, a1, a2, a3⟩ := g_M_layRow (I := I) (J := J) (t := t) (u := u) (i := i) (f := f) (s := s) (x := x) hM.1.1 hM.1.2 hm hv
  have hM' : zMd I1 nt nb nr LW := zMd_sl hM a2 ⟨rfl, rfl, rfl, rfl⟩
  obtain ⟨I2, b1, b2, b3, b4⟩ := g_M_layKeys (J := J) (t := t) (u := u) (i := i) (f := f) (s := s) (x := x) hM' hr
  refine ⟨I2, ?_, zfr_trans (zfr_slm a2 rfl) (zfr_slm b2 rfl), fun b hb => ?_, fun j hj => ?_, fun t ht => ?_⟩
  · simp (disch := (first | omega | assumption)) only [f_M_layByRow, zg_12, zbs, nI_add, pk_mul, znI_add1, znI_sub1, znI_subm, zle_nI, zlt_nI, zeq_nI, zle_0, zeq_0, zlt_0, zeq_m, zeq_1, zge_0, zbt0, zbt1, zB_0, zB_1, zB_b, zbool_0, zbool_1, ↓reduceIte, a1, b1]
  · rw [b3 b hb, zkm_hand hM.1.2 a3]
    unfold zkm
    rw [zfr_sl a2 107 rfl, zfr_sl a2 109 rfl, zfr_sl a2 111 rfl]
  · rw [b4 j hj, zfr_sl a2 113 rfl]
  · rw [zfr_sl b2 112 rfl]; exact a3 t ht
/-- the class's rows: which lie in the cells at A -/
theorem g_R_fillCells (hA : A = 52 ∨ A = 56) (h3 : I A 3 = nI nt) (hnt : nt ≤ 4) {m : Nat} (hm : m ≤ 2) :
    ∃ I', f_R_fillCells (zs I J (zPt t u i f s x)) A (nI m) = some (zs I' J (zPt t u i f s x)) ∧ zfr (fun a k => a == A + 1 || (a == A && k == 4)) I I' ∧ I' A 4 = nI ((2 * m + 1) ^ nt) ∧ ∀ v t, v < (2 * m + 1) ^ nt → t < nt → I' (A + 1) (4 * v + t) = zcell m nt v t := by
  have hR := zR_le (m := m) hm hnt
  have hz : znz (nI (2 * m + 1)) = some (nI (2 * m + 1)) := znz_ne (nI_ne0 (by omega) (by omega))
  obtain ⟨Q, ⟨p1, p2, p3⟩, p4⟩ := zfor (fun fuel (p : (Nat → Nat → Int32) × Nat) k => f_R_fillCells_13L fuel (zs p.1 J (zPt t u i f s x)) A (nI m) (nI (2 * m + 1)) (nI k)) nt (fun k p => zfr (fun a k => a == A + 1 || (a == A && k == 4)) I p.1 ∧ p.1 A 4 = nI p.2 ∧ p.2 = zrn (fun _ (l : Nat) => l * (2 * m + 1)) k 0 1) (fun p => f_R_fillCells_39L zfu (zs p.1 J (zPt t u i f s x)) A (nI m) (nI (2 * m + 1)) 0)
    (fun m' k p hk hi => by
      have hle : ¬ nt ≤ k := by omega
      have e3 : p.1 A 3 = nI nt := by rw [hi.1 A 3 (by simp)]; exact h3
      refine ⟨(zup p.1 A 4 (nI (p.2 * (2 * m + 1))), p.2 * (2 * m + 1)), ⟨zfr_up hi.1 (by simp), zup_s _ _ _ _, ?_⟩, ?_⟩
      · dsimp only
        rw [zrn_succ, ← hi.2.2]
      · show f_R_fillCells_13L (m' + 1) _ _ _ _ _ = _
        rw [f_R_fillCells_13L]
        simp (disch := (first | omega | assumption)) only [f_R_fillCells_13, gi_6, si_6, zbs, nI_add, pk_mul, znI_add1, znI_sub1, znI_subm, zle_nI, zlt_nI, zeq_nI, zle_0, zeq_0, zlt_0, zeq_m, zeq_1, zge_0, zbt0, zbt1, zB_0, zB_1, zB_b, zbool_0, zbool_1, ↓reduceIte, e3, hle, hi.2.1])
    (fun m' p hi => by
      have e3 : p.1 A 3 = nI nt := by rw [hi.1 A 3 (by simp)]; exact h3
      show f_R_fillCells_13L (m' + 1) _ _ _ _ _ = _
      rw [f_R_fillCells_13L]
      simp (disch := (first | omega | assumption)) only [f_R_fillCells_13, gi_6, si_6, zbs, nI_add, pk_mul, znI_add1, znI_sub1, znI_subm, zle_nI, zlt_nI, zeq_nI, zle_0, zeq_0, zlt_0, zeq_m, zeq_1, zge_0, zbt0, zbt1, zB_0, zB_1, zB_b, zbool_0, zbool_1, ↓reduceIte, e3, Nat.le_refl]) nt 0 (zup I A 4 1, 1) zfu (by omega) ⟨zfr_up (zfr_refl _ _) (by simp), zup_s _ _ _ _, rfl⟩ (zfu_lt (by omega))
  rw [zpowB] at p3
  obtain ⟨I', ⟨a1, a4, a2⟩, a3⟩ := zfor (fun fuel I' k => f_R_fillCells_39L fuel (zs I' J (zPt t u i f s x)) A (nI m) (nI (2 * m + 1)) (nI k)) ((2 * m + 1) ^ nt) (fun k I' => zfr (fun a k => a == A + 1 || (a == A && k == 4)) I I' ∧ I' A 4 = nI ((2 * m + 1) ^ nt) ∧ ∀ v t, v < k → t < nt → I' (A + 1) (4 * v + t) = zcell m nt v t) (fun I' => some (zs I' J (zPt t u i f s x)))
    (fun m' k I' hk hi => by
      have hle : ¬ (2 * m + 1) ^ nt ≤ k := by omega
      have e3 : I' A 3 = nI nt := by rw [hi.1 A 3 (by simp)]; exact h3
      obtain ⟨Q2, ⟨g1, g2, g3, g4, -⟩, g5⟩ := zdown (fun fuel (p : (Nat → Nat → Int32) × Nat) j => f_R_fillCells_58L (f_R_fillCells_39L m') fuel (zs p.1 J (zPt t u i f s x)) A (nI m) (nI (2 * m + 1)) (nI k) (nI p.2) (zrI j))
        (fun j p => zfr (fun a k => a == A + 1) I' p.1 ∧ (∀ t, j ≤ t → t < nt → p.1 (A + 1) (4 * k + t) = zcell m nt k t) ∧ (∀ l, l < 4 * k → p.1 (A + 1) l = I' (A + 1) l) ∧ j ≤ nt ∧ p.2 = k / (2 * m + 1) ^ (nt - j) ∧ p.2 < 625)
        (fun p => f_R_fillCells_39L m' (zs p.1 J (zPt t u i f s x)) A (nI m) (nI (2 * m + 1)) (nI (k + 1)))
        (fun m2 j p hi2 => by
          obtain ⟨I3, w⟩ := p
          obtain ⟨i1, i2, i6, i3, i4, i5⟩ := hi2
          dsimp only at i1 i2 i6 i4 i5
          have hneg : (zrI (j + 1) < 0) = False := by rw [zrI_pos]; exact zlt_0 (by omega)
          have hmod : zrem (nI w) (nI (2 * m + 1)) = nI (w % (2 * m + 1)) := pk_rem (by omega) (by omega) (by omega)
          have hdiv : nI w / nI (2 * m + 1) = nI (w / (2 * m + 1)) := pk_div (by omega) (by omega) (by omega)
          have hcell : nI (w % (2 * m + 1)) - nI m = zcell m nt k j := by
            unfold zcell
            rw [if_pos (by omega), i4, show nt - 1 - j = nt - (j + 1) by omega]
          refine ⟨(zup I3 (A + 1) (4 * k + j) (zcell m nt k j), w / (2 * m + 1)), ⟨zfr_up i1 (by simp), fun t ht1 ht2 => ?_, fun l hl => ?_, by omega, ?_, ?_⟩, ?_⟩
          · dsimp only
            by_cases htk : t = j
            · subst htk; exact zup_s _ _ _ _
            · rw [zup_k _ _ (by omega)]; exact i2 t (by omega) ht2
          · dsimp only
            rw [zup_k _ _ (by omega)]; exact i6 l hl
          · dsimp only
            rw [i4, zpow_div, show nt - (j + 1) + 1 = nt - j by omega]
          · dsimp only
            exact Nat.lt_of_le_of_lt (Nat.div_le_self _ _) i5
          · show f_R_fillCells_58L _ (m2 + 1) _ _ _ _ _ _ _ = _
            rw [f_R_fillCells_58L]
            simp (disch := (first | omega | assumption)) only [f_R_fillCells_58, gp_6_5, wi_6_5, mr4, zbs, nI_add, pk_mul, znI_add1, znI_sub1, znI_subm, zle_nI, zlt_nI, zeq_nI, zle_0, zeq_0, zlt_0, zeq_m, zeq_1, zge_0, zbt0, zbt1, zB_0, zB_1, zB_b, zbool_0, zbool_1, ↓reduceIte, hneg, zrI_pos, hz, hmod, hcell, hdiv, zrI_m])
        (fun m2 p hi2 => by
          have hneg : (zrI 0 < 0) = True := by simp [zrI]
          show f_R_fillCells_58L _ (m2 + 1) _ _ _ _ _ _ _ = _
          rw [f_R_fillCells_58L]
          simp (disch := (first | omega | assumption)) only [f_R_fillCells_58, gp_6_5, wi_6_5, mr4, zbs, nI_add, pk_mul, znI_add1, znI_sub1, znI_subm, zle_nI, zlt_nI, zeq_nI, zle_0, zeq_0, zlt_0, zeq_m, zeq_1, zge_0, zbt0, zbt1, zB_0, zB_1, zB_b, zbool_0, zbool_1, ↓reduceIte, hneg]) nt (I', k) zfu ⟨zfr_refl _ _, fun t h1 h2 => by omega, fun _ _ => rfl, Nat.le_refl _, (by rw [Nat.sub_self, Nat.pow_zero, Nat.div_one]), (by dsimp only; omega)⟩ (zfu_lt (by omega))
      have fA : Q2.1 A = I' A := zfr_row g1 A (fun k => by simp)
      refine ⟨Q2.1, ⟨zfr_trans hi.1 (zfr_mono g1 (fun a k h => by simp at h; simp [h])), ?_, fun v t hv ht => ?_⟩, ?_⟩
      · rw [fA]; exact hi.2.1
      · by_cases hvk : v = k
        · subst hvk; exact g2 t (Nat.zero_le _) ht
        · rw [g3 _ (by omega)]; exact hi.2.2 v t (by omega) ht
      · show f_R_fillCells_39L (m' + 1) _ _ _ _ _ = _
        rw [f_R_fillCells_39L]
        have e1 : nI nt - 1 = zrI nt := zrI_s nt
        simp (disch := (first | omega | assumption)) only [f_R_fillCells_39, gi_6, zbs, hA, hi.2.1, e3, zle_nI, hle, e1, ↓reduceIte]
        exact g5)
    (fun m' I' hi => by
      show f_R_fillCells_39L (m' + 1) _ _ _ _ _ = _
      rw [f_R_fillCells_39L]
      simp (disch := (first | omega | assumption)) only [f_R_fillCells_39, gi_6, zbs, nI_add, pk_mul, znI_add1, znI_sub1, znI_subm, zle_nI, zlt_nI, zeq_nI, zle_0, zeq_0, zlt_0, zeq_m, zeq_1, zge_0, zbt0, zbt1, zB_0, zB_1, zB_b, zbool_0, zbool_1, ↓reduceIte, hi.2.1, Nat.le_refl]) ((2 * m + 1) ^ nt) 0 Q.1 zfu (by omega) ⟨p1, by rw [p2, p3], fun v t hv => by omega⟩ (zfu_lt (by omega))
  refine ⟨I', ?_, a1, a4, a2⟩
  simp (disch := (first | omega | assumption)) only [f_R_fillCells, zg_6, si_6, ml2, zbs, nI_add, pk_mul, znI_add1, znI_sub1, znI_subm, zle_nI, zlt_nI, zeq_nI, zle_0, zeq_0, zlt_0, zeq_m, zeq_1, zge_0, zbt0, zbt1, zB_0, zB_1, zB_b, zbool_0, zbool_1, ↓reduceIte, zbase]
  exact Eq.trans p4 a3
end ZRo
