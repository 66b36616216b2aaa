/-! leads -/
/-- a key of r by a row of state -/
def zKr (I : Nat → Nat → Int32) (row : Nat → Int32) (nt : Nat) (LW : List Int32) (r b : Nat) : Int32 :=
  zky LW (zsm (fun k => row (4 * r + k) + (if nI k = row (24 + r) then I 91 46 else 0)) (fun k => I 107 (4 * b + k)) nt) (zsm (fun k => I 109 (4 * r + k)) (fun k => I 107 (4 * b + k)) nt) (row (32 + 10 * r + b)) b
theorem zcp0 {I : Nat → Nat → Int32} {J : Nat → Nat → Int64} {P : Nat → Nat → Option Nat} {a a2 n : Nat} (h : zLAY[a]? = some (1, n)) (h2 : zLAY[a2]? = some (1, n)) (hn : n < 2 ^ 31) : zcpy (zs I J P) a 0 a2 0 (nI n) = some (zs (zro I a2 (va_cpy (I a) (I a2) 0 0 n)) J P) := by
  unfold zcpy
  rw [zs_1, h, h2]
  have hz : (0 : Int32).toNatClampNeg = 0 := by decide
  simp only [zs_I, hz, nI_clamp hn, Nat.zero_add]
  rw [if_pos ⟨trivial, trivial, by decide, by decide, nI_pos hn, Nat.le_refl _, Nat.le_refl _⟩]
  rfl
theorem zfr_fix {S : Nat → Nat → Bool} {I I' : Nat → Nat → Int32} {a : Nat} (h : zfr (fun b k => S b k || b == a) I I') (ha : I' a = I a) : zfr S I I' := fun b k hs => by
  by_cases hb : b = a
  · subst hb; rw [ha]
  · exact h b k (by simp [hs, hb])
section ZLe
variable {I : Nat → Nat → Int32} {J : Nat → Nat → Int64} {t u i f s x : Nat} {nt nb nr q sh md om im N M : Nat} {LW BW : List Int32}
theorem g_N_copy (hN : N = 30 ∨ N = 35 ∨ N = 76 ∨ N = 81 ∨ N = 86) (hM : M = 30 ∨ M = 35 ∨ M = 76 ∨ M = 81 ∨ M = 86) (hNM : N ≠ M) {row : Nat → Int32} (h : zNow I M row) :
    ∃ I', f_N_copy (zs I J (zPt t u i f s x)) N M = some (zs I' J (zPt t u i f s x)) ∧ zfr (fun a k => a == N + 1 || a == N + 2 || a == N + 3 || (a == N && (k == 3 || k == 4))) I I' ∧ zNow I' N row := by
  obtain ⟨n1, n2, n3, n4, n5⟩ := h
  have l1 : ∀ A, (A = 30 ∨ A = 35 ∨ A = 76 ∨ A = 81 ∨ A = 86) → zLAY[A + 1]? = some (1, 24) := fun A h => by rcases h with rfl | rfl | rfl | rfl | rfl <;> rfl
  have l2 : ∀ A, (A = 30 ∨ A = 35 ∨ A = 76 ∨ A = 81 ∨ A = 86) → zLAY[A + 2]? = some (1, 6) := fun A h => by rcases h with rfl | rfl | rfl | rfl | rfl <;> rfl
  have l3 : ∀ A, (A = 30 ∨ A = 35 ∨ A = 76 ∨ A = 81 ∨ A = 86) → zLAY[A + 3]? = some (1, 60) := fun A h => by rcases h with rfl | rfl | rfl | rfl | rfl <;> rfl
  have k1 : ∀ I : Nat → Nat → Int32, zlen (zs I J (zPt t u i f s x)) 1 (N + 1) = some (nI 24) := fun I => zs_len (l1 N hN)
  have k2 : ∀ I : Nat → Nat → Int32, zlen (zs I J (zPt t u i f s x)) 1 (N + 2) = some (nI 6) := fun I => zs_len (l2 N hN)
  have k3 : ∀ I : Nat → Nat → Int32, zlen (zs I J (zPt t u i f s x)) 1 (N + 3) = some (nI 60) := fun I => zs_len (l3 N hN)
  have c1 : ∀ I : Nat → Nat → Int32, zcpy (zs I J (zPt t u i f s x)) (M + 1) 0 (N + 1) 0 (nI 24) = some (zs (zro I (N + 1) (va_cpy (I (M + 1)) (I (N + 1)) 0 0 24)) J (zPt t u i f s x)) := fun I => zcp0 (l1 M hM) (l1 N hN) (by decide)
  have c2 : ∀ I : Nat → Nat → Int32, zcpy (zs I J (zPt t u i f s x)) (M + 2) 0 (N + 2) 0 (nI 6) = some (zs (zro I (N + 2) (va_cpy (I (M + 2)) (I (N + 2)) 0 0 6)) J (zPt t u i f s x)) := fun I => zcp0 (l2 M hM) (l2 N hN) (by decide)
  have c3 : ∀ I : Nat → Nat → Int32, zcpy (zs I J (zPt t u i f s x)) (M + 3) 0 (N + 3) 0 (nI 60) = some (zs (zro I (N + 3) (va_cpy (I (M + 3)) (I (N + 3)) 0 0 60)) J (zPt t u i f s x)) := fun I => zcp0 (l3 M hM) (l3 N hN) (by decide)
  refine ⟨_, by
    simp (disch := (first | omega | assumption)) only [f_N_copy, zg_4, gi_4, si_4, gp_4_0, gp_4_1, gp_4_2, zbs, nI_add, pk_mul, znI_add1, znI_sub1, znI_subm, zle_nI, zlt_nI, zeq_nI, zle_0, zeq_0, zlt_0, zeq_m, zeq_1, zge_0, zbt0, zbt1, zB_0, zB_1, zB_b, zbool_0, zbool_1, ↓reduceIte, k1, k2, k3, c1, c2, c3]
    rfl, ?_, ?_, ?_, ?_, ?_, ?_⟩
  · refine zfr_up (zfr_up (zfr_ro (zfr_ro (zfr_ro (zfr_refl _ _) (fun _ => ?_)) (fun _ => ?_)) (fun _ => ?_)) ?_) ?_ <;> simp
  · intro k hk
    rw [zup_ne _ _ _ (by omega), zup_ne _ _ _ (by omega), zro_ne _ _ (by omega), zro_ne _ _ (by omega), zro_self, sb_cpy0 hk]
    exact n1 k hk
  · intro k hk
    rw [zup_ne _ _ _ (by omega), zup_ne _ _ _ (by omega), zro_ne _ _ (by omega), zro_self, sb_cpy0 hk, zro_ne _ _ (by omega)]
    exact n2 k hk
  · rw [zup_k _ _ (by decide), zup_s, zro_ne _ _ (by omega), zro_ne _ _ (by omega), zro_ne _ _ (by omega)]
    exact n3
  · rw [zup_s, zup_ne _ _ _ (by omega), zro_ne _ _ (by omega), zro_ne _ _ (by omega), zro_ne _ _ (by omega)]
    exact n4
  · intro k hk
    rw [zup_ne _ _ _ (by omega), zup_ne _ _ _ (by omega), zro_self, sb_cpy0 hk, zro_ne _ _ (by omega), zro_ne _ _ (by omega)]
    exact n5 k hk
theorem zbridgeR (hT : zTold I t nt nb nr q sh md LW BW) {row : Nat → Int32} (hN : zNow I N row) {r b : Nat} (hr : r < nr) (hb : b < nb) : zkx I t nt LW (fun k => I (N + 1) (4 * r + k) + (if nI k = I (N + 2) r then I t 5 else 0)) (I (N + 3) (10 * r + b)) r b = zKr I row nt LW r b := by
  obtain ⟨hM, hX, hq, hsh, hmd, hun, hw, hou, hod, hbd⟩ := hT
  have hnb := hM.2.1.2
  have hnr := hM.2.2.1.2
  have hnt := hM.1.2
  unfold zKr zkx
  have w1 : ∀ k, k < nt → I (t + 1) (4 * b + k) = I 107 (4 * b + k) := fun k hk => hw b k hb hk
  rw [hN.2.2.2.2 (10 * r + b) (by omega), zsm_congr (n := nt) (h' := fun k => row (4 * r + k) + (if nI k = row (24 + r) then I 91 46 else 0)) (w' := fun k => I 107 (4 * b + k)) (fun k hk => by
    show I (N + 1) (4 * r + k) + _ = _
    rw [hN.1 (4 * r + k) (by omega), hN.2.1 r (by omega), hmd.1, hmd.2.1]) w1, zsm_congr (n := nt) (h' := fun k => I 109 (4 * r + k)) (w' := fun k => I 107 (4 * b + k)) (fun k hk => hou r k hr hk) w1, Nat.add_assoc]
theorem zKr_fr {I' : Nat → Nat → Int32} (h107 : I' 107 = I 107) (h109 : I' 109 = I 109) (h46 : I' 91 46 = I 91 46) (row : Nat → Int32) : zKr I' row nt LW = zKr I row nt LW := by
  funext r b
  unfold zKr
  rw [h107, h109, h46]
/-- the next row, and the book that is read -/
def zlb (I : Nat → Nat → Int32) (nt nb om : Nat) (LW : List Int32) (r : Nat) (row : Nat → Int32) : Nat := (zbest (zokO om) (zKr I row nt LW r) nb).getD 0
def zlr (I : Nat → Nat → Int32) (nt nb om : Nat) (LW BW : List Int32) (r : Nat) (_ : Nat) (row : Nat → Int32) : Nat → Int32 := zread row (I 107) nt BW r (zlb I nt nb om LW r row)
theorem zlb_some (hnb : nb ≤ 10) (hom : om < 2 ^ nb) (hall : ¬ zbc om = nb) (r : Nat) (row : Nat → Int32) : zbest (zokO om) (zKr I row nt LW r) nb = some (zlb I nt nb om LW r row) ∧ zlb I nt nb om LW r row < nb := by
  have hs := zbest_spec (zokO om) (zKr I row nt LW r) nb
  have hct := zok_ct hnb hom
  unfold zlb
  cases hz : zbest (zokO om) (zKr I row nt LW r) nb with
  | none =>
    rw [hz] at hs
    have := zct_0 hs
    omega
  | some b =>
    rw [hz] at hs
    exact ⟨rfl, hs.1⟩
theorem zlr_nb (hC : zCo I t nt nb nr q sh md om im LW BW) (hall : ¬ zbc om = nb) {r : Nat} (hr : r < nr) : ∀ k, zNb (zrn (zlr I nt nb om LW BW r) k 0 (I 111)) nt nb nr := by
  have hnb := hC.2.1.1.2.1.2
  have hnr := hC.2.1.1.2.2.1.2
  intro k
  induction k with
  | zero => exact hC.2.2.2.1
  | succ k ih =>
    rw [zrn_succ]
    have h := zlb_some (I := I) (nt := nt) (LW := LW) hnb hC.2.2.2.2.1.2 hall r (zrn (zlr I nt nb om LW BW r) k 0 (I 111))
    exact zread_nb hC.2.1.1.1.2 (by omega) (by omega) ih
theorem x_leads (hC : zCo I t nt nb nr q sh md om im LW BW) {r n : Nat} (hr : r < nr) (h1 : 1 ≤ n) (h60 : n ≤ 60) (hall : ¬ zbc om = nb) :
    ∃ I1 I2 I3, f_N_copy (zs I J (zPt t u i f s x)) 35 30 = some (zs I1 J (zPt t u i f s x)) ∧ f_S_open (zs I1 J (zPt t u i f s x)) 47 t 35 = some (zs I2 J (zPt t u i f t x)) ∧ f_S_firstOf (zs I2 J (zPt t u i f t x)) 47 (nI r) = some (nI (zlb I nt nb om LW r (I 111))) ∧ f_W_leads_66L zfu (zs I2 J (zPt t u i f t x)) 0 (nI r) (nI n) (nI (zlb I nt nb om LW r (I 111))) 1 = some (nI (zlb I nt nb om LW r (zrn (zlr I nt nb om LW BW r) (n - 1) 0 (I 111))), (zs I3 J (zPt t u i f t x))) ∧ zfr zSg I I3 := by
  have ht := hC.1
  have hnb := hC.2.1.1.2.1.2
  have hnr := hC.2.1.1.2.2.1.2
  have hnt := hC.2.1.1.1.2
  have hom := z2n hnb hC.2.2.2.2.1.2
  obtain ⟨I1, a1, a2, a3⟩ := g_N_copy (N := 35) (M := 30) (J := J) (t := t) (u := u) (i := i) (f := f) (s := s) (x := x) (Or.inr (Or.inl rfl)) (Or.inl rfl) (by decide) hC.2.2.1
  have f1 : zfr zSg I I1 := zfr_mono a2 (fun a k h => by
    simp at h
    rcases h with ((rfl | rfl) | rfl) | ⟨rfl, h⟩ <;> rfl)
  have hC1 := zCo_fr hC f1
  have ho35 : I1 35 4 = nI om := a3.2.2.2.1.trans hC.2.2.2.2.1.1
  obtain ⟨I2, b1, b2, b3, b4, b5⟩ := g_S_open (J := J) (t := t) (u := u) (i := i) (f := f) (s := s) (x := x) ht (Or.inr (Or.inl rfl)) hC1.2.1.2.1 hC1.2.1.2.2.1.2.1 hC1.2.1.2.2.1.2.2 ho35 hom hC1.2.2.2.2.2.2.1 hC1.2.2.2.2.2.2.2
  have f2 : zfr zSg I I2 := zfr_trans f1 b2
  have hC2 := zCo_fr hC f2
  have krf : ∀ I', zfr zSg I I' → ∀ row, zKr I' row nt LW = zKr I row nt LW := fun I' h row => zKr_fr (zfr_row h 107 (fun _ => rfl)) (zfr_row h 109 (fun _ => rfl)) (h 91 46 rfl) row
  have key2 : ∀ b, b < nb → zKx I2 r b = zKr I (I 111) nt LW r b := fun b hb => by
    have h := (b5 r b hr hb).trans (zbridgeR hC1.2.1 a3 hr hb)
    rw [krf I1 f1] at h
    exact h
  have first : ∀ I', zSh I' t nb nr q (zhm nb om) → ∀ row, (∀ b, b < nb → zKx I' r b = zKr I row nt LW r b) → f_S_firstOf (zs I' J (zPt t u i f t x)) 47 (nI r) = some (nI (zlb I nt nb om LW r row)) := fun I' hS row hk => by
    obtain ⟨s1, -, s2, -, -, -, s7, s8, s9⟩ := hS
    have p1 := g_S_firstOf (J := J) (t := t) (u := u) (i := i) (f := f) (x := x) ht s1 hnb s7 s8 (show r < 6 by omega)
    have hb : zbest (fun b => (zhm nb om).testBit b) (zKx I' r) nb = zbest (zokO om) (zKr I row nt LW r) nb := zbest_congr (fun b hb => zhm_ok hnb hb) (fun b hb _ => hk b hb)
    rw [hb, (zlb_some hnb hC.2.2.2.2.1.2 hall r row).1] at p1
    exact p1
  have now2 : zNow I2 35 (I 111) := by
    unfold zNow
    rw [b3 35 (by decide) (by decide) (by decide) (by omega), b3 36 (by decide) (by decide) (by decide) (by omega), b3 37 (by decide) (by decide) (by decide) (by omega), b3 38 (by decide) (by decide) (by decide) (by omega)]
    exact a3
  obtain ⟨Q, ⟨g1, g2, g3, g4, g5, g6⟩, g7⟩ := zfor (fun fuel (p : (Nat → Nat → Int32) × Nat) k => f_W_leads_66L fuel (zs p.1 J (zPt t u i f t x)) 0 (nI r) (nI n) (nI p.2) (nI k)) n
    (fun k p => zfr zSg I p.1 ∧ zSh p.1 t nb nr q (zhm nb om) ∧ zNow p.1 35 (zrn (zlr I nt nb om LW BW r) (k - 1) 0 (I 111)) ∧ p.2 = zlb I nt nb om LW r (zrn (zlr I nt nb om LW BW r) (k - 1) 0 (I 111)) ∧ 1 ≤ k ∧ True)
    (fun p => some (nI p.2, (zs p.1 J (zPt t u i f t x))))
    (fun m k p hk hi => by
      obtain ⟨I4, b⟩ := p
      obtain ⟨i1, i2, i3, i4, i5, -⟩ := hi
      dsimp only at i1 i2 i3 i4
      have hC4 := zCo_fr hC i1
      have hbn : b < nb := by rw [i4]; exact (zlb_some hnb hC.2.2.2.2.1.2 hall r _).2
      obtain ⟨I5, c1, c2, c3⟩ := x_bend (N := 35) (J := J) (t := t) (u := u) (i := i) (f := f) (s := t) (x := x) ht (Or.inr (Or.inl rfl)) hC4.2.1.2.1.1.1 hnt hC4.2.1.2.2.2.2.2.2.2.2.2 (I 107) _ (show r < 6 by omega) (show b < 10 by omega) (fun k hk => by
        rw [hC4.2.1.2.2.2.2.2.2.1 b k hbn hk, zfr_row i1 107 (fun _ => rfl)]) i3
      have f5 : zfr zSg I4 I5 := zfr_mono c2 (fun a k h => by
        simp at h
        rcases h with ((rfl | rfl) | rfl) | rfl
        · rfl
        · rfl
        · rfl
        · rcases ht with rfl | rfl <;> rfl)
      have hC5 := zCo_fr hC4 f5
      have row5 : zread (zrn (zlr I nt nb om LW BW r) (k - 1) 0 (I 111)) (I 107) nt BW r b = zrn (zlr I nt nb om LW BW r) (k + 1 - 1) 0 (I 111) := by
        rw [show k + 1 - 1 = (k - 1) + 1 by omega, zrn_succ, i4]
        rfl
      rw [row5] at c3
      obtain ⟨I6, d1, d2, d3, -⟩ := g_S_weigh (N := 35) (J := J) (t := t) (u := u) (i := i) (f := f) (x := x) ht (Or.inr (Or.inl rfl)) hC5.2.1.2.1 hC5.2.2.2.2.2.2.1 hC5.2.2.2.2.2.2.2 (show r < 6 by omega) (I5 37 r)
      have f6 : zfr zSg I5 I6 := zfr_g d2 (zSg_ks ht)
      have r5 : ∀ a, a ≠ 36 → a ≠ 38 → a ≠ 39 → a ≠ t + 10 → I5 a = I4 a := fun a h1 h2 h3 h4 => zfr_row c2 a (fun k => by simp [h1, h2, h3, h4])
      have hS5 : zSh I5 t nb nr q (zhm nb om) := by
        unfold zSh
        rw [r5 t (by omega) (by omega) (by omega) (by omega), r5 47 (by decide) (by decide) (by decide) (by omega)]
        exact i2
      have hS6 : zSh I6 t nb nr q (zhm nb om) := by
        unfold zSh
        rw [zKs_row ht d2 t (by omega) (by omega) (by omega), zKs_row ht d2 47 (by decide) (by decide) (by omega)]
        exact hS5
      have f56 : zfr zSg I I6 := zfr_trans i1 (zfr_trans f5 f6)
      have now6 : zNow I6 35 (zrn (zlr I nt nb om LW BW r) (k + 1 - 1) 0 (I 111)) := by
        unfold zNow
        rw [zKs_row ht d2 35 (by decide) (by decide) (by omega), zKs_row ht d2 36 (by decide) (by decide) (by omega), zKs_row ht d2 37 (by decide) (by decide) (by omega), zKs_row ht d2 38 (by decide) (by decide) (by omega)]
        exact c3
      have p1 := first I6 hS6 (zrn (zlr I nt nb om LW BW r) (k + 1 - 1) 0 (I 111)) (fun b' hb' => by
        show I6 48 (10 * r + b') = _
        rw [d3 b' hb', ← krf I5 (zfr_trans i1 f5)]
        exact zbridgeR hC5.2.1 c3 hr hb')
      have hle : ¬ n ≤ k := by omega
      refine ⟨(I6, zlb I nt nb om LW r (zrn (zlr I nt nb om LW BW r) (k + 1 - 1) 0 (I 111))), ⟨f56, hS6, now6, rfl, by omega, trivial⟩, ?_⟩
      show f_W_leads_66L (m + 1) _ _ _ _ _ _ = _
      rw [f_W_leads_66L]
      simp (disch := (first | omega | assumption)) only [f_W_leads_66, gp_11_6, gp_11_2, gp_11_9, gp_4_1, ai_4_1, zbs, nI_add, pk_mul, znI_add1, znI_sub1, znI_subm, zle_nI, zlt_nI, zeq_nI, zle_0, zeq_0, zlt_0, zeq_m, zeq_1, zge_0, zbt0, zbt1, zB_0, zB_1, zB_b, zbool_0, zbool_1, ↓reduceIte, hle, c1, Nat.reduceAdd, ai_37, d1, p1])
    (fun m p hi => by
      show f_W_leads_66L (m + 1) _ _ _ _ _ _ = _
      rw [f_W_leads_66L]
      simp (disch := (first | omega | assumption)) only [f_W_leads_66, gp_11_6, gp_11_2, gp_11_9, gp_4_1, ai_4_1, zbs, nI_add, pk_mul, znI_add1, znI_sub1, znI_subm, zle_nI, zlt_nI, zeq_nI, zle_0, zeq_0, zlt_0, zeq_m, zeq_1, zge_0, zbt0, zbt1, zB_0, zB_1, zB_b, zbool_0, zbool_1, ↓reduceIte, Nat.le_refl]) (n - 1) 1 (I2, zlb I nt nb om LW r (I 111)) zfu (by omega) ⟨f2, b4, now2, rfl, Nat.le_refl _, trivial⟩ (zfu_lt (by omega))
  refine ⟨I1, I2, Q.1, a1, b1, first I2 b4 (I 111) key2, ?_, g1⟩
  rw [g4] at g7
  exact g7
end ZLe
