/-! the whole invariant between two calls -/
def zRow (row : Nat → Int32) (nt nb nr : Nat) : Prop := zNb row nt nb nr ∧ ∀ k, k < 60 → ∃ c, c ≤ 99 ∧ row (32 + k) = nI c
def zAs (a b : Nat → Int32) : Prop := ∀ k, k < 92 → a k = b k
/-- the act in a slot leads from a to b -/
def zDs (I : Nat → Nat → Int32) (sl nt nb nr : Nat) (BW : List Int32) (a b : Nat → Int32) : Prop :=
  (I 42 sl = 0 ∧ ∃ r, r < nr ∧ I 43 sl = nI r ∧ zAs b (va_up a 30 (a 30 ^^^ (1 <<< (nI r &&& 31))))) ∨
  (I 42 sl = 1 ∧ ∃ r, r < nr ∧ I 43 sl = nI r ∧ I 44 sl = a (24 + r) ∧ zAs b (va_up a (24 + r) (I 45 sl))) ∨
  (I 42 sl = 2 ∧ ∃ c, c < nb ∧ I 43 sl = nI c ∧ zAs b (va_up a 31 (a 31 ^^^ (1 <<< (nI c &&& 31))))) ∨
  (I 42 sl = 3 ∧ ∃ r c, r < nr ∧ c < nb ∧ I 43 sl = nI r ∧ I 45 sl = nI c ∧ (∀ k, k < 4 → I 46 (4 * sl + k) = a (4 * r + k)) ∧ zAs b (zread a (I 107) nt BW r c))
def zAc2 (I : Nat → Nat → Int32) (nt nb nr : Nat) (BW : List Int32) (d u o : Nat) (Q : Nat → Nat → Int32) : Prop :=
  (d + u ≤ 40 ∧ o < 40) ∧ (I 41 0 = nI d ∧ I 41 1 = nI u ∧ I 41 2 = nI o ∧ I 91 56 = nI d ∧ I 91 57 = nI u) ∧ (∀ j, j ≤ d + u → zRow (Q j) nt nb nr) ∧ zAs (Q d) (I 111) ∧
  (∀ j, j < d → zAs (fun k => I 116 (96 * j + k)) (Q j)) ∧ (∀ j, d ≤ j → j < d + u → zAs (fun k => I 116 (96 * j + k)) (Q (j + 1))) ∧ ∀ j, j < d + u → zDs I ((o + j) % 40) nt nb nr BW (Q j) (Q (j + 1))
def zAc (I : Nat → Nat → Int32) (nt nb nr : Nat) (BW : List Int32) : Prop := ∃ d u o Q, zAc2 I nt nb nr BW d u o Q
def zBx (I : Nat → Nat → Int32) (nt nb nr : Nat) : Prop := ∀ b, b < 3 → (I 132 b = 0 ∧ I (76 + 5 * b) 5 = 0) ∨ (I 132 b = 1 ∧ I (76 + 5 * b) 5 = 1 ∧ zNow I (76 + 5 * b) (fun k => I 133 (96 * b + k)) ∧ zRow (fun k => I 133 (96 * b + k)) nt nb nr)
def zTp (I : Nat → Nat → Int32) : Prop := ∃ n B, yTp I B n ∧ yTq I B n ∧ I 0 1 = nI n ∧ I 91 1 = nI n
def zLy (I : Nat → Nat → Int32) : Prop := ∃ V, zLnx I V ∧ zLnm I V ∧ V.length ≤ 10
def zIv2 (I : Nat → Nat → Int32) (t u nt nb nr q sh md om im : Nat) (LW BW : List Int32) : Prop :=
  ((t = 2 ∧ u = 13) ∨ (t = 13 ∧ u = 2)) ∧ zCo I t nt nb nr q sh md om im LW BW ∧ zRow (I 111) nt nb nr ∧ zTp I ∧ (I 24 0 = I 91 2 ∧ I 24 1 = I 91 3) ∧ yBm I ∧ zBx I nt nb nr ∧ zAc I nt nb nr BW ∧ (∃ S, zLf I nb S) ∧ zLy I ∧ ∃ nl tm, zLk I nb nr nl tm
def zIv (I : Nat → Nat → Int32) (t u : Nat) : Prop := ∃ nt nb nr q sh md om im LW BW, zIv2 I t u nt nb nr q sh md om im LW BW
def zIs (σ : zSt) : Prop := ∃ I J t u i f s x, σ = zs I J (zPt t u i f s x) ∧ zIv I t u
/-- both answer alike, and the invariant holds behind it -/
def zOKs {α : Type} (σ : zSt) (fx fm : zSt → Option (α × zSt)) : Prop := ∃ v σ1 σ2, fx σ = some (v, σ1) ∧ fm σ1 = some (v, σ2) ∧ zIs σ2
def zOK0 (σ : zSt) (fx fm : zSt → Option Int32) : Prop := ∃ v, fx σ = some v ∧ fm σ = some v
section ZIv
variable {I : Nat → Nat → Int32} {J : Nat → Nat → Int64} {t u i f s x : Nat} {nt nb nr q sh md om im : Nat} {LW BW : List Int32}
theorem zDs_rows {I' : Nat → Nat → Int32} {sl : Nat} {a b : Nat → Int32} (h : zDs I sl nt nb nr BW a b) (h2 : I' 42 = I 42) (h3 : I' 43 = I 43) (h4 : I' 44 = I 44) (h5 : I' 45 = I 45) (h6 : I' 46 = I 46) (h7 : I' 107 = I 107) : zDs I' sl nt nb nr BW a b := by
  unfold zDs
  rw [h2, h3, h4, h5, h6, h7]
  exact h
theorem zAc_rows {I' : Nat → Nat → Int32} (h : zAc I nt nb nr BW) (r41 : I' 41 = I 41) (h2 : I' 42 = I 42) (h3 : I' 43 = I 43) (h4 : I' 44 = I 44) (h5 : I' 45 = I 45) (h6 : I' 46 = I 46) (h7 : I' 107 = I 107) (h11 : I' 111 = I 111) (h16 : I' 116 = I 116) (h56 : I' 91 56 = I 91 56) (h57 : I' 91 57 = I 91 57) : zAc I' nt nb nr BW := by
  obtain ⟨d, u, o, Q, g1, g2, g3, g4, g5, g6, g7⟩ := h
  refine ⟨d, u, o, Q, g1, ?_, g3, ?_, ?_, ?_, fun j hj => zDs_rows (g7 j hj) h2 h3 h4 h5 h6 h7⟩
  · rw [r41, h56, h57]; exact g2
  · rw [h11]; exact g4
  · rw [h16]; exact g5
  · rw [h16]; exact g6
theorem zBx_rows {I' : Nat → Nat → Int32} (h : zBx I nt nb nr) (h132 : I' 132 = I 132) (h133 : I' 133 = I 133) (hr : ∀ a, 76 ≤ a → a ≤ 90 → I' a = I a) : zBx I' nt nb nr := by
  intro b hb
  unfold zNow
  rw [h132, h133, hr (76 + 5 * b) (by omega) (by omega), hr (76 + 5 * b + 1) (by omega) (by omega), hr (76 + 5 * b + 2) (by omega) (by omega), hr (76 + 5 * b + 3) (by omega) (by omega)]
  exact h b hb
theorem zTp_rows {I' : Nat → Nat → Int32} (h : zTp I) (h1 : I' 1 = I 1) (h92 : I' 92 = I 92) (h01 : I' 0 1 = I 0 1) (h911 : I' 91 1 = I 91 1) : zTp I' := by
  obtain ⟨n, B, g1, g2, g3, g4⟩ := h
  exact ⟨n, B, ⟨g1.1, g1.2.1, fun k hk => by rw [h1]; exact g1.2.2 k hk⟩, ⟨g2.1, g2.2.1, fun k hk => by rw [h92]; exact g2.2.2 k hk⟩, h01.trans g3, h911.trans g4⟩
theorem zIv_frn {I' : Nat → Nat → Int32} (h : zIv2 I t u nt nb nr q sh md om im LW BW) (hf : zfr zSn I I') (hV : zLy I') : zIv2 I' t u nt nb nr q sh md om im LW BW := by
  obtain ⟨h1, h2, h3, h4, h5, h6, h7, h8, ⟨S, h9⟩, h10, nl, tm, h11⟩ := h
  have r : ∀ a, (∀ k, zSn a k = false) → I' a = I a := fun a ha => zfr_row hf a ha
  refine ⟨h1, zCo_frn h2 hf, ?_, zTp_rows h4 (r 1 (fun _ => rfl)) (r 92 (fun _ => rfl)) (hf 0 1 rfl) (hf 91 1 rfl), ?_, ?_, zBx_rows h7 (r 132 (fun _ => rfl)) (r 133 (fun _ => rfl)) (fun a h1 h2 => r a (fun k => ?_)), zAc_rows h8 (r 41 (fun _ => rfl)) (r 42 (fun _ => rfl)) (r 43 (fun _ => rfl)) (r 44 (fun _ => rfl)) (r 45 (fun _ => rfl)) (r 46 (fun _ => rfl)) (r 107 (fun _ => rfl)) (r 111 (fun _ => rfl)) (r 116 (fun _ => rfl)) (hf 91 56 rfl) (hf 91 57 rfl), ⟨S, zLf_frn h9 hf⟩, hV, nl, tm, zLk_fr h11 hf⟩
  · rw [r 111 (fun _ => rfl)]; exact h3
  · rw [r 24 (fun _ => rfl), hf 91 2 rfl, hf 91 3 rfl]; exact h5
  · intro g hg
    rw [r 96 (fun _ => rfl)]; exact h6 g hg
  · have : a = 76 ∨ a = 77 ∨ a = 78 ∨ a = 79 ∨ a = 80 ∨ a = 81 ∨ a = 82 ∨ a = 83 ∨ a = 84 ∨ a = 85 ∨ a = 86 ∨ a = 87 ∨ a = 88 ∨ a = 89 ∨ a = 90 := by omega
    rcases this with rfl | rfl | rfl | rfl | rfl | rfl | rfl | rfl | rfl | rfl | rfl | rfl | rfl | rfl | rfl <;> rfl
theorem zLy_sg {I' : Nat → Nat → Int32} (h : zLy I) (hf : zfr zSg I I') : zLy I' := by
  obtain ⟨V, h1, h2, h3⟩ := h
  exact ⟨V, zLnx_sg h1 hf, zLnm_sg h2 hf, h3⟩
theorem zIs_sg {I' : Nat → Nat → Int32} {J' : Nat → Nat → Int64} {s' : Nat} (h : zIv2 I t u nt nb nr q sh md om im LW BW) (hf : zfr zSg I I') : zIs (zs I' J' (zPt t u i f s' x)) := ⟨I', J', t, u, i, f, s', x, rfl, nt, nb, nr, q, sh, md, om, im, LW, BW, zIv_frn h (zfr_mono hf zSg_n) (zLy_sg h.2.2.2.2.2.2.2.2.2.1 hf)⟩
theorem zOKs_2 (h : zIv2 I t u nt nb nr q sh md om im LW BW) {fx fm : zSt → Option (Int32 × zSt)} (hk : zOK2 I J t u i f s x fx fm) : zOKs (zs I J (zPt t u i f s x)) fx fm := by
  obtain ⟨v, I1, J1, s1, I2, J2, e1, e2, e3, e4⟩ := hk
  exact ⟨v, _, _, e1, e2, zIs_sg h e3⟩
theorem zOKs_2J (h : zIv2 I t u nt nb nr q sh md om im LW BW) {fx fm : zSt → Option (Int64 × zSt)} (hk : zOK2J I J t u i f s x fx fm) : zOKs (zs I J (zPt t u i f s x)) fx fm := by
  obtain ⟨v, I1, J1, s1, I2, J2, e1, e2, e3, e4⟩ := hk
  exact ⟨v, _, _, e1, e2, zIs_sg h e3⟩
theorem zOKs_3 (h : zIv2 I t u nt nb nr q sh md om im LW BW) {fx fm : zSt → Option (Int32 × zSt)} (hk : zOK3 I J t u i f s x fx fm) : zOKs (zs I J (zPt t u i f s x)) fx fm := by
  obtain ⟨v, V, I1, J1, s1, I2, J2, e1, e2, e3, e4, e5, e6, e7⟩ := hk
  exact ⟨v, _, _, e1, e2, I2, J2, t, u, i, f, s1, x, rfl, nt, nb, nr, q, sh, md, om, im, LW, BW, zIv_frn h e3 ⟨V, e5, e6, e7⟩⟩
/-- how often a reader read, how often there was reading -/
def zra (row : Nat → Int32) (r : Nat) : Int32 := zrn (fun b v => v + row (32 + 10 * r + b)) 10 0 0
def zre (row : Nat → Int32) : Int32 := zrn (fun r v => v + zra row r) 6 0 0
theorem g_N_readingsOf {N r : Nat} {row : Nat → Int32} (hN : N = 30 ∨ N = 35 ∨ N = 76 ∨ N = 81 ∨ N = 86) (h : zNow I N row) (hr : r < 6) : f_N_readingsOf (zs I J (zPt t u i f s x)) N (nI r) = some (zra row r) := by
  have := zforF (fun fuel (v : Int32) k => f_N_readingsOf_4L fuel (zs I J (zPt t u i f s x)) N (nI r) v (nI k)) 10 (fun b v => v + row (32 + 10 * r + b)) (fun _ _ => True) (fun v => some v)
    (fun m k v hk _ => by
      have hle : ¬ 10 ≤ k := by omega
      have e := h.2.2.2.2 (10 * r + k) (by omega)
      rw [← Nat.add_assoc] at e
      have hix : 10 * r + k < 60 := by omega
      show f_N_readingsOf_4L (m + 1) _ _ _ _ _ = _
      rw [f_N_readingsOf_4L]
      simp (disch := (first | omega | assumption)) only [f_N_readingsOf_4, gp_4_2, ai_4_2, mr10, ge10, zbs, nI_add, pk_mul, znI_add1, znI_sub1, znI_subm, zle_nI, zlt_nI, zeq_nI, zle_0, zeq_0, zlt_0, zeq_m, zeq_1, zge_0, zbt0, zbt1, zB_0, zB_1, zB_b, zbool_0, zbool_1, ↓reduceIte, hle, e])
    (fun _ _ _ _ => trivial)
    (fun m v _ => by
      show f_N_readingsOf_4L (m + 1) _ _ _ _ _ = _
      rw [f_N_readingsOf_4L, f_N_readingsOf_4, if_pos (by decide)]) 10 0 0 zfu rfl trivial (zfu_lt (by decide))
  have : f_N_readingsOf_4L zfu (zs I J (zPt t u i f s x)) N (nI r) 0 0 = some (zra row r) := this
  simp (disch := (first | omega | assumption)) only [f_N_readingsOf, zg_4, zbs, nI_add, pk_mul, znI_add1, znI_sub1, znI_subm, zle_nI, zlt_nI, zeq_nI, zle_0, zeq_0, zlt_0, zeq_m, zeq_1, zge_0, zbt0, zbt1, zB_0, zB_1, zB_b, zbool_0, zbool_1, ↓reduceIte, this]
theorem g_N_readings {N : Nat} {row : Nat → Int32} (hN : N = 30 ∨ N = 35 ∨ N = 76 ∨ N = 81 ∨ N = 86) (h : zNow I N row) : f_N_readings (zs I J (zPt t u i f s x)) N = some (zre row) := by
  have := zforF (fun fuel (v : Int32) k => f_N_readings_4L fuel (zs I J (zPt t u i f s x)) N v (nI k)) 6 (fun r v => v + zra row r) (fun _ _ => True) (fun v => some v)
    (fun m k v hk _ => by
      have hle : ¬ 6 ≤ k := by omega
      have e := g_N_readingsOf (J := J) (t := t) (u := u) (i := i) (f := f) (s := s) (x := x) hN h hk
      show f_N_readings_4L (m + 1) _ _ _ _ = _
      rw [f_N_readings_4L]
      simp (disch := (first | omega | assumption)) only [f_N_readings_4, ge6, zbs, nI_add, pk_mul, znI_add1, znI_sub1, znI_subm, zle_nI, zlt_nI, zeq_nI, zle_0, zeq_0, zlt_0, zeq_m, zeq_1, zge_0, zbt0, zbt1, zB_0, zB_1, zB_b, zbool_0, zbool_1, ↓reduceIte, hle, e])
    (fun _ _ _ _ => trivial)
    (fun m v _ => by
      show f_N_readings_4L (m + 1) _ _ _ _ = _
      rw [f_N_readings_4L, f_N_readings_4, if_pos (by decide)]) 6 0 0 zfu rfl trivial (zfu_lt (by decide))
  have : f_N_readings_4L zfu (zs I J (zPt t u i f s x)) N 0 0 = some (zre row) := this
  simp (disch := (first | omega | assumption)) only [f_N_readings, zg_4, zbs, nI_add, pk_mul, znI_add1, znI_sub1, znI_subm, zle_nI, zlt_nI, zeq_nI, zle_0, zeq_0, zlt_0, zeq_m, zeq_1, zge_0, zbt0, zbt1, zB_0, zB_1, zB_b, zbool_0, zbool_1, ↓reduceIte, this]
theorem g_M_rdsOf {r b : Nat} (hr : r < 6) (hb : b < 10) : f_M_readsOf (zs I J (zPt t u i f s x)) 91 (nI r) (nI b) = some (I 111 (32 + 10 * r + b)) := by
  have hix : 32 + 10 * r + b < 96 := by omega
  simp (disch := (first | omega | assumption)) only [f_M_readsOf, zg_12, gp_12_49, ai_111, ml10, al32, zbs, nI_add, pk_mul, znI_add1, znI_sub1, znI_subm, zle_nI, zlt_nI, zeq_nI, zle_0, zeq_0, zlt_0, zeq_m, zeq_1, zge_0, zbt0, zbt1, zB_0, zB_1, zB_b, zbool_0, zbool_1, ↓reduceIte]
theorem g_M_readsAll {r : Nat} (hr : r < 6) : f_M_readsAll (zs I J (zPt t u i f s x)) 91 (nI r) = some (zra (I 111) r) := by
  have := zforF (fun fuel (v : Int32) k => f_M_readsAll_4L fuel (zs I J (zPt t u i f s x)) 91 (nI r) v (nI k)) 10 (fun b v => v + I 111 (32 + 10 * r + b)) (fun _ _ => True) (fun v => some v)
    (fun m k v hk _ => by
      have hle : ¬ 10 ≤ k := by omega
      have e := g_M_rdsOf (I := I) (J := J) (t := t) (u := u) (i := i) (f := f) (s := s) (x := x) hr hk
      show f_M_readsAll_4L (m + 1) _ _ _ _ _ = _
      rw [f_M_readsAll_4L]
      simp (disch := (first | omega | assumption)) only [f_M_readsAll_4, ge10, zbs, nI_add, pk_mul, znI_add1, znI_sub1, znI_subm, zle_nI, zlt_nI, zeq_nI, zle_0, zeq_0, zlt_0, zeq_m, zeq_1, zge_0, zbt0, zbt1, zB_0, zB_1, zB_b, zbool_0, zbool_1, ↓reduceIte, hle, e])
    (fun _ _ _ _ => trivial)
    (fun m v _ => by
      show f_M_readsAll_4L (m + 1) _ _ _ _ _ = _
      rw [f_M_readsAll_4L, f_M_readsAll_4, if_pos (by decide)]) 10 0 0 zfu rfl trivial (zfu_lt (by decide))
  have : f_M_readsAll_4L zfu (zs I J (zPt t u i f s x)) 91 (nI r) 0 0 = some (zra (I 111) r) := this
  simp (disch := (first | omega | assumption)) only [f_M_readsAll, zg_12, zbs, nI_add, pk_mul, znI_add1, znI_sub1, znI_subm, zle_nI, zlt_nI, zeq_nI, zle_0, zeq_0, zlt_0, zeq_m, zeq_1, zge_0, zbt0, zbt1, zB_0, zB_1, zB_b, zbool_0, zbool_1, ↓reduceIte, this]
theorem g_M_readsEver : f_M_readsEver (zs I J (zPt t u i f s x)) 91 = some (zre (I 111)) := by
  have := zforF (fun fuel (v : Int32) k => f_M_readsEver_4L fuel (zs I J (zPt t u i f s x)) 91 v (nI k)) 6 (fun r v => v + zra (I 111) r) (fun _ _ => True) (fun v => some v)
    (fun m k v hk _ => by
      have hle : ¬ 6 ≤ k := by omega
      have e := g_M_readsAll (I := I) (J := J) (t := t) (u := u) (i := i) (f := f) (s := s) (x := x) hk
      show f_M_readsEver_4L (m + 1) _ _ _ _ = _
      rw [f_M_readsEver_4L]
      simp (disch := (first | omega | assumption)) only [f_M_readsEver_4, ge6, zbs, nI_add, pk_mul, znI_add1, znI_sub1, znI_subm, zle_nI, zlt_nI, zeq_nI, zle_0, zeq_0, zlt_0, zeq_m, zeq_1, zge_0, zbt0, zbt1, zB_0, zB_1, zB_b, zbool_0, zbool_1, ↓reduceIte, hle, e])
    (fun _ _ _ _ => trivial)
    (fun m v _ => by
      show f_M_readsEver_4L (m + 1) _ _ _ _ = _
      rw [f_M_readsEver_4L, f_M_readsEver_4, if_pos (by decide)]) 6 0 0 zfu rfl trivial (zfu_lt (by decide))
  have : f_M_readsEver_4L zfu (zs I J (zPt t u i f s x)) 91 0 0 = some (zre (I 111)) := this
  simp (disch := (first | omega | assumption)) only [f_M_readsEver, zg_12, zbs, nI_add, pk_mul, znI_add1, znI_sub1, znI_subm, zle_nI, zlt_nI, zeq_nI, zle_0, zeq_0, zlt_0, zeq_m, zeq_1, zge_0, zbt0, zbt1, zB_0, zB_1, zB_b, zbool_0, zbool_1, ↓reduceIte, this]
theorem s_fault (h : zIv2 I t u nt nb nr q sh md om im LW BW) (p : Int32) : zOK0 (zs I J (zPt t u i f s x)) (fun σ => f_W_fault σ 0 p) (fun σ => f_M_fault σ 91 p) := by
  have hf := h.2.2.2.2.1
  by_cases h0 : p = 0
  · refine ⟨I 24 0, ?_, ?_⟩
    · show f_W_fault _ _ _ = _
      simp (disch := (first | omega | assumption)) only [f_W_fault, zg_11, gi_9, gp_11_4, zbs, nI_add, pk_mul, znI_add1, znI_sub1, znI_subm, zle_nI, zlt_nI, zeq_nI, zle_0, zeq_0, zlt_0, zeq_m, zeq_1, zge_0, zbt0, zbt1, zB_0, zB_1, zB_b, zbool_0, zbool_1, ↓reduceIte, h0]
    · show f_M_fault _ _ _ = _
      simp (disch := (first | omega | assumption)) only [f_M_fault, zg_12, gi_12, zbs, nI_add, pk_mul, znI_add1, znI_sub1, znI_subm, zle_nI, zlt_nI, zeq_nI, zle_0, zeq_0, zlt_0, zeq_m, zeq_1, zge_0, zbt0, zbt1, zB_0, zB_1, zB_b, zbool_0, zbool_1, ↓reduceIte, h0, hf.1]
  · by_cases h1 : p = 1
    · have n1 : ¬ (1 : Int32) = 0 := by decide
      refine ⟨I 24 1, ?_, ?_⟩
      · show f_W_fault _ _ _ = _
        simp (disch := (first | omega | assumption)) only [f_W_fault, zg_11, gi_9, gp_11_4, zbs, nI_add, pk_mul, znI_add1, znI_sub1, znI_subm, zle_nI, zlt_nI, zeq_nI, zle_0, zeq_0, zlt_0, zeq_m, zeq_1, zge_0, zbt0, zbt1, zB_0, zB_1, zB_b, zbool_0, zbool_1, ↓reduceIte, h1, n1]
      · show f_M_fault _ _ _ = _
        simp (disch := (first | omega | assumption)) only [f_M_fault, zg_12, gi_12, zbs, nI_add, pk_mul, znI_add1, znI_sub1, znI_subm, zle_nI, zlt_nI, zeq_nI, zle_0, zeq_0, zlt_0, zeq_m, zeq_1, zge_0, zbt0, zbt1, zB_0, zB_1, zB_b, zbool_0, zbool_1, ↓reduceIte, h1, n1, hf.2]
    · refine ⟨-1, ?_, ?_⟩
      · show f_W_fault _ _ _ = _
        simp (disch := (first | omega | assumption)) only [f_W_fault, zg_11, gi_9, gp_11_4, zbs, nI_add, pk_mul, znI_add1, znI_sub1, znI_subm, zle_nI, zlt_nI, zeq_nI, zle_0, zeq_0, zlt_0, zeq_m, zeq_1, zge_0, zbt0, zbt1, zB_0, zB_1, zB_b, zbool_0, zbool_1, ↓reduceIte, h0, h1]
      · show f_M_fault _ _ _ = _
        simp (disch := (first | omega | assumption)) only [f_M_fault, zg_12, gi_12, zbs, nI_add, pk_mul, znI_add1, znI_sub1, znI_subm, zle_nI, zlt_nI, zeq_nI, zle_0, zeq_0, zlt_0, zeq_m, zeq_1, zge_0, zbt0, zbt1, zB_0, zB_1, zB_b, zbool_0, zbool_1, ↓reduceIte, h0, h1]
theorem s_lies (h : zIv2 I t u nt nb nr q sh md om im LW BW) (p : Int32) : zOK0 (zs I J (zPt t u i f s x)) (fun σ => f_W_lies σ 0 p) (fun σ => f_M_lies σ 91 p) := by
  obtain ⟨V, v1, v2, v3⟩ := h.2.2.2.2.2.2.2.2.2.1
  have hin := g_M_isIn p (n := V.length) (by omega)
  have hl0 := v1.1
  have hl1 := v2.1
  rcases zlt_cases p (n := V.length) (by omega) with ⟨h1, k, hk, rfl⟩ | h1
  · rw [h1] at hin
    have hv : V[k]? = some V[k] := List.getElem?_eq_getElem hk
    have e1 := v1.2 k _ hv
    have e2 := v2.2 k _ hv
    have hle : ¬ V.length ≤ k := by omega
    have hk10 : k < 10 := by omega
    refine ⟨V[k], ?_, ?_⟩
    · show f_W_lies _ _ _ = _
      simp (disch := (first | omega | assumption)) only [f_W_lies, zg_11, gi_11, gp_11_17, ai_75, zbs, nI_add, pk_mul, znI_add1, znI_sub1, znI_subm, zle_nI, zlt_nI, zeq_nI, zle_0, zeq_0, zlt_0, zeq_m, zeq_1, zge_0, zbt0, zbt1, zB_0, zB_1, zB_b, zbool_0, zbool_1, ↓reduceIte, hl0, hle, e1]
    · show f_M_lies _ _ _ = _
      simp (disch := (first | omega | assumption)) only [f_M_lies, zg_12, gi_12, gp_12_58, ai_117, zbs, nI_add, pk_mul, znI_add1, znI_sub1, znI_subm, zle_nI, zlt_nI, zeq_nI, zle_0, zeq_0, zlt_0, zeq_m, zeq_1, zge_0, zbt0, zbt1, zB_0, zB_1, zB_b, zbool_0, zbool_1, ↓reduceIte, hl1, hin, e2, Bool.true_eq_false]
  · rw [h1] at hin
    refine ⟨-1000000, ?_, ?_⟩
    · show f_W_lies _ _ _ = _
      by_cases h0 : p < 0
      · simp (disch := (first | omega | assumption)) only [f_W_lies, zg_11, gi_11, gp_11_17, ai_75, zbs, nI_add, pk_mul, znI_add1, znI_sub1, znI_subm, zle_nI, zlt_nI, zeq_nI, zle_0, zeq_0, zlt_0, zeq_m, zeq_1, zge_0, zbt0, zbt1, zB_0, zB_1, zB_b, zbool_0, zbool_1, ↓reduceIte, h0]
      · have h2 : nI V.length ≤ p := by
          unfold zlt at h1
          simp [h0] at h1
          exact h1
        simp (disch := (first | omega | assumption)) only [f_W_lies, zg_11, gi_11, gp_11_17, ai_75, zbs, nI_add, pk_mul, znI_add1, znI_sub1, znI_subm, zle_nI, zlt_nI, zeq_nI, zle_0, zeq_0, zlt_0, zeq_m, zeq_1, zge_0, zbt0, zbt1, zB_0, zB_1, zB_b, zbool_0, zbool_1, ↓reduceIte, h0, hl0, h2]
    · show f_M_lies _ _ _ = _
      simp (disch := (first | omega | assumption)) only [f_M_lies, zg_12, gi_12, gp_12_58, ai_117, zbs, nI_add, pk_mul, znI_add1, znI_sub1, znI_subm, zle_nI, zlt_nI, zeq_nI, zle_0, zeq_0, zlt_0, zeq_m, zeq_1, zge_0, zbt0, zbt1, zB_0, zB_1, zB_b, zbool_0, zbool_1, ↓reduceIte, hl1, hin]
theorem s_weight (h : zIv2 I t u nt nb nr q sh md om im LW BW) (p b : Int32) : zOK0 (zs I J (zPt t u i f s x)) (fun σ => f_W_weight σ 0 p b) (fun σ => f_M_weight σ 91 p b) := by
  obtain ⟨ht, hT, -⟩ := h.2.1
  obtain ⟨hM, hX, hq, hsh, hmd, hun, hw, hou, hod, hbd⟩ := hT
  have hnt := hM.1.2
  have hnb := hM.2.1.2
  have x1 := g_W_isBook (J := J) (t := t) (u := u) (i := i) (f := f) (s := s) (x := x) ht hX.2.1.1 p
  have x2 := g_W_isTopic (J := J) (t := t) (u := u) (i := i) (f := f) (s := s) (x := x) ht hX.1.1 b
  have m1 := g_M_isBook (J := J) (t := t) (u := u) (i := i) (f := f) (s := s) (x := x) hM.2.1.1 hnb p
  have m2 := g_M_isTopic (J := J) (t := t) (u := u) (i := i) (f := f) (s := s) (x := x) hM.1.1 hnt b
  rcases zlt_cases p (n := nb) (by omega) with ⟨h1, k, hk, rfl⟩ | h1
  · rw [h1] at x1 m1
    rcases zlt_cases b (n := nt) (by omega) with ⟨h2, c, hc, rfl⟩ | h2
    · rw [h2] at x2 m2
      have e := hw k c hk hc
      have hix : 4 * k + c < 40 := by omega
      refine ⟨I 107 (4 * k + c), ?_, ?_⟩
      · show f_W_weight _ _ _ _ = _
        simp (disch := (first | omega | assumption)) only [f_W_weight, zg_11, gp_11_2, gp_10_7, ai_10_7, mr4, zbs, nI_add, pk_mul, znI_add1, znI_sub1, znI_subm, zle_nI, zlt_nI, zeq_nI, zle_0, zeq_0, zlt_0, zeq_m, zeq_1, zge_0, zbt0, zbt1, zB_0, zB_1, zB_b, zbool_0, zbool_1, ↓reduceIte, x1, x2, e, Bool.true_eq_false]
      · show f_M_weight _ _ _ _ = _
        simp (disch := (first | omega | assumption)) only [f_M_weight, zg_12, gp_12_30, ai_107, ml4, zbs, nI_add, pk_mul, znI_add1, znI_sub1, znI_subm, zle_nI, zlt_nI, zeq_nI, zle_0, zeq_0, zlt_0, zeq_m, zeq_1, zge_0, zbt0, zbt1, zB_0, zB_1, zB_b, zbool_0, zbool_1, ↓reduceIte, m1, m2, Bool.true_eq_false]
    · rw [h2] at x2 m2
      refine ⟨-1, ?_, ?_⟩
      · show f_W_weight _ _ _ _ = _
        simp (disch := (first | omega | assumption)) only [f_W_weight, zg_11, gp_11_2, gp_10_7, ai_10_7, mr4, zbs, nI_add, pk_mul, znI_add1, znI_sub1, znI_subm, zle_nI, zlt_nI, zeq_nI, zle_0, zeq_0, zlt_0, zeq_m, zeq_1, zge_0, zbt0, zbt1, zB_0, zB_1, zB_b, zbool_0, zbool_1, ↓reduceIte, x1, x2, Bool.true_eq_false]
      · show f_M_weight _ _ _ _ = _
        simp (disch := (first | omega | assumption)) only [f_M_weight, zg_12, gp_12_30, ai_107, ml4, zbs, nI_add, pk_mul, znI_add1, znI_sub1, znI_subm, zle_nI, zlt_nI, zeq_nI, zle_0, zeq_0, zlt_0, zeq_m, zeq_1, zge_0, zbt0, zbt1, zB_0, zB_1, zB_b, zbool_0, zbool_1, ↓reduceIte, m1, m2, Bool.true_eq_false]
  · rw [h1] at x1 m1
    refine ⟨-1, ?_, ?_⟩
    · show f_W_weight _ _ _ _ = _
      simp (disch := (first | omega | assumption)) only [f_W_weight, zg_11, gp_11_2, gp_10_7, ai_10_7, mr4, zbs, nI_add, pk_mul, znI_add1, znI_sub1, znI_subm, zle_nI, zlt_nI, zeq_nI, zle_0, zeq_0, zlt_0, zeq_m, zeq_1, zge_0, zbt0, zbt1, zB_0, zB_1, zB_b, zbool_0, zbool_1, ↓reduceIte, x1]
    · show f_M_weight _ _ _ _ = _
      simp (disch := (first | omega | assumption)) only [f_M_weight, zg_12, gp_12_30, ai_107, ml4, zbs, nI_add, pk_mul, znI_add1, znI_sub1, znI_subm, zle_nI, zlt_nI, zeq_nI, zle_0, zeq_0, zlt_0, zeq_m, zeq_1, zge_0, zbt0, zbt1, zB_0, zB_1, zB_b, zbool_0, zbool_1, ↓reduceIte, m1]
theorem s_wants (h : zIv2 I t u nt nb nr q sh md om im LW BW) (p b : Int32) : zOK0 (zs I J (zPt t u i f s x)) (fun σ => f_W_wants σ 0 p b) (fun σ => f_M_wants σ 91 p b) := by
  obtain ⟨ht, hT, hN, -⟩ := h.2.1
  obtain ⟨hM, hX, -⟩ := hT
  have hnt := hM.1.2
  have hnr := hM.2.2.1.2
  have x1 := g_W_isReader (J := J) (t := t) (u := u) (i := i) (f := f) (s := s) (x := x) ht hX.2.2.1.1 p
  have x2 := g_W_isTopic (J := J) (t := t) (u := u) (i := i) (f := f) (s := s) (x := x) ht hX.1.1 b
  have m1 := g_M_isReader (J := J) (t := t) (u := u) (i := i) (f := f) (s := s) (x := x) hM.2.2.1.1 hnr p
  have m2 := g_M_isTopic (J := J) (t := t) (u := u) (i := i) (f := f) (s := s) (x := x) hM.1.1 hnt b
  rcases zlt_cases p (n := nr) (by omega) with ⟨h1, k, hk, rfl⟩ | h1
  · rw [h1] at x1 m1
    rcases zlt_cases b (n := nt) (by omega) with ⟨h2, c, hc, rfl⟩ | h2
    · rw [h2] at x2 m2
      have e := hN.1 (4 * k + c) (by omega)
      have hix : 4 * k + c < 24 := by omega
      have hix2 : 4 * k + c < 96 := by omega
      refine ⟨I 111 (4 * k + c), ?_, ?_⟩
      · show f_W_wants _ _ _ _ = _
        simp (disch := (first | omega | assumption)) only [f_W_wants, zg_11, gp_11_5, gp_4_0, ai_4_0, mr4, zbs, nI_add, pk_mul, znI_add1, znI_sub1, znI_subm, zle_nI, zlt_nI, zeq_nI, zle_0, zeq_0, zlt_0, zeq_m, zeq_1, zge_0, zbt0, zbt1, zB_0, zB_1, zB_b, zbool_0, zbool_1, ↓reduceIte, x1, x2, e, Bool.true_eq_false]
      · show f_M_wants _ _ _ _ = _
        simp (disch := (first | omega | assumption)) only [f_M_wants, zg_12, gp_12_49, ai_111, ml4, zbs, nI_add, pk_mul, znI_add1, znI_sub1, znI_subm, zle_nI, zlt_nI, zeq_nI, zle_0, zeq_0, zlt_0, zeq_m, zeq_1, zge_0, zbt0, zbt1, zB_0, zB_1, zB_b, zbool_0, zbool_1, ↓reduceIte, m1, m2, Bool.true_eq_false]
    · rw [h2] at x2 m2
      refine ⟨-1000000, ?_, ?_⟩
      · show f_W_wants _ _ _ _ = _
        simp (disch := (first | omega | assumption)) only [f_W_wants, zg_11, gp_11_5, gp_4_0, ai_4_0, mr4, zbs, nI_add, pk_mul, znI_add1, znI_sub1, znI_subm, zle_nI, zlt_nI, zeq_nI, zle_0, zeq_0, zlt_0, zeq_m, zeq_1, zge_0, zbt0, zbt1, zB_0, zB_1, zB_b, zbool_0, zbool_1, ↓reduceIte, x1, x2, Bool.true_eq_false]
      · show f_M_wants _ _ _ _ = _
        simp (disch := (first | omega | assumption)) only [f_M_wants, zg_12, gp_12_49, ai_111, ml4, zbs, nI_add, pk_mul, znI_add1, znI_sub1, znI_subm, zle_nI, zlt_nI, zeq_nI, zle_0, zeq_0, zlt_0, zeq_m, zeq_1, zge_0, zbt0, zbt1, zB_0, zB_1, zB_b, zbool_0, zbool_1, ↓reduceIte, m1, m2, Bool.true_eq_false]
  · rw [h1] at x1 m1
    refine ⟨-1000000, ?_, ?_⟩
    · show f_W_wants _ _ _ _ = _
      simp (disch := (first | omega | assumption)) only [f_W_wants, zg_11, gp_11_5, gp_4_0, ai_4_0, mr4, zbs, nI_add, pk_mul, znI_add1, znI_sub1, znI_subm, zle_nI, zlt_nI, zeq_nI, zle_0, zeq_0, zlt_0, zeq_m, zeq_1, zge_0, zbt0, zbt1, zB_0, zB_1, zB_b, zbool_0, zbool_1, ↓reduceIte, x1]
    · show f_M_wants _ _ _ _ = _
      simp (disch := (first | omega | assumption)) only [f_M_wants, zg_12, gp_12_49, ai_111, ml4, zbs, nI_add, pk_mul, znI_add1, znI_sub1, znI_subm, zle_nI, zlt_nI, zeq_nI, zle_0, zeq_0, zlt_0, zeq_m, zeq_1, zge_0, zbt0, zbt1, zB_0, zB_1, zB_b, zbool_0, zbool_1, ↓reduceIte, m1]
theorem s_reader (h : zIv2 I t u nt nb nr q sh md om im LW BW) (p w : Int32) : zOK0 (zs I J (zPt t u i f s x)) (fun σ => f_W_reader σ 0 p w) (fun σ => f_M_reader σ 91 p w) := by
  obtain ⟨ht, hT, hN, -⟩ := h.2.1
  obtain ⟨hM, hX, hq, hsh, hmd, hun, hw, hou, hod, hbd⟩ := hT
  have hnr := hM.2.2.1.2
  have x1 := g_W_isReader (J := J) (t := t) (u := u) (i := i) (f := f) (s := s) (x := x) ht hX.2.2.1.1 p
  have m1 := g_M_isReader (J := J) (t := t) (u := u) (i := i) (f := f) (s := s) (x := x) hM.2.2.1.1 hnr p
  rcases zlt_cases p (n := nr) (by omega) with ⟨h1, k, hk, rfl⟩ | h1
  · rw [h1] at x1 m1
    have n1 : ¬ (1 : Int32) = 0 := by decide
    have n2 : ¬ (2 : Int32) = 0 := by decide
    have n21 : ¬ (2 : Int32) = 1 := by decide
    have n3 : ¬ (3 : Int32) = 0 := by decide
    have n31 : ¬ (3 : Int32) = 1 := by decide
    have n32 : ¬ (3 : Int32) = 2 := by decide
    have hk6 : k < 6 := by omega
    have hix : 24 + k < 96 := by omega
    by_cases w0 : w = 0
    · have e := (hod k hk).1
      refine ⟨I 110 k, ?_, ?_⟩
      · show f_W_reader _ _ _ _ = _
        simp (disch := (first | omega | assumption)) only [f_W_reader, zg_11, gi_4, gp_11_2, gp_10_10, gp_11_5, gp_4_1, ai_10_10, ai_4_1, eq2, eq3, zbs, nI_add, pk_mul, znI_add1, znI_sub1, znI_subm, zle_nI, zlt_nI, zeq_nI, zle_0, zeq_0, zlt_0, zeq_m, zeq_1, zge_0, zbt0, zbt1, zB_0, zB_1, zB_b, zbool_0, zbool_1, ↓reduceIte, x1, w0, e, Bool.true_eq_false]
      · show f_M_reader _ _ _ _ = _
        simp (disch := (first | omega | assumption)) only [f_M_reader, zg_12, gp_12_33, gp_12_49, ai_110, ai_111, al_111_30, eq2, eq3, al24, zbs, nI_add, pk_mul, znI_add1, znI_sub1, znI_subm, zle_nI, zlt_nI, zeq_nI, zle_0, zeq_0, zlt_0, zeq_m, zeq_1, zge_0, zbt0, zbt1, zB_0, zB_1, zB_b, zbool_0, zbool_1, ↓reduceIte, m1, w0, Bool.true_eq_false]
    by_cases w1 : w = 1
    · have e := hN.2.1 k hk6
      refine ⟨I 111 (24 + k), ?_, ?_⟩
      · show f_W_reader _ _ _ _ = _
        simp (disch := (first | omega | assumption)) only [f_W_reader, zg_11, gi_4, gp_11_2, gp_10_10, gp_11_5, gp_4_1, ai_10_10, ai_4_1, eq2, eq3, zbs, nI_add, pk_mul, znI_add1, znI_sub1, znI_subm, zle_nI, zlt_nI, zeq_nI, zle_0, zeq_0, zlt_0, zeq_m, zeq_1, zge_0, zbt0, zbt1, zB_0, zB_1, zB_b, zbool_0, zbool_1, ↓reduceIte, x1, w1, n1, e, Bool.true_eq_false]
      · show f_M_reader _ _ _ _ = _
        simp (disch := (first | omega | assumption)) only [f_M_reader, zg_12, gp_12_33, gp_12_49, ai_110, ai_111, al_111_30, eq2, eq3, al24, zbs, nI_add, pk_mul, znI_add1, znI_sub1, znI_subm, zle_nI, zlt_nI, zeq_nI, zle_0, zeq_0, zlt_0, zeq_m, zeq_1, zge_0, zbt0, zbt1, zB_0, zB_1, zB_b, zbool_0, zbool_1, ↓reduceIte, m1, w1, n1, Bool.true_eq_false]
    by_cases w2 : w = 2
    · have e := hN.2.2.1
      refine ⟨(I 111 30 >>> (nI k &&& 31)) &&& 1, ?_, ?_⟩
      · show f_W_reader _ _ _ _ = _
        simp (disch := (first | omega | assumption)) only [f_W_reader, zg_11, gi_4, gp_11_2, gp_10_10, gp_11_5, gp_4_1, ai_10_10, ai_4_1, eq2, eq3, zbs, nI_add, pk_mul, znI_add1, znI_sub1, znI_subm, zle_nI, zlt_nI, zeq_nI, zle_0, zeq_0, zlt_0, zeq_m, zeq_1, zge_0, zbt0, zbt1, zB_0, zB_1, zB_b, zbool_0, zbool_1, ↓reduceIte, x1, w2, n2, n21, e, Bool.true_eq_false]
      · show f_M_reader _ _ _ _ = _
        simp (disch := (first | omega | assumption)) only [f_M_reader, zg_12, gp_12_33, gp_12_49, ai_110, ai_111, al_111_30, eq2, eq3, al24, zbs, nI_add, pk_mul, znI_add1, znI_sub1, znI_subm, zle_nI, zlt_nI, zeq_nI, zle_0, zeq_0, zlt_0, zeq_m, zeq_1, zge_0, zbt0, zbt1, zB_0, zB_1, zB_b, zbool_0, zbool_1, ↓reduceIte, m1, w2, n2, n21, Bool.true_eq_false]
    by_cases w3 : w = 3
    · have e := g_N_readingsOf (J := J) (t := t) (u := u) (i := i) (f := f) (s := s) (x := x) (Or.inl rfl) hN hk6
      have e2 := g_M_readsAll (I := I) (J := J) (t := t) (u := u) (i := i) (f := f) (s := s) (x := x) hk6
      refine ⟨zra (I 111) k, ?_, ?_⟩
      · show f_W_reader _ _ _ _ = _
        simp (disch := (first | omega | assumption)) only [f_W_reader, zg_11, gi_4, gp_11_2, gp_10_10, gp_11_5, gp_4_1, ai_10_10, ai_4_1, eq2, eq3, zbs, nI_add, pk_mul, znI_add1, znI_sub1, znI_subm, zle_nI, zlt_nI, zeq_nI, zle_0, zeq_0, zlt_0, zeq_m, zeq_1, zge_0, zbt0, zbt1, zB_0, zB_1, zB_b, zbool_0, zbool_1, ↓reduceIte, x1, w3, n3, n31, n32, e, Bool.true_eq_false]
      · show f_M_reader _ _ _ _ = _
        simp (disch := (first | omega | assumption)) only [f_M_reader, zg_12, gp_12_33, gp_12_49, ai_110, ai_111, al_111_30, eq2, eq3, al24, zbs, nI_add, pk_mul, znI_add1, znI_sub1, znI_subm, zle_nI, zlt_nI, zeq_nI, zle_0, zeq_0, zlt_0, zeq_m, zeq_1, zge_0, zbt0, zbt1, zB_0, zB_1, zB_b, zbool_0, zbool_1, ↓reduceIte, m1, w3, n3, n31, n32, e2, Bool.true_eq_false]
    refine ⟨-2, ?_, ?_⟩
    · show f_W_reader _ _ _ _ = _
      simp (disch := (first | omega | assumption)) only [f_W_reader, zg_11, gi_4, gp_11_2, gp_10_10, gp_11_5, gp_4_1, ai_10_10, ai_4_1, eq2, eq3, zbs, nI_add, pk_mul, znI_add1, znI_sub1, znI_subm, zle_nI, zlt_nI, zeq_nI, zle_0, zeq_0, zlt_0, zeq_m, zeq_1, zge_0, zbt0, zbt1, zB_0, zB_1, zB_b, zbool_0, zbool_1, ↓reduceIte, x1, w0, w1, w2, w3, Bool.true_eq_false]
    · show f_M_reader _ _ _ _ = _
      simp (disch := (first | omega | assumption)) only [f_M_reader, zg_12, gp_12_33, gp_12_49, ai_110, ai_111, al_111_30, eq2, eq3, al24, zbs, nI_add, pk_mul, znI_add1, znI_sub1, znI_subm, zle_nI, zlt_nI, zeq_nI, zle_0, zeq_0, zlt_0, zeq_m, zeq_1, zge_0, zbt0, zbt1, zB_0, zB_1, zB_b, zbool_0, zbool_1, ↓reduceIte, m1, w0, w1, w2, w3, Bool.true_eq_false]
  · rw [h1] at x1 m1
    refine ⟨-2, ?_, ?_⟩
    · show f_W_reader _ _ _ _ = _
      simp (disch := (first | omega | assumption)) only [f_W_reader, zg_11, gi_4, gp_11_2, gp_10_10, gp_11_5, gp_4_1, ai_10_10, ai_4_1, eq2, eq3, zbs, nI_add, pk_mul, znI_add1, znI_sub1, znI_subm, zle_nI, zlt_nI, zeq_nI, zle_0, zeq_0, zlt_0, zeq_m, zeq_1, zge_0, zbt0, zbt1, zB_0, zB_1, zB_b, zbool_0, zbool_1, ↓reduceIte, x1]
    · show f_M_reader _ _ _ _ = _
      simp (disch := (first | omega | assumption)) only [f_M_reader, zg_12, gp_12_33, gp_12_49, ai_110, ai_111, al_111_30, eq2, eq3, al24, zbs, nI_add, pk_mul, znI_add1, znI_sub1, znI_subm, zle_nI, zlt_nI, zeq_nI, zle_0, zeq_0, zlt_0, zeq_m, zeq_1, zge_0, zbt0, zbt1, zB_0, zB_1, zB_b, zbool_0, zbool_1, ↓reduceIte, m1]
end ZIv
