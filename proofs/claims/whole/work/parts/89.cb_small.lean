/-! calls that change little: end, hush, left, look, untell, later, about -/
def zSq (a k : Nat) : Bool := zSn a k || (a == 0 && (k == 1 || k == 16)) || (a == 91 && (k == 1 || k == 71 || k == 78 || k == 79)) || a == 1 || a == 92 || a == 74 || a == 124 || (Nat.ble 68 a && Nat.ble a 73) || (Nat.ble 126 a && Nat.ble a 130)
theorem zCo_frq {I I' : Nat → Nat → Int32} {t nt nb nr q sh md om im : Nat} {LW BW : List Int32} (h : zCo I t nt nb nr q sh md om im LW BW) (hf : zfr zSq I I') : zCo I' t nt nb nr q sh md om im LW BW := by
  have r97 : I' 97 = I 97 := zfr_row hf 97 (fun _ => rfl)
  have r98 : I' 98 = I 98 := zfr_row hf 98 (fun _ => rfl)
  have r99 : I' 99 = I 99 := zfr_row hf 99 (fun _ => rfl)
  have r107 : I' 107 = I 107 := zfr_row hf 107 (fun _ => rfl)
  have r109 : I' 109 = I 109 := zfr_row hf 109 (fun _ => rfl)
  have r110 : I' 110 = I 110 := zfr_row hf 110 (fun _ => rfl)
  have r111 : I' 111 = I 111 := zfr_row hf 111 (fun _ => rfl)
  have r30 : I' 30 = I 30 := zfr_row hf 30 (fun _ => rfl)
  have r31 : I' 31 = I 31 := zfr_row hf 31 (fun _ => rfl)
  have r32 : I' 32 = I 32 := zfr_row hf 32 (fun _ => rfl)
  have r33 : I' 33 = I 33 := zfr_row hf 33 (fun _ => rfl)
  have ht := h.1
  have e0 : I' t = I t := zfr_row hf t (fun _ => by rcases ht with rfl | rfl <;> rfl)
  have e1 : I' (t + 1) = I (t + 1) := zfr_row hf _ (fun _ => by rcases ht with rfl | rfl <;> rfl)
  have e3 : I' (t + 3) = I (t + 3) := zfr_row hf _ (fun _ => by rcases ht with rfl | rfl <;> rfl)
  have e4 : I' (t + 4) = I (t + 4) := zfr_row hf _ (fun _ => by rcases ht with rfl | rfl <;> rfl)
  have e5 : I' (t + 5) = I (t + 5) := zfr_row hf _ (fun _ => by rcases ht with rfl | rfl <;> rfl)
  have e6 : I' (t + 6) = I (t + 6) := zfr_row hf _ (fun _ => by rcases ht with rfl | rfl <;> rfl)
  have e8 : I' (t + 8) = I (t + 8) := zfr_row hf _ (fun _ => by rcases ht with rfl | rfl <;> rfl)
  have e9 : I' (t + 9) = I (t + 9) := zfr_row hf _ (fun _ => by rcases ht with rfl | rfl <;> rfl)
  have f22 := hf 91 22 rfl
  have f41 := hf 91 41 rfl
  have f42 := hf 91 42 rfl
  have f43 := hf 91 43 rfl
  have f44 := hf 91 44 rfl
  have f45 := hf 91 45 rfl
  have f46 := hf 91 46 rfl
  have f47 := hf 91 47 rfl
  have f48 := hf 91 48 rfl
  have g2 := hf 51 2 rfl
  have g3 := hf 51 3 rfl
  unfold zCo zTold zMd zXd zBd zNow at h ⊢
  rw [r97, r98, r99, r107, r109, r110, r111, r30, r31, r32, r33, e0, e1, e3, e4, e5, e6, e8, e9, f22, f41, f42, f43, f44, f45, f46, f47, f48, g2, g3]
  exact h
theorem znd_len : ∀ (n : Nat) (S : List Nat), S.Nodup → (∀ b ∈ S, b < n) → S.length ≤ n := by
  intro n
  induction n with
  | zero =>
    intro S _ h
    cases S with
    | nil => exact Nat.le_refl _
    | cons b S => exact absurd (h b (by simp)) (Nat.not_lt_zero _)
  | succ n ih =>
    intro S hS h
    by_cases hn : n ∈ S
    · have e := List.length_erase_of_mem hn
      have := ih (S.erase n) (List.Nodup.erase n hS) (fun b hb => by
        rw [List.Nodup.mem_erase_iff hS] at hb
        have := h b hb.2
        omega)
      have hp : 0 < S.length := List.length_pos_of_mem hn
      omega
    · have := ih S hS (fun b hb => by
        have h1 := h b hb
        have h2 : b ≠ n := fun e => hn (e ▸ hb)
        omega)
      omega
section ZSm
variable {I : Nat → Nat → Int32} {J : Nat → Nat → Int64} {t u i f s x : Nat} {nt nb nr q sh md om im : Nat} {LW BW : List Int32}
theorem zIv_frq {I' : Nat → Nat → Int32} (h : zIv2 I t u nt nb nr q sh md om im LW BW) (hf : zfr zSq I I') (hT : zTp I') (hL : ∃ S, zLf I' nb S) (hV : zLy I') (hK : ∃ nl tm, zLk I' nb nr nl tm) : zIv2 I' t u nt nb nr q sh md om im LW BW := by
  obtain ⟨h1, h2, h3, h4, h5, h6, h7, h8, -, -, -⟩ := h
  have r : ∀ a, (∀ k, zSq a k = false) → I' a = I a := fun a ha => zfr_row hf a ha
  refine ⟨h1, zCo_frq h2 hf, ?_, hT, ?_, ?_, zBx_rows h7 (r 132 (fun _ => rfl)) (r 133 (fun _ => rfl)) (fun a h1 h2 => r a (fun k => ?_)), zAc_rows h8 (r 41 (fun _ => rfl)) (r 42 (fun _ => rfl)) (r 43 (fun _ => rfl)) (r 44 (fun _ => rfl)) (r 45 (fun _ => rfl)) (r 46 (fun _ => rfl)) (r 107 (fun _ => rfl)) (r 111 (fun _ => rfl)) (r 116 (fun _ => rfl)) (hf 91 56 rfl) (hf 91 57 rfl), hL, hV, hK⟩
  · rw [r 111 (fun _ => rfl)]; exact h3
  · rw [r 24 (fun _ => rfl), hf 91 2 rfl, hf 91 3 rfl]; exact h5
  · intro g hg
    rw [r 96 (fun _ => rfl)]; exact h6 g hg
  · have : a = 76 ∨ a = 77 ∨ a = 78 ∨ a = 79 ∨ a = 80 ∨ a = 81 ∨ a = 82 ∨ a = 83 ∨ a = 84 ∨ a = 85 ∨ a = 86 ∨ a = 87 ∨ a = 88 ∨ a = 89 ∨ a = 90 := by omega
    rcases this with rfl | rfl | rfl | rfl | rfl | rfl | rfl | rfl | rfl | rfl | rfl | rfl | rfl | rfl | rfl <;> rfl
theorem zLf_rows {I' : Nat → Nat → Int32} (h : ∃ S, zLf I nb S) (h1 : I' 0 16 = I 0 16) (h2 : I' 91 71 = I 91 71) (h3 : I' 74 = I 74) (h4 : I' 124 = I 124) : ∃ S, zLf I' nb S := by
  obtain ⟨S, hS⟩ := h
  refine ⟨S, ?_⟩
  unfold zLf
  rw [h1, h2, h3, h4]
  exact hS
theorem zLy_rows {I' : Nat → Nat → Int32} (h : zLy I) (h1 : I' 0 18 = I 0 18) (h2 : I' 91 59 = I 91 59) (h3 : I' 75 = I 75) (h4 : I' 117 = I 117) : zLy I' := by
  obtain ⟨V, v1, v2, v3⟩ := h
  refine ⟨V, ?_, ?_, v3⟩
  · unfold zLnx; rw [h1, h3]; exact v1
  · unfold zLnm; rw [h2, h4]; exact v2
theorem zLk_rows {I' : Nat → Nat → Int32} (h : ∃ nl tm, zLk I nb nr nl tm) (h78 : I' 91 78 = I 91 78) (h79 : I' 91 79 = I 91 79) (hr : ∀ a, (68 ≤ a ∧ a ≤ 73) ∨ (126 ≤ a ∧ a ≤ 130) → I' a = I a) : ∃ nl tm, zLk I' nb nr nl tm := by
  obtain ⟨nl, tm, hk⟩ := h
  refine ⟨nl, tm, ?_⟩
  unfold zLk
  rw [hr 68 (by omega), h78, h79, hr 69 (by omega), hr 70 (by omega), hr 71 (by omega), hr 72 (by omega), hr 73 (by omega), hr 126 (by omega), hr 127 (by omega), hr 128 (by omega), hr 129 (by omega), hr 130 (by omega)]
  exact hk
theorem zIs_mk {I' : Nat → Nat → Int32} {J' : Nat → Nat → Int64} {t u i f s x : Nat} (h : zIv2 I' t u nt nb nr q sh md om im LW BW) : zIs (zs I' J' (zPt t u i f s x)) := ⟨I', J', t, u, i, f, s, x, rfl, nt, nb, nr, q, sh, md, om, im, LW, BW, h⟩
theorem s_end (h : zIv2 I t u nt nb nr q sh md om im LW BW) (p : Int32) : zOKs (zs I J (zPt t u i f s x)) (fun σ => f_W_end σ 0 p) (fun σ => f_M_end σ 91 p) := by
  obtain ⟨n, B, g1, g2, g3, g4⟩ := h.2.2.2.1
  have hn := g1.1
  have same : f_W_end (zs I J (zPt t u i f s x)) 0 p = some (-1, (zs I J (zPt t u i f s x))) → f_M_end (zs I J (zPt t u i f s x)) 91 p = some (-1, (zs I J (zPt t u i f s x))) → zOKs (zs I J (zPt t u i f s x)) (fun σ => f_W_end σ 0 p) (fun σ => f_M_end σ 91 p) := fun e1 e2 => ⟨-1, _, _, e1, e2, zIs_mk h⟩
  rcases pk_ix p (show n + 1 < 2 ^ 31 by omega) with h0 | h0 | ⟨k, hk, rfl⟩
  · refine same ?_ ?_
    · simp (disch := (first | omega | assumption)) only [f_W_end, zg_11, gi_11, si_11, zbs, nI_add, pk_mul, znI_add1, znI_sub1, znI_subm, zle_nI, zlt_nI, zeq_nI, zle_0, zeq_0, zlt_0, zeq_m, zeq_1, zge_0, zbt0, zbt1, zB_0, zB_1, zB_b, zbool_0, zbool_1, ↓reduceIte, h0]
    · simp (disch := (first | omega | assumption)) only [f_M_end, zg_12, gi_12, si_12, zbs, nI_add, pk_mul, znI_add1, znI_sub1, znI_subm, zle_nI, zlt_nI, zeq_nI, zle_0, zeq_0, zlt_0, zeq_m, zeq_1, zge_0, zbt0, zbt1, zB_0, zB_1, zB_b, zbool_0, zbool_1, ↓reduceIte, h0]
  · have h1 : ¬ p ≤ nI n := by
      have h2 : nI (n + 1) ≤ p := h0
      rw [Int32.le_iff_toInt_le] at h2 ⊢
      rw [nI_toInt (by omega)] at h2 ⊢
      omega
    by_cases hp : p < 0
    · refine same ?_ ?_
      · simp (disch := (first | omega | assumption)) only [f_W_end, zg_11, gi_11, si_11, zbs, nI_add, pk_mul, znI_add1, znI_sub1, znI_subm, zle_nI, zlt_nI, zeq_nI, zle_0, zeq_0, zlt_0, zeq_m, zeq_1, zge_0, zbt0, zbt1, zB_0, zB_1, zB_b, zbool_0, zbool_1, ↓reduceIte, hp]
      · simp (disch := (first | omega | assumption)) only [f_M_end, zg_12, gi_12, si_12, zbs, nI_add, pk_mul, znI_add1, znI_sub1, znI_subm, zle_nI, zlt_nI, zeq_nI, zle_0, zeq_0, zlt_0, zeq_m, zeq_1, zge_0, zbt0, zbt1, zB_0, zB_1, zB_b, zbool_0, zbool_1, ↓reduceIte, hp]
    · refine same ?_ ?_
      · simp (disch := (first | omega | assumption)) only [f_W_end, zg_11, gi_11, si_11, zbs, nI_add, pk_mul, znI_add1, znI_sub1, znI_subm, zle_nI, zlt_nI, zeq_nI, zle_0, zeq_0, zlt_0, zeq_m, zeq_1, zge_0, zbt0, zbt1, zB_0, zB_1, zB_b, zbool_0, zbool_1, ↓reduceIte, hp, g3, h1]
      · simp (disch := (first | omega | assumption)) only [f_M_end, zg_12, gi_12, si_12, zbs, nI_add, pk_mul, znI_add1, znI_sub1, znI_subm, zle_nI, zlt_nI, zeq_nI, zle_0, zeq_0, zlt_0, zeq_m, zeq_1, zge_0, zbt0, zbt1, zB_0, zB_1, zB_b, zbool_0, zbool_1, ↓reduceIte, hp, g4, h1]
  · have hle : k ≤ n := by omega
    have g4' : zup I 0 1 (nI k) 91 1 = nI n := by rw [zup_ne _ _ _ (by decide)]; exact g4
    have hfr : zfr zSq I (zup (zup I 0 1 (nI k)) 91 1 (nI k)) := zfr_up (zfr_up (zfr_refl _ _) rfl) rfl
    have hr : ∀ a, a ≠ 0 → a ≠ 91 → zup (zup I 0 1 (nI k)) 91 1 (nI k) a = I a := fun a h1 h2 => (zup_ne _ _ _ h2).trans (zup_ne _ _ _ h1)
    have h91 : ∀ j, j ≠ 1 → zup (zup I 0 1 (nI k)) 91 1 (nI k) 91 j = I 91 j := fun j hj => (zup_k _ _ hj).trans (by rw [zup_ne _ _ _ (by decide)])
    have h00 : ∀ j, j ≠ 1 → zup (zup I 0 1 (nI k)) 91 1 (nI k) 0 j = I 0 j := fun j hj => by rw [zup_ne _ _ _ (by decide)]; exact zup_k _ _ hj
    refine ⟨nI k, (zs (zup I 0 1 (nI k)) J (zPt t u i f s x)), (zs (zup (zup I 0 1 (nI k)) 91 1 (nI k)) J (zPt t u i f s x)), ?_, ?_, zIs_mk (zIv_frq h hfr ?_ (zLf_rows h.2.2.2.2.2.2.2.2.1 (h00 16 (by decide)) (h91 71 (by decide)) (hr 74 (by decide) (by decide)) (hr 124 (by decide) (by decide))) (zLy_rows h.2.2.2.2.2.2.2.2.2.1 (h00 18 (by decide)) (h91 59 (by decide)) (hr 75 (by decide) (by decide)) (hr 117 (by decide) (by decide))) (zLk_rows h.2.2.2.2.2.2.2.2.2.2 (h91 78 (by decide)) (h91 79 (by decide)) (fun a ha => hr a (by omega) (by omega))))⟩
    · show f_W_end _ _ _ = _
      simp (disch := (first | omega | assumption)) only [f_W_end, zg_11, gi_11, si_11, zbs, nI_add, pk_mul, znI_add1, znI_sub1, znI_subm, zle_nI, zlt_nI, zeq_nI, zle_0, zeq_0, zlt_0, zeq_m, zeq_1, zge_0, zbt0, zbt1, zB_0, zB_1, zB_b, zbool_0, zbool_1, ↓reduceIte, g3, hle]
    · show f_M_end _ _ _ = _
      simp (disch := (first | omega | assumption)) only [f_M_end, zg_12, gi_12, si_12, zbs, nI_add, pk_mul, znI_add1, znI_sub1, znI_subm, zle_nI, zlt_nI, zeq_nI, zle_0, zeq_0, zlt_0, zeq_m, zeq_1, zge_0, zbt0, zbt1, zB_0, zB_1, zB_b, zbool_0, zbool_1, ↓reduceIte, g4', hle]
    · refine ⟨k, B, ⟨by omega, g1.2.1, fun j hj => by rw [hr 1 (by decide) (by decide)]; exact g1.2.2 j (by omega)⟩, ⟨by omega, g2.2.1, fun j hj => by rw [hr 92 (by decide) (by decide)]; exact g2.2.2 j (by omega)⟩, ?_, zup_s _ _ _ _⟩
      rw [zup_ne _ _ _ (by decide), zup_s]
theorem s_hush (h : zIv2 I t u nt nb nr q sh md om im LW BW) : zOKs (zs I J (zPt t u i f s x)) (fun σ => f_W_hush σ 0) (fun σ => f_M_hush σ 91) := by
  obtain ⟨S, s1, s2, s3, s4, s5⟩ := h.2.2.2.2.2.2.2.2.1
  have s2' : zup I 0 16 0 91 71 = nI S.length := by rw [zup_ne _ _ _ (by decide)]; exact s2
  have hfr : zfr zSq I (zup (zup I 0 16 0) 91 71 0) := zfr_up (zfr_up (zfr_refl _ _) rfl) rfl
  have hr : ∀ a, a ≠ 0 → a ≠ 91 → zup (zup I 0 16 0) 91 71 0 a = I a := fun a h1 h2 => (zup_ne _ _ _ h2).trans (zup_ne _ _ _ h1)
  have h91 : ∀ j, j ≠ 71 → zup (zup I 0 16 0) 91 71 0 91 j = I 91 j := fun j hj => (zup_k _ _ hj).trans (by rw [zup_ne _ _ _ (by decide)])
  have h00 : ∀ j, j ≠ 16 → zup (zup I 0 16 0) 91 71 0 0 j = I 0 j := fun j hj => by rw [zup_ne _ _ _ (by decide)]; exact zup_k _ _ hj
  refine ⟨nI S.length, (zs (zup I 0 16 0) J (zPt t u i f s x)), (zs (zup (zup I 0 16 0) 91 71 0) J (zPt t u i f s x)), ?_, ?_, zIs_mk (zIv_frq h hfr (zTp_rows h.2.2.2.1 (hr 1 (by decide) (by decide)) (hr 92 (by decide) (by decide)) (h00 1 (by decide)) (h91 1 (by decide))) ⟨[], ?_, ?_, Nat.zero_le _, List.nodup_nil, fun k b hb => by cases hb⟩ (zLy_rows h.2.2.2.2.2.2.2.2.2.1 (h00 18 (by decide)) (h91 59 (by decide)) (hr 75 (by decide) (by decide)) (hr 117 (by decide) (by decide))) (zLk_rows h.2.2.2.2.2.2.2.2.2.2 (h91 78 (by decide)) (h91 79 (by decide)) (fun a ha => hr a (by omega) (by omega))))⟩
  · show f_W_hush _ _ = _
    simp (disch := (first | omega | assumption)) only [f_W_hush, zg_11, gi_11, si_11, zbs, nI_add, pk_mul, znI_add1, znI_sub1, znI_subm, zle_nI, zlt_nI, zeq_nI, zle_0, zeq_0, zlt_0, zeq_m, zeq_1, zge_0, zbt0, zbt1, zB_0, zB_1, zB_b, zbool_0, zbool_1, ↓reduceIte, s1]
  · show f_M_hush _ _ = _
    simp (disch := (first | omega | assumption)) only [f_M_hush, zg_12, gi_12, si_12, zbs, nI_add, pk_mul, znI_add1, znI_sub1, znI_subm, zle_nI, zlt_nI, zeq_nI, zle_0, zeq_0, zlt_0, zeq_m, zeq_1, zge_0, zbt0, zbt1, zB_0, zB_1, zB_b, zbool_0, zbool_1, ↓reduceIte, s2']
  · rw [zup_ne _ _ _ (by decide), zup_s]; rfl
  · rw [zup_s]; rfl
theorem s_later (h : zIv2 I t u nt nb nr q sh md om im LW BW) (p : Int32) : zOKs (zs I J (zPt t u i f s x)) (fun σ => f_W_later σ 0 p) (fun σ => f_M_later σ 91 p) := by
  obtain ⟨nl, tm, k1, k2, k3⟩ := h.2.2.2.2.2.2.2.2.2.2
  have same : f_W_later (zs I J (zPt t u i f s x)) 0 p = some (-1, (zs I J (zPt t u i f s x))) → f_M_later (zs I J (zPt t u i f s x)) 91 p = some (-1, (zs I J (zPt t u i f s x))) → zOKs (zs I J (zPt t u i f s x)) (fun σ => f_W_later σ 0 p) (fun σ => f_M_later σ 91 p) := fun e1 e2 => ⟨-1, _, _, e1, e2, zIs_mk h⟩
  have t1 := k2.1
  have t2 := k2.2.1
  by_cases hp : p < 0
  · refine same ?_ ?_
    · simp (disch := (first | omega | assumption)) only [f_W_later, zg_11, gi_3, si_3, gp_11_14, gt1000, zbs, nI_add, pk_mul, znI_add1, znI_sub1, znI_subm, zle_nI, zlt_nI, zeq_nI, zle_0, zeq_0, zlt_0, zeq_m, zeq_1, zge_0, zbt0, zbt1, zB_0, zB_1, zB_b, zbool_0, zbool_1, ↓reduceIte, hp]
    · simp (disch := (first | omega | assumption)) only [f_M_later, zg_12, gi_12, si_12, gt1000, zbs, nI_add, pk_mul, znI_add1, znI_sub1, znI_subm, zle_nI, zlt_nI, zeq_nI, zle_0, zeq_0, zlt_0, zeq_m, zeq_1, zge_0, zbt0, zbt1, zB_0, zB_1, zB_b, zbool_0, zbool_1, ↓reduceIte, hp]
  by_cases hp2 : 1000 < p
  · refine same ?_ ?_
    · simp (disch := (first | omega | assumption)) only [f_W_later, zg_11, gi_3, si_3, gp_11_14, gt1000, zbs, nI_add, pk_mul, znI_add1, znI_sub1, znI_subm, zle_nI, zlt_nI, zeq_nI, zle_0, zeq_0, zlt_0, zeq_m, zeq_1, zge_0, zbt0, zbt1, zB_0, zB_1, zB_b, zbool_0, zbool_1, ↓reduceIte, hp, hp2]
    · simp (disch := (first | omega | assumption)) only [f_M_later, zg_12, gi_12, si_12, gt1000, zbs, nI_add, pk_mul, znI_add1, znI_sub1, znI_subm, zle_nI, zlt_nI, zeq_nI, zle_0, zeq_0, zlt_0, zeq_m, zeq_1, zge_0, zbt0, zbt1, zB_0, zB_1, zB_b, zbool_0, zbool_1, ↓reduceIte, hp, hp2]
  obtain ⟨k, hk, rfl⟩ : ∃ k, k < 1001 ∧ p = nI k := by
    rcases pk_ix p (show 1001 < 2 ^ 31 by decide) with h0 | h0 | h0
    · exact absurd h0 hp
    · exfalso
      apply hp2
      have h0 : nI 1001 ≤ p := h0
      rw [show (1000 : Int32) = nI 1000 from rfl, Int32.lt_iff_toInt_lt]
      rw [Int32.le_iff_toInt_le] at h0
      rw [nI_toInt (by decide)] at h0 ⊢
      omega
    · exact h0
  have hc : (nI (tm + k) ≤ 100000) = (tm + k ≤ 100000) := zle_nI (b := 100000) (by omega) (by decide)
  by_cases hle : tm + k ≤ 100000
  · have t1' : zup I 68 1 (nI (tm + k)) 68 1 = nI (tm + k) := zup_s _ _ _ _
    have t2' : zup I 68 1 (nI (tm + k)) 91 79 = nI tm := by rw [zup_ne _ _ _ (by decide)]; exact t2
    have t3' : zup (zup I 68 1 (nI (tm + k))) 91 79 (nI (tm + k)) 91 79 = nI (tm + k) := zup_s _ _ _ _
    have hfr : zfr zSq I (zup (zup I 68 1 (nI (tm + k))) 91 79 (nI (tm + k))) := zfr_up (zfr_up (zfr_refl _ _) rfl) rfl
    have hr : ∀ a, a ≠ 68 → a ≠ 91 → zup (zup I 68 1 (nI (tm + k))) 91 79 (nI (tm + k)) a = I a := fun a h1 h2 => (zup_ne _ _ _ h2).trans (zup_ne _ _ _ h1)
    have h91 : ∀ j, j ≠ 79 → zup (zup I 68 1 (nI (tm + k))) 91 79 (nI (tm + k)) 91 j = I 91 j := fun j hj => (zup_k _ _ hj).trans (by rw [zup_ne _ _ _ (by decide)])
    refine ⟨nI (tm + k), (zs (zup I 68 1 (nI (tm + k))) J (zPt t u i f s x)), (zs (zup (zup I 68 1 (nI (tm + k))) 91 79 (nI (tm + k))) J (zPt t u i f s x)), ?_, ?_, zIs_mk (zIv_frq h hfr (zTp_rows h.2.2.2.1 (hr 1 (by decide) (by decide)) (hr 92 (by decide) (by decide)) (by rw [hr 0 (by decide) (by decide)]) (h91 1 (by decide))) (zLf_rows h.2.2.2.2.2.2.2.2.1 (by rw [hr 0 (by decide) (by decide)]) (h91 71 (by decide)) (hr 74 (by decide) (by decide)) (hr 124 (by decide) (by decide))) (zLy_rows h.2.2.2.2.2.2.2.2.2.1 (by rw [hr 0 (by decide) (by decide)]) (h91 59 (by decide)) (hr 75 (by decide) (by decide)) (hr 117 (by decide) (by decide))) ⟨nl, tm + k, ?_⟩)⟩
    · show f_W_later _ _ _ = _
      simp (disch := (first | omega | assumption)) only [f_W_later, zg_11, gi_3, si_3, gp_11_14, gt1000, zbs, nI_add, pk_mul, znI_add1, znI_sub1, znI_subm, zle_nI, zlt_nI, zeq_nI, zle_0, zeq_0, zlt_0, zeq_m, zeq_1, zge_0, zbt0, zbt1, zB_0, zB_1, zB_b, zbool_0, zbool_1, ↓reduceIte, hp, hp2, t1, hc, hle, t1']
    · show f_M_later _ _ _ = _
      simp (disch := (first | omega | assumption)) only [f_M_later, zg_12, gi_12, si_12, gt1000, zbs, nI_add, pk_mul, znI_add1, znI_sub1, znI_subm, zle_nI, zlt_nI, zeq_nI, zle_0, zeq_0, zlt_0, zeq_m, zeq_1, zge_0, zbt0, zbt1, zB_0, zB_1, zB_b, zbool_0, zbool_1, ↓reduceIte, hp, hp2, t2', hc, hle, t3']
    · unfold zLk
      rw [h91 78 (by decide), hr 69 (by decide) (by decide), hr 70 (by decide) (by decide), hr 71 (by decide) (by decide), hr 72 (by decide) (by decide), hr 73 (by decide) (by decide), hr 126 (by decide) (by decide), hr 127 (by decide) (by decide), hr 128 (by decide) (by decide), hr 129 (by decide) (by decide), hr 130 (by decide) (by decide)]
      refine ⟨⟨?_, k1.2⟩, ⟨?_, t3', hle⟩, k3⟩
      · rw [zup_ne _ _ _ (by decide), zup_k _ _ (by decide)]; exact k1.1
      · rw [zup_ne _ _ _ (by decide), zup_s]
  · refine same ?_ ?_
    · simp (disch := (first | omega | assumption)) only [f_W_later, zg_11, gi_3, si_3, gp_11_14, gt1000, zbs, nI_add, pk_mul, znI_add1, znI_sub1, znI_subm, zle_nI, zlt_nI, zeq_nI, zle_0, zeq_0, zlt_0, zeq_m, zeq_1, zge_0, zbt0, zbt1, zB_0, zB_1, zB_b, zbool_0, zbool_1, ↓reduceIte, hp, hp2, t1, hc, hle]
    · simp (disch := (first | omega | assumption)) only [f_M_later, zg_12, gi_12, si_12, gt1000, zbs, nI_add, pk_mul, znI_add1, znI_sub1, znI_subm, zle_nI, zlt_nI, zeq_nI, zle_0, zeq_0, zlt_0, zeq_m, zeq_1, zge_0, zbt0, zbt1, zB_0, zB_1, zB_b, zbool_0, zbool_1, ↓reduceIte, hp, hp2, t2, hc, hle]
end ZSm
