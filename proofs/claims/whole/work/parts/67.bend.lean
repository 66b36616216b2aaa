/-! reading bends wants -/
def zclamp (v : Int32) : Int32 := if -9 ≤ v then (if v ≤ 9 then v else 9) else -9
theorem zclamp_x (v : Int32) : zmax (-9) (zmin 9 v) = zclamp v := by
  unfold zmax zmin zclamp
  have h9 : (9 : Int32).toInt = 9 := by decide
  have hm9 : (-9 : Int32).toInt = -9 := by decide
  by_cases h1 : v < 9
  · rw [if_pos h1]
    rw [Int32.lt_iff_toInt_lt, h9] at h1
    by_cases h2 : -9 < v
    · rw [if_pos h2]
      rw [Int32.lt_iff_toInt_lt, hm9] at h2
      rw [if_pos (by rw [Int32.le_iff_toInt_le, hm9]; omega), if_pos (by rw [Int32.le_iff_toInt_le, h9]; omega)]
    · rw [if_neg h2]
      rw [Int32.lt_iff_toInt_lt, hm9] at h2
      by_cases h3 : -9 ≤ v
      · rw [if_pos h3]
        rw [Int32.le_iff_toInt_le, hm9] at h3
        rw [if_pos (by rw [Int32.le_iff_toInt_le, h9]; omega)]
        rw [← Int32.toInt_inj, hm9]
        omega
      · rw [if_neg h3]
  · rw [if_neg h1, if_pos (by decide)]
    rw [Int32.lt_iff_toInt_lt, h9] at h1
    rw [if_pos (by rw [Int32.le_iff_toInt_le, hm9]; omega)]
    by_cases h4 : v ≤ 9
    · rw [if_pos h4]
      rw [Int32.le_iff_toInt_le, h9] at h4
      rw [← Int32.toInt_inj, h9]
      omega
    · rw [if_neg h4]
theorem g_M_bounded (v : Int32) : f_M_bounded v = some (zclamp v) := by
  unfold f_M_bounded zclamp
  split
  · split <;> rfl
  · rfl
theorem zclamp_b (v : Int32) : -9 ≤ zclamp v ∧ zclamp v ≤ 9 := by
  unfold zclamp
  split
  · rename_i h
    split
    · rename_i h2
      exact ⟨h, h2⟩
    · decide
  · decide
theorem zclamp_id {v : Int32} (h : -9 ≤ v ∧ v ≤ 9) : zclamp v = v := by
  unfold zclamp
  rw [if_pos h.1, if_pos h.2]
def zwdb (old wt rd : Int32) : Nat → Int32 := fun j => if j = 2 then old else if j = 3 then wt else if j = 4 then rd else 0
theorem zev_old (wd : Nat → Int32) : zev wd [-3] = wd 2 := by
  unfold zev zevl zevl zstep
  rfl
/-- the row behind a reading of b by r -/
def zread (row wt : Nat → Int32) (nt : Nat) (BW : List Int32) (r b : Nat) : Nat → Int32 := fun j =>
  if j = 32 + 10 * r + b then row j + 1 else if 4 * r ≤ j ∧ j < 4 * r + nt then zclamp (zev (zwdb (row j) (wt (4 * b + (j - 4 * r))) (row (32 + 10 * r + b) + 1)) BW) else row j
section ZBe
variable {I : Nat → Nat → Int32} {J : Nat → Nat → Int64} {t u i f s x : Nat} {nt nb nr q sh md om im N : Nat} {LW BW : List Int32}
theorem zread_nb {row wt : Nat → Int32} {r b : Nat} (hnt : nt ≤ 4) (hr : r < 6) (hb : b < 10) (h : zNb row nt nb nr) : zNb (zread row wt nt BW r b) nt nb nr := by
  obtain ⟨h1, h2, h3, h4⟩ := h
  refine ⟨fun k hk => ?_, fun k hk => ?_, ?_, ?_⟩
  · unfold zread
    rw [if_neg (by omega)]
    split
    · exact zclamp_b _
    · exact h1 k hk
  · have : zread row wt nt BW r b (24 + k) = row (24 + k) := by
      unfold zread
      rw [if_neg (by omega), if_neg (by omega)]
    rw [this]
    exact h2 k hk
  · have : zread row wt nt BW r b 30 = row 30 := by
      unfold zread
      rw [if_neg (by omega), if_neg (by omega)]
    rw [this]
    exact h3
  · have : zread row wt nt BW r b 31 = row 31 := by
      unfold zread
      rw [if_neg (by omega), if_neg (by omega)]
    rw [this]
    exact h4
theorem x_bend (ht : t = 2 ∨ t = 13) (hN : N = 30 ∨ N = 35 ∨ N = 76 ∨ N = 81 ∨ N = 86) (h0 : I t 0 = nI nt) (hnt : nt ≤ 4) (hBd : zBd I t BW) (wt row : Nat → Int32) {r b : Nat} (hr : r < 6) (hb : b < 10) (hw : ∀ k, k < nt → I (t + 1) (4 * b + k) = wt (4 * b + k)) (hNow : zNow I N row) :
    ∃ I', f_N_bendBy (zs I J (zPt t u i f s x)) N t (nI r) (nI b) = some (zs I' J (zPt t u i f s x)) ∧ zfr (fun a k => a == N + 1 || a == N + 3 || a == N + 4 || a == t + 10) I I' ∧ zNow I' N (zread row wt nt BW r b) := by
  obtain ⟨n1, n2, n3, n4, n5⟩ := hNow
  obtain ⟨hv, hlen, h8, h9, -⟩ := hBd
  have hL : zLAY[N + 4]? = some (1, 6) := by rcases hN with rfl | rfl | rfl | rfl | rfl <;> rfl
  have hP0 : zPt t u i f s x (t + 8) 0 = some (t + 8 + 1) := by rcases ht with rfl | rfl <;> rfl
  have hP1 : zPt t u i f s x (t + 8) 1 = some (t + 8 + 2) := by rcases ht with rfl | rfl <;> rfl
  have hF : zLAY[t + 8]? = some (0, 2) := by rcases ht with rfl | rfl <;> rfl
  have hMk : zLAY[t + 8 + 1]? = some (1, 270) := by rcases ht with rfl | rfl <;> rfl
  have hTk : zLAY[t + 8 + 2]? = some (1, 30) := by rcases ht with rfl | rfl <;> rfl
  obtain ⟨I0, e0, e1, e2⟩ := g_J_fill (I := zup I (N + 3) (10 * r + b) (I (N + 3) (10 * r + b) + 1)) (J := J) (P := zPt t u i f s x) hL (by decide) 0
  have hrd : I (N + 3) (10 * r + b) = row (32 + 10 * r + b) := by rw [n5 (10 * r + b) (by omega), Nat.add_assoc]
  -- the state ahead of the loop
  have F0 : zfr (fun a k => a == N + 1 || a == N + 3 || a == N + 4 || a == t + 10) I (zup I0 (N + 4) 4 (row (32 + 10 * r + b) + 1)) := by
    refine zfr_up (zfr_trans (zfr_up (zfr_refl _ _) (by simp)) (zfr_mono e1 (fun a k h => ?_))) (by simp)
    have : a = N + 4 := by simpa [zSl] using h
    simp [this]
  have R : ∀ I', zfr (fun a k => a == N + 1 || a == N + 3 || a == N + 4 || a == t + 10) I I' → ∀ a, a ≠ N + 1 → a ≠ N + 3 → a ≠ N + 4 → a ≠ t + 10 → I' a = I a := fun I' h a h1 h2 h3 h4 => zfr_row h a (fun k => by simp [h1, h2, h3, h4])
  obtain ⟨I', ⟨a1, a2, a4, a5, a6⟩, a3⟩ := zfor (fun fuel I' k => f_N_bendBy_47L fuel (zs I' J (zPt t u i f s x)) N t (nI r) (nI b) (nI k)) nt
    (fun k I' => zfr (fun a k => a == N + 1 || a == N + 3 || a == N + 4 || a == t + 10) I I' ∧ (∀ j, j < 24 → I' (N + 1) j = if 4 * r ≤ j ∧ j < 4 * r + k then zclamp (zev (zwdb (row j) (wt (4 * b + (j - 4 * r))) (row (32 + 10 * r + b) + 1)) BW) else row j) ∧ (∀ j, j < 60 → I' (N + 3) j = if j = 10 * r + b then row (32 + j) + 1 else row (32 + j)) ∧ (I' (N + 4) 4 = row (32 + 10 * r + b) + 1) ∧ (I' (N + 4) 0 = 0 ∧ I' (N + 4) 1 = 0 ∧ I' (N + 4) 5 = 0))
    (fun I' => some (zs I' J (zPt t u i f s x)))
    (fun m k I' hk hi => by
      obtain ⟨i1, i2, i3, i4, i5, i6, i7⟩ := hi
      have hle : ¬ nt ≤ k := by omega
      have R1 := R I' i1
      have m0 : I' t 0 = nI nt := by rw [R1 t (by omega) (by omega) (by omega) (by omega)]; exact h0
      have w1 : I' (t + 1) (4 * b + k) = wt (4 * b + k) := by rw [R1 (t + 1) (by omega) (by omega) (by omega) (by omega)]; exact hw k hk
      have old : I' (N + 1) (4 * r + k) = row (4 * r + k) := by rw [i2 _ (by omega), if_neg (by omega)]
      have hI2 : ∀ v, zup I' (N + 4) 2 v (t + 1) = I' (t + 1) := fun v => zup_ne _ _ _ (by omega)
      obtain ⟨row', hval⟩ := g_F_value (I := zup (zup I' (N + 4) 2 (row (4 * r + k))) (N + 4) 3 (wt (4 * b + k))) (J := J) (P := zPt t u i f s x) (F := t + 8) (wa := N + 4) hF hMk hTk hL hP0 hP1 (by omega) (LW := BW) (by
          rw [zup_ne _ _ _ (by omega), zup_ne _ _ _ (by omega), R1 (t + 8) (by omega) (by omega) (by omega) (by omega)]; exact h8) hlen (by
          rw [zup_ne _ _ _ (by omega), zup_ne _ _ _ (by omega), R1 (t + 8 + 1) (by omega) (by omega) (by omega) (by omega)]; exact h9) hv
      have hwv : zev ((zup (zup I' (N + 4) 2 (row (4 * r + k))) (N + 4) 3 (wt (4 * b + k))) (N + 4)) BW = zev (zwdb (row (4 * r + k)) (wt (4 * b + k)) (row (32 + 10 * r + b) + 1)) BW := by
        refine zev_congr (fun j hj => ?_) BW
        simp only [zup_at]
        unfold zwdb
        have : j = 0 ∨ j = 1 ∨ j = 2 ∨ j = 3 ∨ j = 4 ∨ j = 5 := by omega
        rcases this with rfl | rfl | rfl | rfl | rfl | rfl
        · simp [i5]
        · simp [i6]
        · rfl
        · rfl
        · simp [i4]
        · simp [i7]
      rw [hwv] at hval
      refine ⟨zup (zro (zup (zup I' (N + 4) 2 (row (4 * r + k))) (N + 4) 3 (wt (4 * b + k))) (t + 8 + 2) row') (N + 1) (4 * r + k) (zclamp (zev (zwdb (row (4 * r + k)) (wt (4 * b + k)) (row (32 + 10 * r + b) + 1)) BW)), ⟨?_, fun j hj => ?_, fun j hj => ?_, ?_, ?_, ?_, ?_⟩, ?_⟩
      · refine zfr_up (zfr_ro (zfr_up (zfr_up i1 ?_) ?_) (fun _ => ?_)) ?_ <;> simp
      · by_cases hjk : j = 4 * r + k
        · subst hjk
          rw [zup_s, if_pos (by omega), Nat.add_sub_cancel_left]
        · rw [zup_k _ _ hjk, zro_ne _ _ (by omega), zup_ne _ _ _ (by omega), zup_ne _ _ _ (by omega), i2 j hj]
          by_cases hc : 4 * r ≤ j ∧ j < 4 * r + k
          · rw [if_pos hc, if_pos (by omega)]
          · rw [if_neg hc, if_neg (by omega)]
      · rw [zup_ne _ _ _ (by omega), zro_ne _ _ (by omega), zup_ne _ _ _ (by omega), zup_ne _ _ _ (by omega)]
        exact i3 j hj
      · rw [zup_ne _ _ _ (by omega), zro_ne _ _ (by omega), zup_k _ _ (by decide), zup_k _ _ (by decide)]; exact i4
      · rw [zup_ne _ _ _ (by omega), zro_ne _ _ (by omega), zup_k _ _ (by decide), zup_k _ _ (by decide)]; exact i5
      · rw [zup_ne _ _ _ (by omega), zro_ne _ _ (by omega), zup_k _ _ (by decide), zup_k _ _ (by decide)]; exact i6
      · rw [zup_ne _ _ _ (by omega), zro_ne _ _ (by omega), zup_k _ _ (by decide), zup_k _ _ (by decide)]; exact i7
      · show f_N_bendBy_47L (m + 1) _ _ _ _ _ _ = _
        rw [f_N_bendBy_47L]
        simp (disch := (first | omega | assumption)) only [f_N_bendBy_47, gi_10, gp_4_6, gp_4_0, gp_10_7, gp_10_12, ai_4_0, wl_4_6_2, ai_10_7, wl_4_6_3, wi_4_0, mr4, zbs, nI_add, pk_mul, znI_add1, znI_sub1, znI_subm, zle_nI, zlt_nI, zeq_nI, zle_0, zeq_0, zlt_0, zeq_m, zeq_1, zge_0, zbt0, zbt1, zB_0, zB_1, zB_b, zbool_0, zbool_1, ↓reduceIte, m0, hle, old, hI2, w1, hval, zclamp_x])
    (fun m I' hi => by
      have m0 : I' t 0 = nI nt := by rw [R I' hi.1 t (by omega) (by omega) (by omega) (by omega)]; exact h0
      show f_N_bendBy_47L (m + 1) _ _ _ _ _ _ = _
      rw [f_N_bendBy_47L]
      simp (disch := (first | omega | assumption)) only [f_N_bendBy_47, gi_10, gp_4_6, gp_4_0, gp_10_7, gp_10_12, ai_4_0, wl_4_6_2, ai_10_7, wl_4_6_3, wi_4_0, mr4, zbs, nI_add, pk_mul, znI_add1, znI_sub1, znI_subm, zle_nI, zlt_nI, zeq_nI, zle_0, zeq_0, zlt_0, zeq_m, zeq_1, zge_0, zbt0, zbt1, zB_0, zB_1, zB_b, zbool_0, zbool_1, ↓reduceIte, m0, Nat.le_refl]) nt 0 (zup I0 (N + 4) 4 (row (32 + 10 * r + b) + 1)) zfu (by omega) ⟨F0, fun j hj => by
        rw [if_neg (by omega), zup_ne _ _ _ (by omega), zfr_sl e1 (N + 1) (by simp), zup_ne _ _ _ (by omega)]
        exact n1 j hj, fun j hj => by
        rw [zup_ne _ _ _ (by omega), zfr_sl e1 (N + 3) (by simp)]
        by_cases hjk : j = 10 * r + b
        · subst hjk
          rw [zup_s, if_pos rfl, n5 _ hj]
        · rw [zup_k _ _ hjk, if_neg hjk]
          exact n5 j hj, zup_s _ _ _ _, (by rw [zup_k _ _ (by decide)]; exact e2 0 (by decide)), (by rw [zup_k _ _ (by decide)]; exact e2 1 (by decide)), (by rw [zup_k _ _ (by decide)]; exact e2 5 (by decide))⟩ (zfu_lt (by omega))
  refine ⟨I', ?_, a1, fun k hk => ?_, fun k hk => ?_, ?_, ?_, fun k hk => ?_⟩
  · rw [hrd] at e0
    simp (disch := (first | omega | assumption)) only [f_N_bendBy, zg_4, gp_4_2, gp_4_6, ai_4_2, wi_4_2, wl_4_6_4, mr10, zbs, nI_add, pk_mul, znI_add1, znI_sub1, znI_subm, zle_nI, zlt_nI, zeq_nI, zle_0, zeq_0, zlt_0, zeq_m, zeq_1, zge_0, zbt0, zbt1, zB_0, zB_1, zB_b, zbool_0, zbool_1, ↓reduceIte, hrd, e0]
    exact a3
  · rw [a2 k hk]
    unfold zread
    rw [if_neg (show ¬ k = 32 + 10 * r + b by omega)]
  · rw [R I' a1 (N + 2) (by omega) (by omega) (by omega) (by omega), n2 k hk]
    unfold zread
    rw [if_neg (by omega), if_neg (by omega)]
  · rw [R I' a1 N (by omega) (by omega) (by omega) (by omega), n3]
    unfold zread
    rw [if_neg (by omega), if_neg (by omega)]
  · rw [R I' a1 N (by omega) (by omega) (by omega) (by omega), n4]
    unfold zread
    rw [if_neg (by omega), if_neg (by omega)]
  · rw [a4 k hk]
    unfold zread
    by_cases hk2 : k = 10 * r + b
    · rw [if_pos hk2, if_pos (by omega)]
    · rw [if_neg hk2, if_neg (by omega), if_neg (by omega)]
/-- the bend as the reference has it -/
def zBm (I : Nat → Nat → Int32) (BW : List Int32) : Prop := zval BW 0 ∧ BW.length ≤ 270 ∧ ((I 91 48 = 0 ∧ BW = [-3]) ∨ (I 91 48 = 1 ∧ I 99 1 = nI BW.length ∧ ∀ k, k < BW.length → ∃ m, BW[k]? = some m ∧ zenc (I 97 (320 + k)) (I 98 (320 + k)) m))
theorem zBd_m (h : zBd I t BW) : zBm I BW := ⟨h.1, h.2.1, h.2.2.2.2⟩
theorem m_reads (h41 : I 91 41 = nI nt) (hnt : nt ≤ 4) (hBm : zBm I BW) {r b : Nat} (hr : r < 6) (hb : b < 10) (hbd : ∀ k, k < 24 → -9 ≤ I 111 k ∧ I 111 k ≤ 9) :
    ∃ I', f_M_reads (zs I J (zPt t u i f s x)) 91 (nI r) (nI b) = some (zs I' J (zPt t u i f s x)) ∧ zfr (zSl [101, 102, 111]) I I' ∧ I' 111 = zread (I 111) (I 107) nt BW r b := by
  obtain ⟨hv, hlen, hcase⟩ := hBm
  have start : ∀ {Q : zSt → Prop}, (∃ I', f_M_reads_20L zfu (zs (zup I 111 (32 + 10 * r + b) (I 111 (32 + 10 * r + b) + 1)) J (zPt t u i f s x)) 91 (nI r) (nI b) 0 = some (zs I' J (zPt t u i f s x)) ∧ zfr (zSl [101, 102, 111]) I I' ∧ I' 111 = zread (I 111) (I 107) nt BW r b) → ∃ I', f_M_reads (zs I J (zPt t u i f s x)) 91 (nI r) (nI b) = some (zs I' J (zPt t u i f s x)) ∧ zfr (zSl [101, 102, 111]) I I' ∧ I' 111 = zread (I 111) (I 107) nt BW r b := by
    intro _ ⟨I', h1, h2, h3⟩
    refine ⟨I', ?_, h2, h3⟩
    simp (disch := (first | omega | assumption)) only [f_M_reads, zg_12, gp_12_49, ai_111, wi_111, ml10, al32, zbs, nI_add, pk_mul, znI_add1, znI_sub1, znI_subm, zle_nI, zlt_nI, zeq_nI, zle_0, zeq_0, zlt_0, zeq_m, zeq_1, zge_0, zbt0, zbt1, zB_0, zB_1, zB_b, zbool_0, zbool_1, ↓reduceIte]
    exact h1
  refine start (Q := fun _ => True) ?_
  have e91 : zup I 111 (32 + 10 * r + b) (I 111 (32 + 10 * r + b) + 1) 91 = I 91 := zup_ne _ _ _ (by decide)
  rcases hcase with ⟨h48, hBW⟩ | ⟨h48, h99, henc⟩
  · refine ⟨zup I 111 (32 + 10 * r + b) (I 111 (32 + 10 * r + b) + 1), ?_, zfr_up (zfr_refl _ _) rfl, ?_⟩
    · obtain ⟨m, hm⟩ : ∃ m, zfu = m + 1 := ⟨3999, rfl⟩
      rw [hm, f_M_reads_20L]
      by_cases hn : nt = 0
      · simp (disch := (first | omega | assumption)) only [f_M_reads_20, gi_12, zbs, nI_add, pk_mul, znI_add1, znI_sub1, znI_subm, zle_nI, zlt_nI, zeq_nI, zle_0, zeq_0, zlt_0, zeq_m, zeq_1, zge_0, zbt0, zbt1, zB_0, zB_1, zB_b, zbool_0, zbool_1, ↓reduceIte, e91, h41, hn, zle_0, nI_0, Int32.le_refl]
      · have hn2 : ¬ nt ≤ 0 := by omega
        have : ¬ nI nt ≤ 0 := nI_nle (by omega) (by omega)
        simp (disch := (first | omega | assumption)) only [f_M_reads_20, gi_12, zbs, e91, h41, h48, this, ↓reduceIte]
    · funext j
      unfold zread
      rw [hBW, zup_at]
      by_cases h1 : j = 32 + 10 * r + b
      · rw [if_pos h1, if_pos h1, h1]
      · rw [if_neg h1, if_neg h1]
        split
        · rename_i hc
          rw [zev_old]
          show I 111 j = zclamp (I 111 j)
          rw [zclamp_id (hbd j (by omega))]
        · rfl
  · have n10 : ¬ (1 : Int32) = 0 := by decide
    have R : ∀ I', zfr (zSl [101, 102, 111]) I I' → ∀ a, [101, 102, 111].contains a = false → I' a = I a := fun I' h a ha => zfr_sl h a ha
    obtain ⟨I', ⟨a1, a2⟩, a3⟩ := zfor (fun fuel I' k => f_M_reads_20L fuel (zs I' J (zPt t u i f s x)) 91 (nI r) (nI b) (nI k)) nt
      (fun k I' => zfr (zSl [101, 102, 111]) I I' ∧ ∀ j, I' 111 j = if j = 32 + 10 * r + b then I 111 j + 1 else if 4 * r ≤ j ∧ j < 4 * r + k then zclamp (zev (zwdb (I 111 j) (I 107 (4 * b + (j - 4 * r))) (I 111 (32 + 10 * r + b) + 1)) BW) else I 111 j)
      (fun I' => some (zs I' J (zPt t u i f s x)))
      (fun m k I' hk hi => by
        obtain ⟨i1, i2⟩ := hi
        have hle : ¬ nt ≤ k := by omega
        have r91 : I' 91 = I 91 := R I' i1 91 rfl
        obtain ⟨I1, ⟨z1, z2⟩, z3⟩ := zfor (fun fuel I1 j => f_M_reads_38L (f_M_reads_20L m) fuel (zs I1 J (zPt t u i f s x)) 91 (nI r) (nI b) (nI k) (nI j)) 6 (fun j I1 => zfr (zSl [102]) I' I1 ∧ ∀ l, l < j → I1 102 l = 0) (fun I1 => f_M_reads_59 (f_M_reads_20L m) (zs I1 J (zPt t u i f s x)) 91 (nI r) (nI b) (nI k))
          (fun m' j I1 hj hi2 => by
            have hle2 : ¬ 6 ≤ j := by omega
            refine ⟨zup I1 102 j 0, ⟨zfr_up hi2.1 rfl, fun l hl => ?_⟩, ?_⟩
            · by_cases hlj : l = j
              · subst hlj; exact zup_s _ _ _ _
              · rw [zup_k _ _ hlj]; exact hi2.2 l (by omega)
            · show f_M_reads_38L _ (m' + 1) _ _ _ _ _ _ = _
              rw [f_M_reads_38L]
              simp (disch := (first | omega | assumption)) only [f_M_reads_38, gp_12_25, wi_102, ge6, zbs, nI_add, pk_mul, znI_add1, znI_sub1, znI_subm, zle_nI, zlt_nI, zeq_nI, zle_0, zeq_0, zlt_0, zeq_m, zeq_1, zge_0, zbt0, zbt1, zB_0, zB_1, zB_b, zbool_0, zbool_1, ↓reduceIte, hle2])
          (fun m' I1 hi2 => by
            show f_M_reads_38L _ (m' + 1) _ _ _ _ _ _ = _
            rw [f_M_reads_38L]
            simp (disch := (first | omega | assumption)) only [f_M_reads_38, gp_12_25, wi_102, ge6, zbs, nI_add, pk_mul, znI_add1, znI_sub1, znI_subm, zle_nI, zlt_nI, zeq_nI, zle_0, zeq_0, zlt_0, zeq_m, zeq_1, zge_0, zbt0, zbt1, zB_0, zB_1, zB_b, zbool_0, zbool_1, ↓reduceIte, Nat.le_refl]) 6 0 I' zfu (by omega) ⟨zfr_refl _ _, fun l hl => by omega⟩ (zfu_lt (by decide))
        have q111 : I1 111 = I' 111 := zfr_sl z1 111 rfl
        have q107 : I1 107 = I 107 := by rw [zfr_sl z1 107 rfl, R I' i1 107 rfl]
        have old : I1 111 (4 * r + k) = I 111 (4 * r + k) := by rw [q111, i2, if_neg (by omega), if_neg (by omega)]
        have rd : I1 111 (32 + 10 * r + b) = I 111 (32 + 10 * r + b) + 1 := by rw [q111, i2, if_pos rfl]
        generalize hX : zup (zup (zup I1 102 2 (I 111 (4 * r + k))) 102 3 (I 107 (4 * b + k))) 102 4 (I 111 (32 + 10 * r + b) + 1) = X
        have xr : ∀ a, a ≠ 102 → X a = I1 a := fun a ha => by rw [← hX, zup_ne _ _ _ ha, zup_ne _ _ _ ha, zup_ne _ _ _ ha]
        obtain ⟨row', hwk⟩ := g_M_worked (I := X) (J := J) (t := t) (u := u) (i := i) (f := f) (s := s) (x := x) (w := 1) (LW := BW) (by decide) (by rw [xr 99 (by decide), zfr_sl z1 99 rfl, R I' i1 99 rfl]; exact h99) (by omega) (fun k hk => by
          obtain ⟨m, h1, h2⟩ := henc k hk
          refine ⟨m, h1, ?_⟩
          rw [xr 97 (by decide), xr 98 (by decide), zfr_sl z1 97 rfl, zfr_sl z1 98 rfl, R I' i1 97 rfl, R I' i1 98 rfl]
          exact h2) hv
        have hwv : zev (X 102) BW = zev (zwdb (I 111 (4 * r + k)) (I 107 (4 * b + k)) (I 111 (32 + 10 * r + b) + 1)) BW := by
          refine zev_congr (fun j hj => ?_) BW
          rw [← hX]
          simp only [zup_at]
          unfold zwdb
          have : j = 0 ∨ j = 1 ∨ j = 2 ∨ j = 3 ∨ j = 4 ∨ j = 5 := by omega
          rcases this with rfl | rfl | rfl | rfl | rfl | rfl
          · simp [z2 0]
          · simp [z2 1]
          · rfl
          · rfl
          · rfl
          · simp [z2 5]
        rw [hwv] at hwk
        have hwk : f_M_worked (zs X J (zPt t u i f s x)) 91 1 = _ := hwk
        have hro : ∀ I2 : Nat → Nat → Int32, f_M_readsOf (zs I2 J (zPt t u i f s x)) 91 (nI r) (nI b) = some (I2 111 (32 + 10 * r + b)) := fun I2 => g_M_readsOf hr hb
        refine ⟨zup (zro X 101 row') 111 (4 * r + k) (zclamp (zev (zwdb (I 111 (4 * r + k)) (I 107 (4 * b + k)) (I 111 (32 + 10 * r + b) + 1)) BW)), ⟨?_, fun j => ?_⟩, ?_⟩
        · refine zfr_up (zfr_ro ?_ (fun _ => rfl)) rfl
          rw [← hX]
          exact zfr_up (zfr_up (zfr_up (zfr_trans i1 (zfr_slm z1 rfl)) rfl) rfl) rfl
        · by_cases hj : j = 4 * r + k
          · subst hj
            rw [zup_s, if_neg (by omega), if_pos (by omega), Nat.add_sub_cancel_left]
          · rw [zup_k _ _ hj, zro_ne _ _ (by decide), xr 111 (by decide), q111, i2]
            by_cases h1 : j = 32 + 10 * r + b
            · rw [if_pos h1, if_pos h1]
            · rw [if_neg h1, if_neg h1]
              by_cases hc : 4 * r ≤ j ∧ j < 4 * r + k
              · rw [if_pos hc, if_pos (by omega)]
              · rw [if_neg hc, if_neg (by omega)]
        · show f_M_reads_20L (m + 1) _ _ _ _ _ = _
          rw [f_M_reads_20L]
          simp (disch := (first | omega | assumption)) only [f_M_reads_20, gi_12, zbs, nI_add, pk_mul, znI_add1, znI_sub1, znI_subm, zle_nI, zlt_nI, zeq_nI, zle_0, zeq_0, zlt_0, zeq_m, zeq_1, zge_0, zbt0, zbt1, zB_0, zB_1, zB_b, zbool_0, zbool_1, ↓reduceIte, r91, h41, hle, h48, n10]
          refine Eq.trans z3 ?_
          simp (disch := (first | omega | assumption)) only [f_M_reads_59, gp_12_25, gp_12_49, gp_12_30, ai_111, wl_102_2, ai_107, wl_102_3, wl_102_4, wi_111, ml4, zbs, nI_add, pk_mul, znI_add1, znI_sub1, znI_subm, zle_nI, zlt_nI, zeq_nI, zle_0, zeq_0, zlt_0, zeq_m, zeq_1, zge_0, zbt0, zbt1, zB_0, zB_1, zB_b, zbool_0, zbool_1, ↓reduceIte, old, q107, zup_ne, hro, rd, hX, hwk, g_M_bounded])
      (fun m I' hi => by
        have r91 : I' 91 = I 91 := R I' hi.1 91 rfl
        show f_M_reads_20L (m + 1) _ _ _ _ _ = _
        rw [f_M_reads_20L]
        simp (disch := (first | omega | assumption)) only [f_M_reads_20, gi_12, zbs, nI_add, pk_mul, znI_add1, znI_sub1, znI_subm, zle_nI, zlt_nI, zeq_nI, zle_0, zeq_0, zlt_0, zeq_m, zeq_1, zge_0, zbt0, zbt1, zB_0, zB_1, zB_b, zbool_0, zbool_1, ↓reduceIte, r91, h41, Nat.le_refl]) nt 0 (zup I 111 (32 + 10 * r + b) (I 111 (32 + 10 * r + b) + 1)) zfu (by omega) ⟨zfr_up (zfr_refl _ _) rfl, fun j => by
          rw [zup_at]
          by_cases h1 : j = 32 + 10 * r + b
          · rw [if_pos h1, if_pos h1, h1]
          · rw [if_neg h1, if_neg h1, if_neg (by omega)]⟩ (zfu_lt (by omega))
    exact ⟨I', a3, a1, funext fun j => a2 j⟩
end ZBe
