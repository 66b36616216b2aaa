/-! the reference's keys -/
section ZMk
variable {I : Nat → Nat → Int32} {J : Nat → Nat → Int64} {t u i f s x : Nat}
theorem g_M_w_nil {w n j m : Nat} {row : Nat → Int32} {v2 : Int32} (hw : w < 2) (hn : I 99 w = nI n) (hlen : n ≤ 300) (hle : 320 * w + n ≤ j) (hj : j ≤ 640) :
    f_M_worked_8L (m + 1) (zs (zro I 101 row) J (zPt t u i f s x)) 91 (nI w) v2 (nI j) = some (row 0, (zs (zro I 101 row) J (zPt t u i f s x))) := by
  have r99 : ∀ row, zro I 101 row 99 = I 99 := fun row => zro_ne I row (by decide)
  have r101 : ∀ row, zro I 101 row 101 = row := fun row => zro_self I 101 row
  rw [f_M_worked_8L]
  simp (disch := (first | omega | assumption)) only [f_M_worked_8, gp_12_16, gp_12_18, gp_12_14, gp_12_15, ai_99, al_101_0, ai_97, ai_101, ai_98, wi_101, eq2, ml320, zbs, nI_add, pk_mul, znI_add1, znI_sub1, znI_subm, zle_nI, zlt_nI, zeq_nI, zle_0, zeq_0, zlt_0, zeq_m, zeq_1, zge_0, zbt0, zbt1, zB_0, zB_1, zB_b, zbool_0, zbool_1, ↓reduceIte, r99, r101, hn, hle]
theorem g_M_w_push {w n j m d : Nat} {row : Nat → Int32} (hw : w < 2) (hn : I 99 w = nI n) (hlen : n ≤ 300) (hle : ¬ 320 * w + n ≤ j) (hj : j < 640) (hd : d < 64) (h1 : I 97 j = 0) :
    f_M_worked_8L (m + 1) (zs (zro I 101 row) J (zPt t u i f s x)) 91 (nI w) (nI d) (nI j) = f_M_worked_8L m (zs (zro I 101 (va_up row d (I 98 j))) J (zPt t u i f s x)) 91 (nI w) (nI (d + 1)) (nI (j + 1)) := by
  have r97 : ∀ row, zro I 101 row 97 = I 97 := fun row => zro_ne I row (by decide)
  have r98 : ∀ row, zro I 101 row 98 = I 98 := fun row => zro_ne I row (by decide)
  have r99 : ∀ row, zro I 101 row 99 = I 99 := fun row => zro_ne I row (by decide)
  rw [f_M_worked_8L]
  simp (disch := (first | omega | assumption)) only [f_M_worked_8, f_M_worked_43, gp_12_16, gp_12_18, gp_12_14, gp_12_15, ai_99, al_101_0, ai_97, ai_101, ai_98, wi_101, eq2, ml320, gp_12_25, ai_102, zbs, nI_add, pk_mul, znI_add1, znI_sub1, znI_subm, zle_nI, zlt_nI, zeq_nI, zle_0, zeq_0, zlt_0, zeq_m, zeq_1, zge_0, zbt0, zbt1, zB_0, zB_1, zB_b, zbool_0, zbool_1, ↓reduceIte, r99, r97, r98, hn, hle, h1, zup_zro]
theorem g_M_w_ask {w n j m d e : Nat} {row : Nat → Int32} (hw : w < 2) (hn : I 99 w = nI n) (hlen : n ≤ 300) (hle : ¬ 320 * w + n ≤ j) (hj : j < 640) (hd : d < 64) (he : e < 6) (h1 : I 97 j = 1) (h2 : I 98 j = nI e) :
    f_M_worked_8L (m + 1) (zs (zro I 101 row) J (zPt t u i f s x)) 91 (nI w) (nI d) (nI j) = f_M_worked_8L m (zs (zro I 101 (va_up row d (I 102 e))) J (zPt t u i f s x)) 91 (nI w) (nI (d + 1)) (nI (j + 1)) := by
  have r97 : ∀ row, zro I 101 row 97 = I 97 := fun row => zro_ne I row (by decide)
  have r98 : ∀ row, zro I 101 row 98 = I 98 := fun row => zro_ne I row (by decide)
  have r99 : ∀ row, zro I 101 row 99 = I 99 := fun row => zro_ne I row (by decide)
  have r102 : ∀ row, zro I 101 row 102 = I 102 := fun row => zro_ne I row (by decide)
  have n10 : ¬ (1 : Int32) = 0 := by decide
  rw [f_M_worked_8L]
  simp (disch := (first | omega | assumption)) only [f_M_worked_8, f_M_worked_43, gp_12_16, gp_12_18, gp_12_14, gp_12_15, ai_99, al_101_0, ai_97, ai_101, ai_98, wi_101, eq2, ml320, gp_12_25, ai_102, zbs, nI_add, pk_mul, znI_add1, znI_sub1, znI_subm, zle_nI, zlt_nI, zeq_nI, zle_0, zeq_0, zlt_0, zeq_m, zeq_1, zge_0, zbt0, zbt1, zB_0, zB_1, zB_b, zbool_0, zbool_1, ↓reduceIte, r99, r97, r98, r102, hn, hle, h1, h2, n10, zup_zro]
theorem g_M_w_not {w n j m d : Nat} {row : Nat → Int32} (hw : w < 2) (hn : I 99 w = nI n) (hlen : n ≤ 300) (hle : ¬ 320 * w + n ≤ j) (hj : j < 640) (hd : d < 60) (h1 : I 97 j = 2) :
    f_M_worked_8L (m + 1) (zs (zro I 101 row) J (zPt t u i f s x)) 91 (nI w) (nI (d + 1)) (nI j) = f_M_worked_8L m (zs (zro I 101 (va_up row d (ztr (decide (row d = 0))))) J (zPt t u i f s x)) 91 (nI w) (nI (d + 1)) (nI (j + 1)) := by
  have r97 : ∀ row, zro I 101 row 97 = I 97 := fun row => zro_ne I row (by decide)
  have r99 : ∀ row, zro I 101 row 99 = I 99 := fun row => zro_ne I row (by decide)
  have r101 : ∀ row, zro I 101 row 101 = row := fun row => zro_self I 101 row
  have n10 : ¬ (1 : Int32) = 0 := by decide
  have n20 : ¬ (2 : Int32) = 0 := by decide
  have n21 : ¬ (2 : Int32) = 1 := by decide
  rw [f_M_worked_8L]
  by_cases h0 : row d = 0
  · simp (disch := (first | omega | assumption)) only [f_M_worked_8, f_M_worked_117, gp_12_16, gp_12_18, gp_12_14, gp_12_15, ai_99, al_101_0, ai_97, ai_101, ai_98, wi_101, eq2, ml320, zbs, nI_add, pk_mul, znI_add1, znI_sub1, znI_subm, zle_nI, zlt_nI, zeq_nI, zle_0, zeq_0, zlt_0, zeq_m, zeq_1, zge_0, zbt0, zbt1, zB_0, zB_1, zB_b, zbool_0, zbool_1, ↓reduceIte, r99, r97, r101, hn, hle, h1, n20, n21, h0, g_M_truth, n10, wi_101, zup_zro]
    rfl
  · simp (disch := (first | omega | assumption)) only [f_M_worked_8, f_M_worked_117, gp_12_16, gp_12_18, gp_12_14, gp_12_15, ai_99, al_101_0, ai_97, ai_101, ai_98, wi_101, eq2, ml320, zbs, nI_add, pk_mul, znI_add1, znI_sub1, znI_subm, zle_nI, zlt_nI, zeq_nI, zle_0, zeq_0, zlt_0, zeq_m, zeq_1, zge_0, zbt0, zbt1, zB_0, zB_1, zB_b, zbool_0, zbool_1, ↓reduceIte, r99, r97, r101, hn, hle, h1, n20, n21, h0, g_M_truth, n10, wi_101, zup_zro]
    simp [ztr, h0]
theorem g_M_w_do {w n j k d : Nat} {row : Nat → Int32} {m : Int32} (hw : w < 2) (hn : I 99 w = nI n) (hlen : n ≤ 300) (hle : ¬ 320 * w + n ≤ j) (hj : j < 640) (hd : d < 60) (h1 : I 97 j = 3) (h2 : (I 98 j, m) ∈ zsg) :
    f_M_worked_8L (k + 1) (zs (zro I 101 row) J (zPt t u i f s x)) 91 (nI w) (nI (d + 1 + 1)) (nI j) = f_M_worked_8L k (zs (zro I 101 (va_up row d (zjn m (row d) (row (d + 1))))) J (zPt t u i f s x)) 91 (nI w) (nI (d + 1)) (nI (j + 1)) := by
  have r97 : ∀ row, zro I 101 row 97 = I 97 := fun row => zro_ne I row (by decide)
  have r98 : ∀ row, zro I 101 row 98 = I 98 := fun row => zro_ne I row (by decide)
  have r99 : ∀ row, zro I 101 row 99 = I 99 := fun row => zro_ne I row (by decide)
  have r101 : ∀ row, zro I 101 row 101 = row := fun row => zro_self I 101 row
  have n30 : ¬ (3 : Int32) = 0 := by decide
  have n31 : ¬ (3 : Int32) = 1 := by decide
  have n32 : ¬ (3 : Int32) = 2 := by decide
  rw [f_M_worked_8L]
  simp (disch := (first | omega | assumption)) only [f_M_worked_8, gp_12_16, gp_12_18, gp_12_14, gp_12_15, ai_99, al_101_0, ai_97, ai_101, ai_98, wi_101, eq2, ml320, zbs, nI_add, pk_mul, znI_add1, znI_sub1, znI_subm, zle_nI, zlt_nI, zeq_nI, zle_0, zeq_0, zlt_0, zeq_m, zeq_1, zge_0, zbt0, zbt1, zB_0, zB_1, zB_b, zbool_0, zbool_1, ↓reduceIte, r99, r97, r98, r101, hn, hle, h1, n30, n31, n32, g_M_done h2, zup_zro]
theorem g_M_loop {w n off : Nat} (hw : w < 2) (e0 : 320 * w = off) (hn : I 99 w = nI n) (hlen : n ≤ 300) {LW : List Int32} (hl0 : LW.length = n) (hm : ∀ k, k < n → ∃ m, LW[k]? = some m ∧ zenc (I 97 (off + k)) (I 98 (off + k)) m) :
    ∀ (ms st : List Int32) (row : Nat → Int32) (k fuel : Nat), LW.drop k = ms → k + ms.length = LW.length → zstk row st → zval ms st.length → st.length ≤ 30 → ms.length < fuel →
      ∃ row', f_M_worked_8L fuel (zs (zro I 101 row) J (zPt t u i f s x)) 91 (nI w) (nI st.length) (nI (off + k)) = some ((zevl (I 102) ms st).headD 0, (zs (zro I 101 row') J (zPt t u i f s x))) := by
  intro ms
  induction ms with
  | nil =>
    intro st row k fuel hd hkl hs hv hl hf
    obtain ⟨n', rfl⟩ : ∃ n, fuel = n + 1 := ⟨fuel - 1, by omega⟩
    simp only [List.length_nil, Nat.add_zero] at hkl
    have h1 : st.length = 1 := hv
    obtain ⟨a, rfl⟩ : ∃ a, st = [a] := by
      match st, h1 with
      | [a], _ => exact ⟨a, rfl⟩
    have ha : row 0 = a := (zstk_pop hs).2
    refine ⟨row, ?_⟩
    rw [g_M_w_nil hw hn hlen (by omega) (by omega), ha]
    rfl
  | cons m ms ih =>
    intro st row k fuel hd hkl hs hv hl hf
    obtain ⟨n', rfl⟩ : ∃ n, fuel = n + 1 := ⟨fuel - 1, by omega⟩
    simp only [List.length_cons] at hkl hf
    have hk : k < n := by omega
    have hme : zenc (I 97 (off + k)) (I 98 (off + k)) m := by
      obtain ⟨m', h1, h2⟩ := hm k hk
      have h3 : (LW.drop k)[0]? = some m := by rw [hd]; rfl
      rw [List.getElem?_drop, Nat.add_zero, h1] at h3
      cases h3
      exact h2
    have hd' : LW.drop (k + 1) = ms := by
      rw [← List.drop_drop, hd]
      rfl
    have hle : ¬ 320 * w + n ≤ off + k := by omega
    have hj : off + k < 640 := by omega
    show ∃ row', f_M_worked_8L (n' + 1) _ _ _ _ _ = some ((zevl (I 102) ms (zstep (I 102) m st)).headD 0, _)
    rcases hme with ⟨h1, h2, h3⟩ | ⟨h1, j, hj6, h2, h3⟩ | ⟨h1, h2⟩ | ⟨h1, h2⟩
    · obtain ⟨g7, g0⟩ := znn h3
      rcases hv with ⟨h7, -⟩ | ⟨h7, -⟩ | ⟨h7, h30, hv⟩
      · exact absurd h7 g7
      · exact absurd h7 g7
      have hz : zstep (I 102) m st = m :: st := by simp [zstep, g7, g0]
      rw [hz, g_M_w_push hw hn hlen hle hj (by omega) h1, h2, Nat.add_assoc]
      exact ih (m :: st) (va_up row st.length m) (k + 1) n' hd' (by omega) (zstk_push hs _) hv (by simp; omega) (by omega)
    · obtain ⟨g7, g0, gj⟩ := zask j hj6
      rw [← h3] at g7 g0 gj
      rcases hv with ⟨h7, -⟩ | ⟨h7, -⟩ | ⟨h7, h30, hv⟩
      · exact absurd h7 g7
      · exact absurd h7 g7
      have hz : zstep (I 102) m st = I 102 j :: st := by simp [zstep, g7, g0, gj]
      rw [hz, g_M_w_ask hw hn hlen hle hj (by omega) hj6 h1 h2, Nat.add_assoc]
      exact ih (I 102 j :: st) (va_up row st.length (I 102 j)) (k + 1) n' hd' (by omega) (zstk_push hs _) hv (by simp; omega) (by omega)
    · subst h2
      rcases hv with ⟨h7, h13, h1', hv⟩ | ⟨h7, h13, -⟩ | ⟨h7, -⟩
      rotate_left
      · exact absurd rfl h13
      · exact absurd (by decide) h7
      obtain ⟨a, st, rfl⟩ : ∃ a r, st = a :: r := by
        match st, h1' with
        | a :: r, _ => exact ⟨a, r, rfl⟩
      obtain ⟨hs1, ha⟩ := zstk_pop hs
      simp only [List.length_cons] at hl hv ⊢
      have hz : zstep (I 102) (-13) (a :: st) = ztr (decide (a = 0)) :: st := by simp [zstep]
      have key := ih (ztr (decide (a = 0)) :: st) (va_up row st.length (ztr (decide (a = 0)))) (k + 1) n' hd' (by omega) (zstk_push hs1 _) hv (by simpa using hl) (by omega)
      simp only [List.length_cons] at key
      rw [hz, g_M_w_not hw hn hlen hle hj (by omega) h1, ha, Nat.add_assoc]
      exact key
    · have hq := zsg_lt _ h2
      rcases hv with ⟨h7, h13, -⟩ | ⟨h7, h13, h2', hv⟩ | ⟨h7, -⟩
      · exact absurd h13 hq.2
      rotate_left
      · exact absurd hq.1 h7
      obtain ⟨a, b, st, rfl⟩ : ∃ x y r, st = x :: y :: r := by
        match st, h2' with
        | x :: y :: r, _ => exact ⟨x, y, r, rfl⟩
      obtain ⟨hs1, hx⟩ := zstk_pop hs
      obtain ⟨hs2, hy⟩ := zstk_pop hs1
      simp only [List.length_cons] at hl hv hx ⊢
      have hz : zstep (I 102) m (a :: b :: st) = zjn m b a :: st := by simp [zstep, h7, h13]
      rw [hz, g_M_w_do hw hn hlen hle hj (by omega) h1 h2, hx, hy, Nat.add_assoc]
      exact ih (zjn m b a :: st) (va_up row st.length (zjn m b a)) (k + 1) n' hd' (by omega) (zstk_push hs2 _) hv (by simp; omega) (by omega)
/-- worked() -/
theorem g_M_worked {w : Nat} (hw : w < 2) {LW : List Int32} (hn : I 99 w = nI LW.length) (hlen : LW.length ≤ 300) (hm : ∀ k, k < LW.length → ∃ m, LW[k]? = some m ∧ zenc (I 97 (320 * w + k)) (I 98 (320 * w + k)) m) (hv : zval LW 0) :
    ∃ row', f_M_worked (zs I J (zPt t u i f s x)) 91 (nI w) = some (zev (I 102) LW, (zs (zro I 101 row') J (zPt t u i f s x))) := by
  have := g_M_loop (J := J) (t := t) (u := u) (i := i) (f := f) (s := s) (x := x) hw rfl hn hlen rfl hm LW [] (I 101) 0 zfu rfl (by simp) (zstk_nil _) hv (by simp) (zfu_lt (by omega))
  rw [zro_id] at this
  simp (disch := (first | omega | assumption)) only [f_M_worked, zg_12, ml320, zbs, nI_add, pk_mul, znI_add1, znI_sub1, znI_subm, zle_nI, zlt_nI, zeq_nI, zle_0, zeq_0, zlt_0, zeq_m, zeq_1, zge_0, zbt0, zbt1, zB_0, zB_1, zB_b, zbool_0, zbool_1, ↓reduceIte]
  exact this
end ZMk
