/-! one -/
theorem zjp_single {K : Nat → Nat → Int32} {q r b : Nat} : ∀ k, zjp K q (2 ^ r) b k = if r < k then (true, K r b) else (false, 0) := by
  intro k
  induction k with
  | zero => rfl
  | succ k ih =>
    rw [zjp_succ, ih]
    unfold zjt
    rw [Nat.testBit_two_pow]
    by_cases h1 : r = k
    · subst h1
      simp
    · by_cases h2 : r < k
      · simp [h1, h2, show r < k + 1 by omega]
      · simp [h1, h2, show ¬ r < k + 1 by omega]
theorem zjoint_single {K : Nat → Nat → Int32} {q r nr b : Nat} (h : r < nr) : zjoint K q (2 ^ r) nr b = K r b := by
  have := zjp_single (K := K) (q := q) (r := r) (b := b) nr
  rw [if_pos h] at this
  show (zjp K q (2 ^ r) b nr).2 = _
  rw [this]
set_option maxRecDepth 100000 in
theorem znx_single : ∀ r, r < 6 → znx (2 ^ r) 6 0 = r := by decide +kernel
/-- the first of his order -/
theorem zord_head {K : Nat → Nat → Int32} {q r nr nb : Nat} {ok : Nat → Bool} (h : r < nr) (hnr : nr ≤ 6) : (zord K q nr nb ok (2 ^ r))[0]? = zbest ok (K r) nb := by
  unfold zord
  by_cases hc : q = 3 ∧ 2 ^ r ≠ 0
  · rw [if_pos hc]
    have step : ztu K nb (2 ^ r) 10 0 ok = match zbest ok (K (znx (2 ^ r) 6 0)) nb with
        | none => []
        | some b => b :: ztu K nb (2 ^ r) 9 (ztn (2 ^ r) 0) (zwo ok b) := rfl
    rw [step, znx_single r (by omega)]
    cases zbest ok (K r) nb <;> rfl
  · rw [if_neg hc, zsel_succ]
    have : zbest ok (zjoint K q (2 ^ r) nr) nb = zbest ok (K r) nb := zbest_congr (fun _ _ => rfl) (fun b _ _ => zjoint_single h)
    rw [this]
    cases zbest ok (K r) nb <;> rfl
theorem zct_not (p : Nat → Bool) : ∀ n, zct (fun b => !p b) n + zct p n = n := by
  intro n
  induction n with
  | zero => rfl
  | succ n ih =>
    rw [zct_succ, zct_succ]
    cases h : p n <;> simp <;> omega
theorem zbc_nb {om nb : Nat} (hn : nb ≤ 10) (ho : om < 2 ^ nb) : zbc om = zct (fun b => om.testBit b) nb := zct_ext hn (fun b h1 _ => Nat.testBit_lt_two_pow (Nat.lt_of_lt_of_le ho (Nat.pow_le_pow_right (by decide) h1)))
theorem zok_ct {om nb : Nat} (hn : nb ≤ 10) (ho : om < 2 ^ nb) : zct (zokO om) nb + zbc om = nb := by
  rw [zbc_nb hn ho]
  exact zct_not _ nb
def zwk (F : Nat → Option Nat) (od : Nat → Int32) (r : Nat) (w : Nat → Int32) : Nat → Int32 := match F r with
  | none => w
  | some b => va_up w b (w b + od r)
theorem zwk_none {F : Nat → Option Nat} {od : Nat → Int32} {r : Nat} {w : Nat → Int32} (h : F r = none) : zwk F od r w = w := by
  unfold zwk
  rw [h]
theorem zwk_some {F : Nat → Option Nat} {od : Nat → Int32} {r b : Nat} {w : Nat → Int32} (h : F r = some b) : zwk F od r w = va_up w b (w b + od r) := by
  unfold zwk
  rw [h]
def zof (L : List Nat) (w : Nat → Int32) (sh p : Nat) (q : Int32 × List Int32) : Int32 × List Int32 := match L[p]? with
  | none => q
  | some b => (q.1 + w b * nI (zst sh p), q.2 ++ [nI b])
theorem zof_more {L : List Nat} {w : Nat → Int32} {sh : Nat} (q : Int32 × List Int32) : ∀ d, zrn (zof L w sh) (L.length + d) 0 q = zrn (zof L w sh) L.length 0 q := by
  intro d
  induction d with
  | zero => rfl
  | succ d ih =>
    rw [← Nat.add_assoc, zrn_succ, ih]
    show zof L w sh (0 + (L.length + d)) _ = _
    unfold zof
    rw [List.getElem?_eq_none (by omega)]
theorem zof_len {L : List Nat} {w : Nat → Int32} {sh : Nat} : ∀ d, d ≤ L.length → (zrn (zof L w sh) d 0 (0, [])).2.length = d := by
  intro d
  induction d with
  | zero => intro _; rfl
  | succ d ih =>
    intro hd
    rw [zrn_succ, Nat.zero_add]
    have h := ih (by omega)
    have e : L[d]? = some (L[d]'(by omega)) := List.getElem?_eq_getElem (by omega)
    show (zof L w sh d (zrn (zof L w sh) d 0 (0, []))).2.length = d + 1
    unfold zof
    rw [e]
    show (_ ++ [_]).length = d + 1
    rw [List.length_append, List.length_singleton]
    unfold zof at h
    omega
section ZOn
variable {I : Nat → Nat → Int32} {J : Nat → Nat → Int64} {t u i f s x : Nat} {nt nb nr q sh md om im : Nat} {LW BW : List Int32}
theorem x_byOdds (hC : zCo I t nt nb nr q sh md om im LW BW) {I1 : Nat → Nat → Int32} (hf1 : zfr zSg I I1) (hS : zSh I1 t nb nr q (zhm nb om)) (hK : ∀ r b, r < nr → b < nb → zKx I1 r b = zKy I nt LW r b) :
    ∃ I2, f_S_layByOdds (zs I1 J (zPt t u i f t x)) 47 = some (zs I2 J (zPt t u i f t x)) ∧ zfr zSg I I2 ∧ (∀ b, b < 10 → I2 49 b = zrn (zwk (fun r => zbest (zokO om) (zKy I nt LW r) nb) (I 110)) nr 0 (fun _ => 0) b) ∧ zLx I2 (zsel (zrn (zwk (fun r => zbest (zokO om) (zKy I nt LW r) nb) (I 110)) nr 0 (fun _ => 0)) nb 10 (zokO om)) := by
  have ht := hC.1
  have hnb := hS.2.1
  have hnr := hS.2.2.2.1
  have od := hC.2.1.2.2.2.2.2.2.2.2.1
  obtain ⟨I0, e0, e1, e2⟩ := g_J_fill (I := I1) (J := J) (P := zPt t u i f t x) zl_49 (by decide) 0
  have c49 : ∀ a, a ≠ 49 → [49].contains a = false := fun a ha => by simp [ha]
  have fin : ∀ I3, zfr (zSl [49]) I1 I3 → zSh I3 t nb nr q (zhm nb om) := fun I3 h => by
    unfold zSh
    rw [zfr_sl h t (c49 t (by omega)), zfr_sl h 47 rfl]
    exact hS
  obtain ⟨I', ⟨a1, a2⟩, a3⟩ := zfor (fun fuel I' k => f_S_layByOdds_10L fuel (zs I' J (zPt t u i f t x)) 47 (nI k)) nr (fun k I' => zfr (zSl [49]) I1 I' ∧ ∀ b, b < 10 → I' 49 b = zrn (zwk (fun r => zbest (zokO om) (zKy I nt LW r) nb) (I 110)) k 0 (fun _ => 0) b) (fun I' => f_S_layByOdds_56 (zs I' J (zPt t u i f t x)) 47)
    (fun m k I' hk hi => by
      have hS3 := fin I' hi.1
      obtain ⟨s1, -, s2, -, -, -, s7, s8, s9⟩ := hS3
      have hle : ¬ nr ≤ k := by omega
      have p1 := g_S_firstOf (J := J) (t := t) (u := u) (i := i) (f := f) (x := x) ht s1 hnb s7 s8 (show k < 6 by omega)
      have hb : zbest (fun b => (zhm nb om).testBit b) (zKx I' k) nb = zbest (zokO om) (zKy I nt LW k) nb := zbest_congr (fun b hb => zhm_ok hnb hb) (fun b hb _ => by
        unfold zKx
        rw [zfr_sl hi.1 48 rfl]
        exact hK k b hk hb)
      rw [hb] at p1
      have o1 : I' (t + 4) k = I 110 k := by
        rw [zfr_sl hi.1 (t + 4) (c49 _ (by omega)), zfr_row hf1 (t + 4) (fun _ => by rcases ht with rfl | rfl <;> rfl)]
        exact (od k hk).1
      have hspec := zbest_spec (zokO om) (zKy I nt LW k) nb
      cases hz : zbest (zokO om) (zKy I nt LW k) nb with
      | none =>
        rw [hz] at p1
        refine ⟨I', ⟨hi.1, fun b hb => ?_⟩, ?_⟩
        · rw [zrn_succ, hi.2 b hb, Nat.zero_add, zwk_none (F := fun r => zbest (zokO om) (zKy I nt LW r) nb) (r := k) hz]
        · show f_S_layByOdds_10L (m + 1) _ _ _ = _
          rw [f_S_layByOdds_10L]
          simp (disch := (first | omega | assumption)) only [f_S_layByOdds_10, gi_10, gp_8_0, gp_8_4, gp_10_10, ai_49, ai_10_10, wi_49, zbs, nI_add, pk_mul, znI_add1, znI_sub1, znI_subm, zle_nI, zlt_nI, zeq_nI, zle_0, zeq_0, zlt_0, zeq_m, zeq_1, zge_0, zbt0, zbt1, zB_0, zB_1, zB_b, zbool_0, zbool_1, ↓reduceIte, s2, hle, p1, zoI_nm]
      | some b0 =>
        rw [hz] at p1 hspec
        have hb0 : b0 < 10 := by have := hspec.1; omega
        have hw := hi.2 b0 hb0
        refine ⟨zup I' 49 b0 (I' 49 b0 + I 110 k), ⟨zfr_up hi.1 rfl, fun b hb => ?_⟩, ?_⟩
        · rw [zrn_succ, Nat.zero_add, zwk_some (F := fun r => zbest (zokO om) (zKy I nt LW r) nb) (r := k) hz]
          by_cases hbb : b = b0
          · subst hbb
            rw [zup_s, va_up_self, hw]
          · rw [zup_k _ _ hbb, va_up_ne _ _ hbb]
            exact hi.2 b hb
        · have p1 : f_S_firstOf (zs I' J (zPt t u i f t x)) 47 (nI k) = some (nI b0) := p1
          show f_S_layByOdds_10L (m + 1) _ _ _ = _
          rw [f_S_layByOdds_10L]
          simp (disch := (first | omega | assumption)) only [f_S_layByOdds_10, gi_10, gp_8_0, gp_8_4, gp_10_10, ai_49, ai_10_10, wi_49, zbs, nI_add, pk_mul, znI_add1, znI_sub1, znI_subm, zle_nI, zlt_nI, zeq_nI, zle_0, zeq_0, zlt_0, zeq_m, zeq_1, zge_0, zbt0, zbt1, zB_0, zB_1, zB_b, zbool_0, zbool_1, ↓reduceIte, s2, hle, p1, o1])
    (fun m I' hi => by
      have hS3 := fin I' hi.1
      show f_S_layByOdds_10L (m + 1) _ _ _ = _
      rw [f_S_layByOdds_10L]
      simp (disch := (first | omega | assumption)) only [f_S_layByOdds_10, gi_10, gp_8_0, gp_8_4, gp_10_10, ai_49, ai_10_10, wi_49, zbs, nI_add, pk_mul, znI_add1, znI_sub1, znI_subm, zle_nI, zlt_nI, zeq_nI, zle_0, zeq_0, zlt_0, zeq_m, zeq_1, zge_0, zbt0, zbt1, zB_0, zB_1, zB_b, zbool_0, zbool_1, ↓reduceIte, hS3.2.2.1, Nat.le_refl]) nr 0 I0 zfu (by omega) ⟨e1, fun b hb => e2 b hb⟩ (zfu_lt (by omega))
  obtain ⟨s1, -, s2, -, -, -, s7, s8, s9⟩ := fin I' a1
  obtain ⟨I2, b1, b2, b3, b4⟩ := g_S_layTogether (J := J) (t := t) (u := u) (i := i) (f := f) (x := x) ht s1 hnb s7 s8 s9
  refine ⟨I2, ?_, ?_, ?_, ?_⟩
  · have a3 : f_S_layByOdds_10L zfu (zs I0 J (zPt t u i f t x)) 47 0 = _ := a3
    simp (disch := (first | omega | assumption)) only [f_S_layByOdds, f_S_layByOdds_56, zg_8, gp_8_4, zbs, nI_add, pk_mul, znI_add1, znI_sub1, znI_subm, zle_nI, zlt_nI, zeq_nI, zle_0, zeq_0, zlt_0, zeq_m, zeq_1, zge_0, zbt0, zbt1, zB_0, zB_1, zB_b, zbool_0, zbool_1, ↓reduceIte, e0, a3, b1]
  · exact zfr_trans hf1 (zfr_trans (zfr_gl a1 (fun a ha k => by simp at ha; subst ha; rfl)) (zfr_g b2 zSg_xls))
  · intro b hb
    rw [b3]
    exact a2 b hb
  · rw [zsel_congr (v := I' 49) (fun o ho => a2 o (by omega))] at b4
    have : zsel (zrn (zwk (fun r => zbest (zokO om) (zKy I nt LW r) nb) (I 110)) nr 0 (fun _ => 0)) nb 10 (fun b => (zhm nb om).testBit b) = zsel (zrn (zwk (fun r => zbest (zokO om) (zKy I nt LW r) nb) (I 110)) nr 0 (fun _ => 0)) nb 10 (zokO om) :=
      zgo_congr (n := nb) (fun c ok ok' h => zbest_congr h (fun _ _ _ => rfl)) 10 0 _ _ (fun b hb => zhm_ok hnb hb)
    rw [this] at b4
    exact b4
theorem x_oneL (hC : zCo I t nt nb nr q sh md om im LW BW) {L : List Nat} {w : Nat → Int32} (hLl : L.length ≤ nb) (hLb : ∀ b, b ∈ L → b < 10) {I1 : Nat → Nat → Int32} (hf1 : zfr zSg I I1) (hw : ∀ b, b < 10 → I1 49 b = w b) (hL : zLx I1 L) (hV : zLnx I1 []) :
    ∃ I2, zfr zSnx I I2 ∧ zLnx I2 (zrn (zof L w sh) L.length 0 (0, [])).2 ∧ f_W_one_31L zfu (zs I1 J (zPt t u i f t x)) 0 0 0 = some ((zrn (zof L w sh) L.length 0 (0, [])).1, (zs I2 J (zPt t u i f t x))) := by
  have ht := hC.1
  have hnb := hC.2.1.1.2.1.2
  have hsh := hC.2.1.2.2.2.1
  obtain ⟨Q, ⟨h1, h4, h2, -⟩, h3⟩ := zfor (fun fuel (q : (Nat → Nat → Int32) × (Int32 × List Int32)) k => f_W_one_31L fuel (zs q.1 J (zPt t u i f t x)) 0 q.2.1 (nI k)) nb
    (fun k q' => zfr (fun a k => a == 75 || (a == 0 && k == 18)) I1 q'.1 ∧ zLnx q'.1 q'.2.2 ∧ q'.2 = zrn (zof L w sh) k 0 (0, []) ∧ q'.2.2.length ≤ k)
    (fun q => some (q.2.1, (zs q.1 J (zPt t u i f t x))))
    (fun m k Q hk hi => by
      obtain ⟨I3, sum, V⟩ := Q
      obtain ⟨h1, h4, h2, h5⟩ := hi
      dsimp only at h1 h4 h2 h5
      have hC3 := zCo_frn hC (zfr_mono (zfr_trans (zfr_mono hf1 zSg_nx) (zfr_mono h1 zSx75)) zSnx_n)
      have hle : ¬ nb ≤ k := by omega
      have m1 : I3 t 1 = nI nb := hC3.2.1.2.1.2.1.1
      have r49 : I3 49 = I1 49 := zfr_row h1 49 (fun _ => rfl)
      have hL3 : zLx I3 L := by
        unfold zLx
        rw [zfr_row h1 47 (fun _ => rfl), zfr_row h1 50 (fun _ => rfl)]
        exact hL
      have l1 := g_S_laidAt (J := J) (t := t) (u := u) (i := i) (f := f) (s := t) (x := x) hL3 (by omega) (nI k)
      rw [if_neg (nI_pos (show k < 2 ^ 31 by omega)), nI_clamp (by omega)] at l1
      have pure : zof L w sh k (sum, V) = zrn (zof L w sh) (k + 1) 0 (0, []) := by rw [zrn_succ, ← h2, Nat.zero_add]
      cases hLk : L[k]? with
      | none =>
        rw [hLk] at l1
        dsimp only at l1
        have hz : zof L w sh k (sum, V) = (sum, V) := by unfold zof; rw [hLk]
        refine ⟨(I3, (sum, V)), ⟨h1, h4, ?_, by show V.length ≤ k + 1; omega⟩, ?_⟩
        · rw [← pure]; exact hz.symm
        · show f_W_one_31L (m + 1) _ _ _ _ = _
          rw [f_W_one_31L]
          simp (disch := (first | omega | assumption)) only [f_W_one_31, gi_10, gp_11_2, gp_11_9, zbs, nI_add, pk_mul, znI_add1, znI_sub1, znI_subm, zle_nI, zlt_nI, zeq_nI, zle_0, zeq_0, zlt_0, zeq_m, zeq_1, zge_0, zbt0, zbt1, zB_0, zB_1, zB_b, zbool_0, zbool_1, ↓reduceIte, m1, hle, l1]
      | some b =>
        rw [hLk] at l1
        dsimp only at l1
        have hb10 := hLb b (List.mem_of_getElem? hLk)
        obtain ⟨I4, y1, y2, y3⟩ := g_W_layDown (J := J) (t := t) (u := u) (i := i) (f := f) (s := t) (x := x) h4 (by omega) (nI b)
        have hC4 := zCo_frn hC3 (zfr_mono (zfr_mono y2 zSx75) zSnx_n)
        have hz : zof L w sh k (sum, V) = (sum + w b * nI (zst sh k), V ++ [nI b]) := by unfold zof; rw [hLk]
        have w1 : I4 49 b = w b := by rw [zfr_row y2 49 (fun _ => rfl), r49]; exact hw b hb10
        have x6 := g_D_stepsTo (p := k) (J := J) (t := t) (u := u) (i := i) (f := f) (s := t) (x := x) ht hC4.2.1.2.2.2.1.2.1 hsh.2.2.1 hsh.2.2.2 (by omega)
        have e2 : k + 1 + 2 * (k / sh) = zst sh k := rfl
        rw [e2] at x6
        refine ⟨(I4, (sum + w b * nI (zst sh k), V ++ [nI b])), ⟨zfr_trans h1 y2, y3, ?_, ?_⟩, ?_⟩
        · rw [← pure]; exact hz.symm
        · show (V ++ [nI b]).length ≤ k + 1
          rw [List.length_append, List.length_singleton]
          omega
        · show f_W_one_31L (m + 1) _ _ _ _ = _
          rw [f_W_one_31L]
          simp (disch := (first | omega | assumption)) only [f_W_one_31, f_S_walkersTo, gi_10, gp_11_2, gp_11_9, zg_8, gp_8_4, ai_49, zbs, nI_add, pk_mul, znI_add1, znI_sub1, znI_subm, zle_nI, zlt_nI, zeq_nI, zle_0, zeq_0, zlt_0, zeq_m, zeq_1, zge_0, zbt0, zbt1, zB_0, zB_1, zB_b, zbool_0, zbool_1, ↓reduceIte, m1, hle, l1, y1, w1, x6])
    (fun m Q hi => by
      have hC3 := zCo_frn hC (zfr_mono (zfr_trans (zfr_mono hf1 zSg_nx) (zfr_mono hi.1 zSx75)) zSnx_n)
      show f_W_one_31L (m + 1) _ _ _ _ = _
      rw [f_W_one_31L]
      simp (disch := (first | omega | assumption)) only [f_W_one_31, gi_10, gp_11_2, gp_11_9, zbs, nI_add, pk_mul, znI_add1, znI_sub1, znI_subm, zle_nI, zlt_nI, zeq_nI, zle_0, zeq_0, zlt_0, zeq_m, zeq_1, zge_0, zbt0, zbt1, zB_0, zB_1, zB_b, zbool_0, zbool_1, ↓reduceIte, hC3.2.1.2.1.2.1.1, Nat.le_refl]) nb 0 (I1, (0, [])) zfu (by omega) ⟨zfr_refl _ _, hV, rfl, Nat.le_refl _⟩ (zfu_lt (by omega))
  have hmore : zrn (zof L w sh) nb 0 (0, []) = zrn (zof L w sh) L.length 0 (0, []) := by
    have := zof_more (L := L) (w := w) (sh := sh) (0, []) (nb - L.length)
    rw [show L.length + (nb - L.length) = nb by omega] at this
    exact this
  rw [hmore] at h2
  refine ⟨Q.1, zfr_trans (zfr_mono hf1 zSg_nx) (zfr_mono h1 zSx75), ?_, ?_⟩
  · rw [← h2]; exact h4
  · rw [← h2]; exact h3
/-- his book: the first of his order as he is -/
theorem g_M_ownBook (hC : zCo I t nt nb nr q sh md om im LW BW) {r : Nat} (hr : r < nr) :
    ∃ I2 v, f_M_ownBook (zs I J (zPt t u i f s x)) 91 (nI r) = some (v, (zs I2 J (zPt t u i f s x))) ∧ zfr zSg I I2 ∧ (∀ a, a ≠ 91 → a ≠ 101 → a ≠ 102 → a ≠ 112 → a ≠ 113 → a ≠ 114 → a ≠ 115 → I2 a = I a) ∧ ∀ b, zbest (zokO om) (zKy I nt LW r) nb = some b → v = nI b := by
  have hM := hC.2.1.1
  have hnb := hM.2.1.2
  have hnr := hM.2.2.1.2
  have hq := hC.2.1.2.2.1
  obtain ⟨I1, a1, a2, a3, -, -⟩ := g_M_layOwn (J := J) (t := t) (u := u) (i := i) (f := f) (s := s) (x := x) hM (show r < 6 by omega)
  have f1 : zfr zSg I I1 := zfr_gl a2 (fun a ha k => by
    simp at ha
    rcases ha with rfl | rfl | rfl | rfl <;> rfl)
  have hC1 := zCo_fr hC f1
  obtain ⟨I2, b1, b2, b3⟩ := g_M_layOrder (J := J) (t := t) (u := u) (i := i) (f := f) (s := s) (x := x) hC1.2.1.1.2.1.1 hnb hC1.2.2.2.2.1.1 (z2n hnb hC1.2.2.2.2.1.2) hC1.2.1.1.2.2.1.1 hnr hC1.2.1.2.2.1.1 hq.2.2 (z64 hnr (z2r hr))
  refine ⟨I2, I2 114 0, ?_, zfr_trans f1 (zfr_g b2 zSg_ls), fun a h1 h2 h3 h4 h5 h6 h7 => ?_, fun b hb => ?_⟩
  · simp (disch := (first | omega | assumption)) only [f_M_ownBook, zg_12, gp_12_52, al_114_0, zbs, nI_add, pk_mul, znI_add1, znI_sub1, znI_subm, zle_nI, zlt_nI, zeq_nI, zle_0, zeq_0, zlt_0, zeq_m, zeq_1, zge_0, zbt0, zbt1, zB_0, zB_1, zB_b, zbool_0, zbool_1, ↓reduceIte, a1, zshl1 r (by omega), b1]
  · rw [zLs_row b2 a h6 h7 h1, zfr_sl a2 a (by simp [h2, h3, h4, h5])]
  · have hh : (zord (zKm I1) q nr nb (zokO om) (2 ^ r))[0]? = some b := by
      rw [zord_head hr hnr, ← hb]
      exact zbest_congr (fun _ _ => rfl) (fun b' hb' _ => a3 b' hb')
    exact (b3.2.1 0 b hh).1
theorem zokm_1 {b p : Nat} (hp : p < 100) : zokm (zup I 115 b (nI p)) om = zwo (zokm I om) b := by
  funext c
  unfold zokm zwo
  by_cases hc : c = b
  · subst hc
    rw [zup_s]
    simp [zlt_0 (show p < 2 ^ 31 by omega)]
  · rw [zup_k _ _ hc]
    simp [hc]
/-- walked is counted -/
theorem m_one1 (hC : zCo I t nt nb nr q sh md om im LW BW) : ∃ I2, f_M_one_7L zfu (zs I J (zPt t u i f s x)) 91 0 = f_M_one_80L zfu (zs I2 J (zPt t u i f s x)) 91 0 ∧ zfr zSg I I2 ∧ ∀ b, b < 10 → I2 125 b = zrn (zwk (fun r => zbest (zokO om) (zKy I nt LW r) nb) (I 110)) nr 0 (fun _ => 0) b := by
  have hM := hC.2.1.1
  have hnb := hM.2.1.2
  have hnr := hM.2.2.1.2
  have hom := hC.2.2.2.2.1.2
  have hct := zok_ct hnb hom
  obtain ⟨I0, ⟨z1, z2⟩, z3⟩ := zfor (fun fuel I' k => f_M_one_7L fuel (zs I' J (zPt t u i f s x)) 91 (nI k)) 10 (fun k I' => zfr (zSl [125]) I I' ∧ ∀ b, b < k → I' 125 b = 0) (fun I' => f_M_one_28L zfu (zs I' J (zPt t u i f s x)) 91 0)
    (fun m k I' hk hi => by
      have hle : ¬ 10 ≤ k := by omega
      refine ⟨zup I' 125 k 0, ⟨zfr_up hi.1 rfl, fun b hb => ?_⟩, ?_⟩
      · by_cases hbk : b = k
        · subst hbk; exact zup_s _ _ _ _
        · rw [zup_k _ _ hbk]; exact hi.2 b (by omega)
      · show f_M_one_7L (m + 1) _ _ _ = _
        rw [f_M_one_7L]
        simp (disch := (first | omega | assumption)) only [f_M_one_7, gp_12_72, wi_125, ge10, zbs, nI_add, pk_mul, znI_add1, znI_sub1, znI_subm, zle_nI, zlt_nI, zeq_nI, zle_0, zeq_0, zlt_0, zeq_m, zeq_1, zge_0, zbt0, zbt1, zB_0, zB_1, zB_b, zbool_0, zbool_1, ↓reduceIte, hle])
    (fun m I' hi => by
      show f_M_one_7L (m + 1) _ _ _ = _
      rw [f_M_one_7L]
      simp (disch := (first | omega | assumption)) only [f_M_one_7, gp_12_72, wi_125, ge10, zbs, nI_add, pk_mul, znI_add1, znI_sub1, znI_subm, zle_nI, zlt_nI, zeq_nI, zle_0, zeq_0, zlt_0, zeq_m, zeq_1, zge_0, zbt0, zbt1, zB_0, zB_1, zB_b, zbool_0, zbool_1, ↓reduceIte, Nat.le_refl]) 10 0 I zfu (by omega) ⟨zfr_refl _ _, fun b hb => by omega⟩ (zfu_lt (by decide))
  have f0 : zfr zSg I I0 := zfr_gl z1 (fun a ha k => by simp at ha; subst ha; rfl)
  have key := zforW (fun fuel I' k => f_M_one_28L fuel (zs I' J (zPt t u i f s x)) 91 (nI k)) nr (fun k I' => zfr zSg I I' ∧ ∀ b, b < 10 → I' 125 b = zrn (zwk (fun r => zbest (zokO om) (zKy I nt LW r) nb) (I 110)) k 0 (fun _ => 0) b) (fun r => ∃ I2, r = f_M_one_80L zfu (zs I2 J (zPt t u i f s x)) 91 0 ∧ zfr zSg I I2 ∧ ∀ b, b < 10 → I2 125 b = zrn (zwk (fun r => zbest (zokO om) (zKy I nt LW r) nb) (I 110)) nr 0 (fun _ => 0) b)
    (fun m k I' hk hi => by
      have hC3 := zCo_fr hC hi.1
      have hle : ¬ nr ≤ k := by omega
      have mm := g_M_members (k := om) (z2n hnb hom)
      show (∃ I2, f_M_one_28L (m + 1) _ _ _ = _ ∧ _) ∨ ∃ s', _ ∧ f_M_one_28L (m + 1) _ _ _ = _
      rw [f_M_one_28L]
      by_cases hall : nb ≤ zbc om
      · left
        have hno : ∀ r, zbest (zokO om) (zKy I nt LW r) nb = none := fun r => by
          have hs := zbest_spec (zokO om) (zKy I nt LW r) nb
          cases hz : zbest (zokO om) (zKy I nt LW r) nb with
          | none => rfl
          | some b =>
            rw [hz] at hs
            have := zct_pos hs.1 hs.2.1
            omega
        have hsame : ∀ d, zrn (zwk (fun r => zbest (zokO om) (zKy I nt LW r) nb) (I 110)) d 0 (fun _ => 0) = fun _ => 0 := by
          intro d
          induction d with
          | zero => rfl
          | succ d ih => rw [zrn_succ, zwk_none (F := fun r => zbest (zokO om) (zKy I nt LW r) nb) (r := 0 + d) (hno _), ih]
        refine ⟨I', ?_, hi.1, fun b hb => ?_⟩
        · have hb6 : zbc om < 2 ^ 31 := by omega
          simp (disch := (first | omega | assumption)) only [f_M_one_28, gi_12, gp_12_49, gp_12_72, gp_12_33, al_111_31, ai_125, ai_110, wi_125, zbs, nI_add, pk_mul, znI_add1, znI_sub1, znI_subm, zle_nI, zlt_nI, zeq_nI, zle_0, zeq_0, zlt_0, zeq_m, zeq_1, zge_0, zbt0, zbt1, zB_0, zB_1, zB_b, zbool_0, zbool_1, ↓reduceIte, hC3.2.1.1.2.2.1.1, hle, hC3.2.2.2.2.1.1, mm, hC3.2.1.1.2.1.1, hall]
        · rw [hi.2 b hb, hsame, hsame]
      · right
        obtain ⟨I4, v, c1, c2, c3, c4⟩ := g_M_ownBook (J := J) (t := t) (u := u) (i := i) (f := f) (s := s) (x := x) hC3 hk
        rw [zKy_fr hi.1] at c4
        have hs := zbest_spec (zokO om) (zKy I nt LW k) nb
        cases hz : zbest (zokO om) (zKy I nt LW k) nb with
        | none =>
          rw [hz] at hs
          have := zct_0 hs
          omega
        | some b0 =>
          rw [hz] at hs
          have hv := c4 b0 hz
          subst hv
          have hb0 : b0 < 10 := by have := hs.1; omega
          have w1 : I4 125 = I' 125 := c3 125 (by decide) (by decide) (by decide) (by decide) (by decide) (by decide) (by decide)
          have o1 : I4 110 = I 110 := by rw [c3 110 (by decide) (by decide) (by decide) (by decide) (by decide) (by decide) (by decide), zfr_row hi.1 110 (fun _ => rfl)]
          refine ⟨zup I4 125 b0 (I' 125 b0 + I 110 k), ⟨zfr_trans hi.1 (zfr_up c2 rfl), fun b hb => ?_⟩, ?_⟩
          · rw [zrn_succ, Nat.zero_add, zwk_some (F := fun r => zbest (zokO om) (zKy I nt LW r) nb) (r := k) hz]
            by_cases hbb : b = b0
            · subst hbb
              rw [zup_s, va_up_self, hi.2 b hb]
            · rw [zup_k _ _ hbb, va_up_ne _ _ hbb, w1]
              exact hi.2 b hb
          · have hb6 : zbc om < 2 ^ 31 := by omega
            simp (disch := (first | omega | assumption)) only [f_M_one_28, gi_12, gp_12_49, gp_12_72, gp_12_33, al_111_31, ai_125, ai_110, wi_125, zbs, nI_add, pk_mul, znI_add1, znI_sub1, znI_subm, zle_nI, zlt_nI, zeq_nI, zle_0, zeq_0, zlt_0, zeq_m, zeq_1, zge_0, zbt0, zbt1, zB_0, zB_1, zB_b, zbool_0, zbool_1, ↓reduceIte, hC3.2.1.1.2.2.1.1, hle, hC3.2.2.2.2.1.1, mm, hC3.2.1.1.2.1.1, hall, c1, w1, o1])
    (fun m I' hi => by
      have hC3 := zCo_fr hC hi.1
      refine ⟨I', ?_, hi.1, hi.2⟩
      show f_M_one_28L (m + 1) _ _ _ = _
      rw [f_M_one_28L]
      simp (disch := (first | omega | assumption)) only [f_M_one_28, gi_12, gp_12_49, gp_12_72, gp_12_33, al_111_31, ai_125, ai_110, wi_125, zbs, nI_add, pk_mul, znI_add1, znI_sub1, znI_subm, zle_nI, zlt_nI, zeq_nI, zle_0, zeq_0, zlt_0, zeq_m, zeq_1, zge_0, zbt0, zbt1, zB_0, zB_1, zB_b, zbool_0, zbool_1, ↓reduceIte, hC3.2.1.1.2.2.1.1, Nat.le_refl]) nr 0 I0 zfu (by omega) ⟨f0, fun b hb => z2 b hb⟩ (zfu_lt (by omega))
  obtain ⟨I2, k1, k2, k3⟩ := key
  exact ⟨I2, Eq.trans z3 k1, k2, k3⟩
theorem m_one2 (hC : zCo I t nt nb nr q sh md om im LW BW) {w : Nat → Int32} (hw : ∀ b, b < 10 → I 125 b = w b) (hV : zLnm I []) :
    ∃ I2, zfr zSnm I I2 ∧ zLnm I2 (zrn (zof (zsel w nb 10 (zokO om)) w sh) (zsel w nb 10 (zokO om)).length 0 (0, [])).2 ∧ f_M_one_80L zfu (zs I J (zPt t u i f s x)) 91 0 = some ((zrn (zof (zsel w nb 10 (zokO om)) w sh) (zsel w nb 10 (zokO om)).length 0 (0, [])).1, (zs I2 J (zPt t u i f s x))) := by
  have hM := hC.2.1.1
  have hnb := hM.2.1.2
  have hom := hC.2.2.2.2.1.2
  have hsh := hC.2.1.2.2.2.1
  have hct := zok_ct hnb hom
  have hO := zsel_Od (v := w) (n := nb) 10 (zokO om) (by have := zct_le (zokO om) nb; omega)
  obtain ⟨I0, ⟨z1, z2⟩, z3⟩ := zfor (fun fuel I' k => f_M_one_80L fuel (zs I' J (zPt t u i f s x)) 91 (nI k)) 10 (fun k I' => zfr (zSl [115]) I I' ∧ ∀ b, b < k → I' 115 b = -1) (fun I' => f_M_one_99 (zs I' J (zPt t u i f s x)) 91)
    (fun m k I' hk hi => by
      have hle : ¬ 10 ≤ k := by omega
      refine ⟨zup I' 115 k (-1), ⟨zfr_up hi.1 rfl, fun b hb => ?_⟩, ?_⟩
      · by_cases hbk : b = k
        · subst hbk; exact zup_s _ _ _ _
        · rw [zup_k _ _ hbk]; exact hi.2 b (by omega)
      · show f_M_one_80L (m + 1) _ _ _ = _
        rw [f_M_one_80L]
        simp (disch := (first | omega | assumption)) only [f_M_one_80, gp_12_53, wi_115, ge10, zbs, nI_add, pk_mul, znI_add1, znI_sub1, znI_subm, zle_nI, zlt_nI, zeq_nI, zle_0, zeq_0, zlt_0, zeq_m, zeq_1, zge_0, zbt0, zbt1, zB_0, zB_1, zB_b, zbool_0, zbool_1, ↓reduceIte, hle])
    (fun m I' hi => by
      show f_M_one_80L (m + 1) _ _ _ = _
      rw [f_M_one_80L]
      simp (disch := (first | omega | assumption)) only [f_M_one_80, gp_12_53, wi_115, ge10, zbs, nI_add, pk_mul, znI_add1, znI_sub1, znI_subm, zle_nI, zlt_nI, zeq_nI, zle_0, zeq_0, zlt_0, zeq_m, zeq_1, zge_0, zbt0, zbt1, zB_0, zB_1, zB_b, zbool_0, zbool_1, ↓reduceIte, Nat.le_refl]) 10 0 I zfu (by omega) ⟨zfr_refl _ _, fun b hb => by omega⟩ (zfu_lt (by decide))
  have hok0 : zsel w nb 10 (zokm I0 om) = zsel w nb 10 (zokO om) := zgo_congr (n := nb) (fun c ok ok' h => zbest_congr h (fun _ _ _ => rfl)) 10 0 _ _ (fun b hb => by
    unfold zokm zokO
    rw [z2 b (by omega)]
    simp)
  generalize hL : zsel w nb 10 (zokO om) = L at hO hok0
  have hLl : L.length ≤ 10 := by rw [hO.2.1]; have := zct_le (zokO om) nb; omega
  have S0 : ∀ I', zfr (fun a k => a == 115 || (a == 117 || (a == 91 && k == 59))) I0 I' → zfr zSnm I I' := fun I' h => zfr_trans (zfr_mono (zfr_gl z1 (fun a ha k => by simp at ha; subst ha; rfl)) zSg_nm) (zfr_mono h (fun a k h => by
    simp at h
    rcases h with rfl | h
    · rfl
    · exact zSm117 a k (by simpa using h)))
  have mm := g_M_members (k := om) (z2n hnb hom)
  obtain ⟨Q, ⟨h1, h4, h2, -⟩, h3⟩ := zfor (fun fuel (q : (Nat → Nat → Int32) × (Int32 × List Int32)) k => f_M_one_105L fuel (zs q.1 J (zPt t u i f s x)) 91 q.2.1 (nI k)) L.length
    (fun k q' => zfr (fun a k => a == 115 || (a == 117 || (a == 91 && k == 59))) I0 q'.1 ∧ zLnm q'.1 q'.2.2 ∧ q'.2 = zrn (zof L w sh) k 0 (0, []) ∧ q'.2.2.length = k ∧ ∃ A : List Nat, A.length = k ∧ L = A ++ zsel w nb (10 - k) (zokm q'.1 om))
    (fun q => some (q.2.1, (zs q.1 J (zPt t u i f s x))))
    (fun m k Q hk hi => by
      obtain ⟨I3, sum, V⟩ := Q
      obtain ⟨h1, h4, h2, h5, A, hA, hAL⟩ := hi
      dsimp only at h1 h4 h2 h5 hAL
      have hC3 := zCo_frn hC (zfr_mono (S0 I3 h1) zSnm_n)
      have r125 : I3 125 = I 125 := by rw [zfr_row h1 125 (fun _ => rfl), zfr_sl z1 125 rfl]
      have hle : ¬ nb - zbc om ≤ k := by have := hO.2.1; omega
      have hsel := zforF (fun fuel (best : Option Nat) j => f_M_one_129L (f_M_one_105L m) fuel (zs I3 J (zPt t u i f s x)) 91 sum (zoI best) (nI k) (nI j)) nb (zbst (zokm I3 om) w) (fun j best => ∀ c, best = some c → c < j) (fun best => f_M_one_176 (f_M_one_105L m) (zs I3 J (zPt t u i f s x)) 91 sum (zoI best) (nI k))
        (fun m' j best hj hi2 => by
          have hle2 : ¬ nb ≤ j := by omega
          have h1 := g_M_isLeft (J := J) (t := t) (u := u) (i := i) (f := f) (s := s) (x := x) hC3.2.2.2.2.1.1 (z2n hnb hom) (show j < 10 by omega)
          have wj : I3 125 j = w j := by rw [r125]; exact hw j (by omega)
          show f_M_one_129L _ (m' + 1) _ _ _ _ _ _ = _
          rw [f_M_one_129L]
          cases hok : zokm I3 om j with
          | false =>
            rw [hok] at h1
            rw [zbst_no hok]
            simp (disch := (first | omega | assumption)) only [f_M_one_129, gi_12, gp_12_72, ai_125, zbs, nI_add, pk_mul, znI_add1, znI_sub1, znI_subm, zle_nI, zlt_nI, zeq_nI, zle_0, zeq_0, zlt_0, zeq_m, zeq_1, zge_0, zbt0, zbt1, zB_0, zB_1, zB_b, zbool_0, zbool_1, ↓reduceIte, hC3.2.1.1.2.1.1, hle2, h1]
          | true =>
            rw [hok] at h1
            cases best with
            | none =>
              unfold zbst
              simp (disch := (first | omega | assumption)) only [f_M_one_129, gi_12, gp_12_72, ai_125, zbs, nI_add, pk_mul, znI_add1, znI_sub1, znI_subm, zle_nI, zlt_nI, zeq_nI, zle_0, zeq_0, zlt_0, zeq_m, zeq_1, zge_0, zbt0, zbt1, zB_0, zB_1, zB_b, zbool_0, zbool_1, ↓reduceIte, hok, hC3.2.1.1.2.1.1, hle2, h1, zoI_n, Bool.true_eq_false]
              rfl
            | some c =>
              have hc := hi2 c rfl
              have wc : I3 125 c = w c := by rw [r125]; exact hw c (by omega)
              have hcr : zaI (zs I3 J (zPt t u i f s x)) 1 125 (zoI (some c)) = some (w c) := by
                rw [← wc]
                exact ai_125 (by omega)
              by_cases h6 : w j ≤ w c
              · have h7 : ¬ w c < w j := Int32.not_lt.mpr h6
                simp (disch := (first | omega | assumption)) only [f_M_one_129, gi_12, gp_12_72, ai_125, zbs, nI_add, pk_mul, znI_add1, znI_sub1, znI_subm, zle_nI, zlt_nI, zeq_nI, zle_0, zeq_0, zlt_0, zeq_m, zeq_1, zge_0, zbt0, zbt1, zB_0, zB_1, zB_b, zbool_0, zbool_1, ↓reduceIte, zbst, hok, hC3.2.1.1.2.1.1, hle2, h1, zoI_lt c (by omega), hcr, wj, h6, h7, Bool.true_eq_false, true_and]
              · have h7 : w c < w j := Int32.not_le.mp h6
                simp (disch := (first | omega | assumption)) only [f_M_one_129, gi_12, gp_12_72, ai_125, zbs, nI_add, pk_mul, znI_add1, znI_sub1, znI_subm, zle_nI, zlt_nI, zeq_nI, zle_0, zeq_0, zlt_0, zeq_m, zeq_1, zge_0, zbt0, zbt1, zB_0, zB_1, zB_b, zbool_0, zbool_1, ↓reduceIte, zbst, hok, hC3.2.1.1.2.1.1, hle2, h1, zoI_lt c (by omega), hcr, wj, h6, h7, Bool.true_eq_false, true_and]
                rfl)
        (fun j best hj hi2 c hc => by
          rcases zbst_in hc with h | h
          · omega
          · have := hi2 c h; omega)
        (fun m' best hi2 => by
          show f_M_one_129L _ (m' + 1) _ _ _ _ _ _ = _
          rw [f_M_one_129L]
          simp (disch := (first | omega | assumption)) only [f_M_one_129, gi_12, gp_12_72, ai_125, zbs, nI_add, pk_mul, znI_add1, znI_sub1, znI_subm, zle_nI, zlt_nI, zeq_nI, zle_0, zeq_0, zlt_0, zeq_m, zeq_1, zge_0, zbt0, zbt1, zB_0, zB_1, zB_b, zbool_0, zbool_1, ↓reduceIte, hC3.2.1.1.2.1.1, Nat.le_refl]) nb 0 none zfu (by omega) (fun c hc => by cases hc) (zfu_lt (by omega))
      have hsel : f_M_one_129L (f_M_one_105L m) zfu (zs I3 J (zPt t u i f s x)) 91 sum (-1) (nI k) 0 = f_M_one_176 (f_M_one_105L m) (zs I3 J (zPt t u i f s x)) 91 sum (zoI (zbest (zokm I3 om) w nb)) (nI k) := hsel
      obtain ⟨d, hd⟩ : ∃ d, 10 - k = d + 1 := ⟨10 - k - 1, by omega⟩
      rw [hd, zsel_succ] at hAL
      have hsp := zbest_spec (zokm I3 om) w nb
      cases hz : zbest (zokm I3 om) w nb with
      | none =>
        rw [hz] at hAL
        dsimp only at hAL
        rw [List.append_nil] at hAL
        rw [hAL] at hk
        omega
      | some b =>
        rw [hz] at hAL hsel hsp
        dsimp only at hAL
        have hb10 : b < 10 := by have := hsp.1; omega
        have hLk : L[k]? = some b := by
          rw [hAL, List.getElem?_append_right (by omega), hA, Nat.sub_self]
          rfl
        have f5 : zfr zSg I3 (zup I3 115 b (nI k)) := zfr_up (zfr_refl _ _) rfl
        obtain ⟨I4, y1, y2, y3⟩ := g_M_lay (J := J) (t := t) (u := u) (i := i) (f := f) (s := s) (x := x) (zLnm_sg h4 f5) (by omega) (nI b)
        have hC4 := zCo_frn hC3 (zfr_trans (zfr_mono f5 zSg_n) (zfr_mono (zfr_mono y2 zSm117) zSnm_n))
        have hz2 : zof L w sh k (sum, V) = (sum + w b * nI (zst sh k), V ++ [nI b]) := by unfold zof; rw [hLk]
        have w1 : I4 125 b = w b := by rw [zfr_row y2 125 (fun _ => rfl), zup_ne _ _ _ (by decide), r125]; exact hw b hb10
        have x6 := g_M_stepsTo (p := k) (J := J) (t := t) (u := u) (i := i) (f := f) (s := s) (x := x) hC4.2.1.2.2.2.1.1 hsh.2.2.1 hsh.2.2.2 (by omega)
        have e2 : k + 1 + 2 * (k / sh) = zst sh k := rfl
        rw [e2] at x6
        have hok4 : zokm I4 om = zwo (zokm I3 om) b := by
          rw [← zokm_1 (I := I3) (b := b) (p := k) (by omega)]
          unfold zokm
          rw [zfr_row y2 115 (fun _ => rfl)]
        have f6 : zfr (fun a k => a == 115 || (a == 117 || (a == 91 && k == 59))) I3 I4 := zfr_trans (zfr_up (zfr_refl _ _) rfl) (zfr_mono y2 (fun a k h => by simp at h ⊢; exact Or.inr h))
        refine ⟨(I4, (sum + w b * nI (zst sh k), V ++ [nI b])), ⟨zfr_trans h1 f6, y3, ?_, ?_, A ++ [b], ?_, ?_⟩, ?_⟩
        · rw [zrn_succ, ← h2, Nat.zero_add]; exact hz2.symm
        · show (V ++ [nI b]).length = k + 1
          rw [List.length_append, List.length_singleton]
          omega
        · rw [List.length_append, List.length_singleton]
          omega
        · dsimp only
          rw [hok4, hAL, show 10 - (k + 1) = d by omega]
          simp
        · show f_M_one_105L (m + 1) _ _ _ _ = _
          rw [f_M_one_105L]
          have hz6 : zbc om ≤ nb := by omega
          have y1 : f_M_lay (zs (zup I3 115 b (nI k)) J (zPt t u i f s x)) 91 (zoI (some b)) = _ := y1
          have w0 : zwI (zs I3 J (zPt t u i f s x)) 1 115 (zoI (some b)) (nI k) = some (zs (zup I3 115 b (nI k)) J (zPt t u i f s x)) := wi_115 hb10
          have w2 : zaI (zs I4 J (zPt t u i f s x)) 1 125 (zoI (some b)) = some (w b) := by
            rw [← w1]
            exact ai_125 hb10
          simp (disch := (first | omega | assumption)) only [f_M_one_105, f_M_one_176, gi_12, gp_12_49, al_111_31, gp_12_53, gp_12_72, wi_115, ai_125, zbs, nI_add, pk_mul, znI_add1, znI_sub1, znI_subm, zle_nI, zlt_nI, zeq_nI, zle_0, zeq_0, zlt_0, zeq_m, zeq_1, zge_0, zbt0, zbt1, zB_0, zB_1, zB_b, zbool_0, zbool_1, ↓reduceIte, hC3.2.1.1.2.1.1, hC3.2.2.2.2.1.1, mm, pk_sub, hle, hsel, w0, y1, w2, x6])
    (fun m Q hi => by
      have hC3 := zCo_frn hC (zfr_mono (S0 Q.1 hi.1) zSnm_n)
      have hle : nb - zbc om ≤ L.length := by have := hO.2.1; omega
      have hz6 : zbc om ≤ nb := by omega
      show f_M_one_105L (m + 1) _ _ _ _ = _
      rw [f_M_one_105L]
      simp (disch := (first | omega | assumption)) only [f_M_one_105, gi_12, gp_12_49, al_111_31, zbs, nI_add, pk_mul, znI_add1, znI_sub1, znI_subm, zle_nI, zlt_nI, zeq_nI, zle_0, zeq_0, zlt_0, zeq_m, zeq_1, zge_0, zbt0, zbt1, zB_0, zB_1, zB_b, zbool_0, zbool_1, ↓reduceIte, hC3.2.1.1.2.1.1, hC3.2.2.2.2.1.1, mm, pk_sub, hle]) L.length 0 (I0, (0, [])) zfu (by omega) ⟨zfr_refl _ _, zLnm_sg hV (zfr_gl z1 (fun a ha k => by simp at ha; subst ha; rfl)), rfl, rfl, [], rfl, hok0.symm⟩ (zfu_lt (by omega))
  refine ⟨Q.1, S0 Q.1 h1, ?_, ?_⟩
  · rw [← h2]; exact h4
  · rw [← h2]
    refine Eq.trans z3 ?_
    unfold f_M_one_99
    exact h3
theorem q_one (hC : zCo I t nt nb nr q sh md om im LW BW) : zOK3 I J t u i f s x (fun σ => f_W_one σ 0) (fun σ => f_M_one σ 91) := by
  have hnb := hC.2.1.1.2.1.2
  have hnr := hC.2.1.1.2.2.1.2
  have f0 : zfr zSnx I (zup I 0 18 0) := zfr_up (zfr_refl _ _) rfl
  have hC0 := zCo_frn hC (zfr_mono f0 zSnx_n)
  have v0 : zLnx (zup I 0 18 0) [] := ⟨zup_s _ _ _ _, fun k v h => by simp at h⟩
  obtain ⟨I1, a1, a2, -, a4, a3⟩ := q_open (J := J) (t := t) (u := u) (i := i) (f := f) (s := s) (x := x) hC0
  obtain ⟨I2, b1, b2, b3, b4⟩ := x_byOdds (J := J) (t := t) (u := u) (i := i) (f := f) (x := x) hC0 a2 a4 a3
  have hO := zsel_Od (v := zrn (zwk (fun r => zbest (zokO om) (zKy (zup I 0 18 0) nt LW r) nb) ((zup I 0 18 0) 110)) nr 0 (fun _ => 0)) (n := nb) 10 (zokO om) (by have := zct_le (zokO om) nb; omega)
  have hct := zct_le (zokO om) nb
  obtain ⟨I3, c1, c2, c3⟩ := x_oneL (J := J) (t := t) (u := u) (i := i) (f := f) (x := x) hC0 (by rw [hO.2.1]; exact hct) (fun b hb => by have := ((hO.2.2 b).mp hb).1; omega) b2 b3 b4 (zLnx_sg v0 b2)
  have f3 : zfr zSnm I3 (zup I3 91 59 0) := zfr_up (zfr_refl _ _) rfl
  have hC3 := zCo_frn hC0 (zfr_trans (zfr_mono c1 zSnx_n) (zfr_mono f3 zSnm_n))
  obtain ⟨I4, d1, d2, d3⟩ := m_one1 (J := J) (t := t) (u := u) (i := i) (f := f) (s := t) (x := x) hC3
  have hky : zKy (zup I3 91 59 0) nt LW = zKy (zup I 0 18 0) nt LW := by
    rw [zKy_frn (zfr_mono f3 zSnm_n), zKy_frn (zfr_mono c1 zSnx_n)]
  have h110 : (zup I3 91 59 0) 110 = (zup I 0 18 0) 110 := by rw [zup_ne _ _ _ (by decide), zfr_row c1 110 (fun _ => rfl)]
  rw [hky, h110] at d3
  obtain ⟨I5, e1, e2, e3⟩ := m_one2 (J := J) (t := t) (u := u) (i := i) (f := f) (s := t) (x := x) (zCo_fr hC3 d2) d3 (zLnm_sg ⟨zup_s _ _ _ _, fun k v h => by simp at h⟩ d2)
  have f5 : zfr zSnm I3 I5 := zfr_trans f3 (zfr_trans (zfr_mono d2 zSg_nm) e1)
  have hlen : (zrn (zof (zsel (zrn (zwk (fun r => zbest (zokO om) (zKy (zup I 0 18 0) nt LW r) nb) ((zup I 0 18 0) 110)) nr 0 (fun _ => 0)) nb 10 (zokO om)) (zrn (zwk (fun r => zbest (zokO om) (zKy (zup I 0 18 0) nt LW r) nb) ((zup I 0 18 0) 110)) nr 0 (fun _ => 0)) sh) (zsel (zrn (zwk (fun r => zbest (zokO om) (zKy (zup I 0 18 0) nt LW r) nb) ((zup I 0 18 0) 110)) nr 0 (fun _ => 0)) nb 10 (zokO om)).length 0 (0, [])).2.length ≤ 10 := by
    rw [zof_len _ (Nat.le_refl _), hO.2.1]
    omega
  generalize (zrn (zof (zsel (zrn (zwk (fun r => zbest (zokO om) (zKy (zup I 0 18 0) nt LW r) nb) ((zup I 0 18 0) 110)) nr 0 (fun _ => 0)) nb 10 (zokO om)) (zrn (zwk (fun r => zbest (zokO om) (zKy (zup I 0 18 0) nt LW r) nb) ((zup I 0 18 0) 110)) nr 0 (fun _ => 0)) sh) (zsel (zrn (zwk (fun r => zbest (zokO om) (zKy (zup I 0 18 0) nt LW r) nb) ((zup I 0 18 0) 110)) nr 0 (fun _ => 0)) nb 10 (zokO om)).length 0 (0, [])) = R at c2 c3 e2 e3 hlen
  refine ⟨R.1, R.2, I3, J, t, I5, J, ?_, ?_, zfr_trans (zfr_mono (zfr_trans f0 c1) zSnx_n) (zfr_mono f5 zSnm_n), Or.inr rfl, zLnx_g c2 f5, e2, hlen⟩
  · show f_W_one _ 0 = _
    simp (disch := (first | omega | assumption)) only [f_W_one, zg_11, si_11, gp_11_9, gp_11_2, gp_11_5, zbs, nI_add, pk_mul, znI_add1, znI_sub1, znI_subm, zle_nI, zlt_nI, zeq_nI, zle_0, zeq_0, zlt_0, zeq_m, zeq_1, zge_0, zbt0, zbt1, zB_0, zB_1, zB_b, zbool_0, zbool_1, ↓reduceIte, a1, b1]
    exact c3
  · show f_M_one _ 91 = _
    simp (disch := (first | omega | assumption)) only [f_M_one, zg_12, si_12, zbs, nI_add, pk_mul, znI_add1, znI_sub1, znI_subm, zle_nI, zlt_nI, zeq_nI, zle_0, zeq_0, zlt_0, zeq_m, zeq_1, zge_0, zbt0, zbt1, zB_0, zB_1, zB_b, zbool_0, zbool_1, ↓reduceIte, d1]
    exact e3
end ZOn
