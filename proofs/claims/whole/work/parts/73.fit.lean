/-! looks; fit -/
def zLk (I : Nat → Nat → Int32) (nb nr nl tm : Nat) : Prop :=
  (I 68 0 = nI nl ∧ I 91 78 = nI nl ∧ nl ≤ 30) ∧ (I 68 1 = nI tm ∧ I 91 79 = nI tm ∧ tm ≤ 100000) ∧
  ∀ l, l < nl → I 71 l = I 126 l ∧ (∃ r, r < nr ∧ I 126 l = nI r) ∧ I 69 l = I 127 l ∧ (∃ a, a < nb ∧ I 127 l = nI a) ∧ I 70 l = I 128 l ∧ (∃ b, b < nb ∧ I 128 l = nI b) ∧ I 72 l = I 129 l ∧ I 73 l = I 130 l ∧ (I 130 l = -1 ∨ ¬ I 130 l < 0)
theorem zLk_fr {I I' : Nat → Nat → Int32} {nb nr nl tm : Nat} (h : zLk I nb nr nl tm) (hf : zfr zSn I I') : zLk I' nb nr nl tm := by
  unfold zLk
  rw [zfr_row hf 68 (fun _ => rfl), hf 91 78 rfl, hf 91 79 rfl, zfr_row hf 69 (fun _ => rfl), zfr_row hf 70 (fun _ => rfl), zfr_row hf 71 (fun _ => rfl), zfr_row hf 72 (fun _ => rfl), zfr_row hf 73 (fun _ => rfl), zfr_row hf 126 (fun _ => rfl), zfr_row hf 127 (fun _ => rfl), zfr_row hf 128 (fun _ => rfl), zfr_row hf 129 (fun _ => rfl), zfr_row hf 130 (fun _ => rfl)]
  exact h
def zcn (I : Nat → Nat → Int32) (r : Nat) (k : Int32) (l : Nat) : Bool := decide (I 126 l = nI r) && (!decide (k < I 129 l) && (decide (I 130 l < 0) || !decide (I 130 l ≤ k)))
def zlkB (I : Nat → Nat → Int32) (Kv : Nat → Int32) (l : Nat) : Bool := zah2 Kv (I 127 l).toNatClampNeg (I 128 l).toNatClampNeg
def zfitB (I : Nat → Nat → Int32) (Kv : Nat → Int32) (r : Nat) (k : Int32) (n : Nat) : Bool := (List.range n).all (fun l => !zcn I r k l || zlkB I Kv l)
theorem zfitB_succ (I : Nat → Nat → Int32) (Kv : Nat → Int32) (r : Nat) (k : Int32) (n : Nat) : zfitB I Kv r k (n + 1) = (zfitB I Kv r k n && (!zcn I r k n || zlkB I Kv n)) := by
  unfold zfitB
  rw [List.range_succ, List.all_append]
  simp
theorem zfitB_no {I : Nat → Nat → Int32} {Kv : Nat → Int32} {r n l : Nat} {k : Int32} (hl : l < n) (h : (!zcn I r k l || zlkB I Kv l) = false) : zfitB I Kv r k n = false := by
  unfold zfitB
  cases hq : (List.range n).all (fun l => !zcn I r k l || zlkB I Kv l) with
  | false => rfl
  | true =>
    have := List.all_eq_true.mp hq l (List.mem_range.mpr hl)
    rw [h] at this
    cases this
theorem zfitB_yes {I : Nat → Nat → Int32} {Kv : Nat → Int32} {r n : Nat} {k : Int32} (h : ∀ l, l < n → (!zcn I r k l || zlkB I Kv l) = true) : zfitB I Kv r k n = true := by
  unfold zfitB
  exact List.all_eq_true.mpr (fun l hl => h l (List.mem_range.mp hl))
theorem zfitB_fr {I I' : Nat → Nat → Int32} {Kv Kv' : Nat → Int32} {nb nr nl tm r : Nat} {k : Int32} (hL : zLk I nb nr nl tm) (hf : zfr zSn I I') (hK : ∀ b, b < nb → Kv' b = Kv b) (hnb : nb ≤ 10) : zfitB I' Kv' r k nl = zfitB I Kv r k nl := by
  have : ∀ n, n ≤ nl → zfitB I' Kv' r k n = zfitB I Kv r k n := by
    intro n
    induction n with
    | zero => intro _; exact (rfl : true = true)
    | succ n ih =>
      intro hn
      rw [zfitB_succ, zfitB_succ, ih (by omega)]
      obtain ⟨-, -, -, ⟨a, ha, ea⟩, -, ⟨b, hb, eb⟩, -⟩ := hL.2.2 n (by omega)
      have e1 : zcn I' r k n = zcn I r k n := by
        unfold zcn
        rw [zfr_row hf 126 (fun _ => rfl), zfr_row hf 129 (fun _ => rfl), zfr_row hf 130 (fun _ => rfl)]
      have e2 : zlkB I' Kv' n = zlkB I Kv n := by
        unfold zlkB zah2
        rw [zfr_row hf 127 (fun _ => rfl), zfr_row hf 128 (fun _ => rfl), ea, eb, nI_clamp (by omega), nI_clamp (by omega), hK a ha, hK b hb]
      rw [e1, e2]
  exact this nl (Nat.le_refl _)
/-- the rows that fit -/
def zfls (B : Nat → Bool) (n : Nat) : List Nat := (List.range n).filter B
theorem zfls_succ (B : Nat → Bool) (n : Nat) : zfls B (n + 1) = if B n = true then zfls B n ++ [n] else zfls B n := by
  unfold zfls
  rw [List.range_succ, List.filter_append]
  by_cases h : B n = true
  · simp [h]
  · simp [h]
theorem zfls_len (B : Nat → Bool) (n : Nat) : (zfls B n).length = zct B n := by
  unfold zfls zct
  rw [List.countP_eq_length_filter]
theorem zfls_mem {B : Nat → Bool} {n v : Nat} (h : v ∈ zfls B n) : v < n ∧ B v = true := by
  unfold zfls at h
  rw [List.mem_filter, List.mem_range] at h
  exact h
section ZFt
variable {I : Nat → Nat → Int32} {J : Nat → Nat → Int64} {t u i f s x : Nat} {nt nb nr q sh md om im A nl tm : Nat} {LW BW : List Int32}
theorem g_L_counts (hL : zLk I nb nr nl tm) {l r : Nat} (hl : l < nl) (hr : r < nr) (hnr : nr ≤ 6) (k : Int32) : f_L_counts (zs I J (zPt t u i f s x)) 68 (nI l) (nI r) k = some (zB (zcn I r k l)) := by
  obtain ⟨⟨-, -, h30⟩, -, hall⟩ := hL
  obtain ⟨e1, ⟨w, hw, ew⟩, -, -, -, -, e4, e5, hun⟩ := hall l hl
  unfold zcn
  by_cases h1 : I 126 l = nI r
  · by_cases h2 : k < I 129 l
    · simp (disch := (first | omega | assumption)) only [f_L_counts, zg_3, gp_3_4, gp_3_5, gp_3_6, ai_71, ai_72, ai_73, zbs, nI_add, pk_mul, znI_add1, znI_sub1, znI_subm, zle_nI, zlt_nI, zeq_nI, zle_0, zeq_0, zlt_0, zeq_m, zeq_1, zge_0, zbt0, zbt1, zB_0, zB_1, zB_b, zbool_0, zbool_1, ↓reduceIte, e1, h1, e4, h2, zbool_0]
      simp [zB]
    · by_cases h3 : I 130 l = -1
      · have h3' : I 130 l < 0 := by rw [h3]; decide
        simp (disch := (first | omega | assumption)) only [f_L_counts, zg_3, gp_3_4, gp_3_5, gp_3_6, ai_71, ai_72, ai_73, zbs, nI_add, pk_mul, znI_add1, znI_sub1, znI_subm, zle_nI, zlt_nI, zeq_nI, zle_0, zeq_0, zlt_0, zeq_m, zeq_1, zge_0, zbt0, zbt1, zB_0, zB_1, zB_b, zbool_0, zbool_1, ↓reduceIte, e1, h1, e4, h2, e5, h3, zbool_1]
        simp [zB]
      · have h3' : ¬ I 130 l < 0 := by
          rcases hun with h | h
          · exact absurd h h3
          · exact h
        by_cases h4 : I 130 l ≤ k
        · simp (disch := (first | omega | assumption)) only [f_L_counts, zg_3, gp_3_4, gp_3_5, gp_3_6, ai_71, ai_72, ai_73, zbs, nI_add, pk_mul, znI_add1, znI_sub1, znI_subm, zle_nI, zlt_nI, zeq_nI, zle_0, zeq_0, zlt_0, zeq_m, zeq_1, zge_0, zbt0, zbt1, zB_0, zB_1, zB_b, zbool_0, zbool_1, ↓reduceIte, e1, h1, e4, h2, e5, h3, h4, zbool_0]
          simp [h2, h3', h4, zB]
        · simp (disch := (first | omega | assumption)) only [f_L_counts, zg_3, gp_3_4, gp_3_5, gp_3_6, ai_71, ai_72, ai_73, zbs, nI_add, pk_mul, znI_add1, znI_sub1, znI_subm, zle_nI, zlt_nI, zeq_nI, zle_0, zeq_0, zlt_0, zeq_m, zeq_1, zge_0, zbt0, zbt1, zB_0, zB_1, zB_b, zbool_0, zbool_1, ↓reduceIte, e1, h1, e4, h2, e5, h3, h4, zbool_1]
          simp [h2, h3', h4, zB]
  · simp (disch := (first | omega | assumption)) only [f_L_counts, zg_3, gp_3_4, gp_3_5, gp_3_6, ai_71, ai_72, ai_73, zbs, nI_add, pk_mul, znI_add1, znI_sub1, znI_subm, zle_nI, zlt_nI, zeq_nI, zle_0, zeq_0, zlt_0, zeq_m, zeq_1, zge_0, zbt0, zbt1, zB_0, zB_1, zB_b, zbool_0, zbool_1, ↓reduceIte, e1, h1, zbool_0]
    simp [zB]
theorem g_R_hasAhead (hA : A = 52 ∨ A = 56) {m r : Nat} {K : Nat → Nat → Int32} (hW : zRw I A nt nb m r K) (hR : (2 * m + 1) ^ nt ≤ 625) (hnb : nb ≤ 10) {v a b : Nat} (hv : v < (2 * m + 1) ^ nt) (ha : a < nb) (hb : b < nb) : f_R_hasAhead (zs I J (zPt t u i f s x)) A (nI v) (nI a) (nI b) = some (zB (zah2 (K v) a b)) := by
  have e1 := hW.2.2.2.2 v a hv ha
  have e2 := hW.2.2.2.2 v b hv hb
  have h3 := g_S_comesAhead (K v a) (K v b) (show a < 10 by omega) (show b < 10 by omega)
  simp (disch := (first | omega | assumption)) only [f_R_hasAhead, zg_6, gp_6_6, ai_6_6, mr10, zbs, nI_add, pk_mul, znI_add1, znI_sub1, znI_subm, zle_nI, zlt_nI, zeq_nI, zle_0, zeq_0, zlt_0, zeq_m, zeq_1, zge_0, zbt0, zbt1, zB_0, zB_1, zB_b, zbool_0, zbool_1, ↓reduceIte, e1, e2, h3]
  rfl
theorem g_R_isFitting (hA : A = 52 ∨ A = 56) {m r : Nat} {K : Nat → Nat → Int32} (hW : zRw I A nt nb m r K) (hR : (2 * m + 1) ^ nt ≤ 625) (hnb : nb ≤ 10) (hL : zLk I nb nr nl tm) (hr : r < nr) (hnr : nr ≤ 6) (k : Int32) {v : Nat} (hv : v < (2 * m + 1) ^ nt) : f_R_isFitting (zs I J (zPt t u i f s x)) A (nI v) 68 k = some (zB (zfitB I (K v) r k nl)) := by
  have h30 := hL.1.2.2
  have h := zforW (fun fuel (_ : Unit) l => f_R_isFitting_3L fuel (zs I J (zPt t u i f s x)) A (nI v) 68 k (nI l)) nl (fun l _ => ∀ j, j < l → (!zcn I r k j || zlkB I (K v) j) = true) (fun res => res = some (zB (zfitB I (K v) r k nl)))
    (fun m' l _ hl hi => by
      have hle : ¬ nl ≤ l := by omega
      have c1 := g_L_counts (J := J) (t := t) (u := u) (i := i) (f := f) (s := s) (x := x) hL hl hr hnr k
      obtain ⟨-, -, e3, ⟨a, ha, ea⟩, e4, ⟨b, hb, eb⟩, -⟩ := hL.2.2 l hl
      have h2 := g_R_hasAhead (J := J) (t := t) (u := u) (i := i) (f := f) (s := s) (x := x) hA hW hR hnb hv ha hb
      have e3' : I 69 l = nI a := e3.trans ea
      have e4' : I 70 l = nI b := e4.trans eb
      have ez : zlkB I (K v) l = zah2 (K v) a b := by
        unfold zlkB
        rw [ea, eb, nI_clamp (by omega), nI_clamp (by omega)]
      show f_R_isFitting_3L (m' + 1) _ _ _ _ _ _ = _ ∨ ∃ s', _ ∧ f_R_isFitting_3L (m' + 1) _ _ _ _ _ _ = _
      rw [f_R_isFitting_3L]
      cases hc : zcn I r k l with
      | false =>
        rw [hc] at c1
        right
        refine ⟨(), fun j hj => ?_, ?_⟩
        · by_cases hjl : j = l
          · subst hjl; rw [hc]; rfl
          · exact hi j (by omega)
        · simp (disch := (first | omega | assumption)) only [f_R_isFitting_3, gi_3, gi_6, gp_3_2, gp_3_3, ai_69, ai_70, zbs, nI_add, pk_mul, znI_add1, znI_sub1, znI_subm, zle_nI, zlt_nI, zeq_nI, zle_0, zeq_0, zlt_0, zeq_m, zeq_1, zge_0, zbt0, zbt1, zB_0, zB_1, zB_b, zbool_0, zbool_1, ↓reduceIte, hL.1.1, hle, hW.1, c1]
      | true =>
        rw [hc] at c1
        cases hz : zah2 (K v) a b with
        | false =>
          rw [hz] at h2
          left
          rw [zfitB_no hl (by rw [hc, ez, hz]; rfl)]
          simp (disch := (first | omega | assumption)) only [f_R_isFitting_3, gi_3, gi_6, gp_3_2, gp_3_3, ai_69, ai_70, zbs, nI_add, pk_mul, znI_add1, znI_sub1, znI_subm, zle_nI, zlt_nI, zeq_nI, zle_0, zeq_0, zlt_0, zeq_m, zeq_1, zge_0, zbt0, zbt1, zB_0, zB_1, zB_b, zbool_0, zbool_1, ↓reduceIte, hL.1.1, hle, hW.1, c1, e3', e4', h2, Bool.true_eq_false]
          rfl
        | true =>
          rw [hz] at h2
          right
          refine ⟨(), fun j hj => ?_, ?_⟩
          · by_cases hjl : j = l
            · subst hjl; rw [hc, ez, hz]; rfl
            · exact hi j (by omega)
          · simp (disch := (first | omega | assumption)) only [f_R_isFitting_3, gi_3, gi_6, gp_3_2, gp_3_3, ai_69, ai_70, zbs, nI_add, pk_mul, znI_add1, znI_sub1, znI_subm, zle_nI, zlt_nI, zeq_nI, zle_0, zeq_0, zlt_0, zeq_m, zeq_1, zge_0, zbt0, zbt1, zB_0, zB_1, zB_b, zbool_0, zbool_1, ↓reduceIte, hL.1.1, hle, hW.1, c1, e3', e4', h2, Bool.true_eq_false])
    (fun m' _ hi => by
      show f_R_isFitting_3L (m' + 1) _ _ _ _ _ _ = _
      rw [f_R_isFitting_3L, zfitB_yes hi]
      simp (disch := (first | omega | assumption)) only [f_R_isFitting_3, gi_3, gi_6, gp_3_2, gp_3_3, ai_69, ai_70, zbs, nI_add, pk_mul, znI_add1, znI_sub1, znI_subm, zle_nI, zlt_nI, zeq_nI, zle_0, zeq_0, zlt_0, zeq_m, zeq_1, zge_0, zbt0, zbt1, zB_0, zB_1, zB_b, zbool_0, zbool_1, ↓reduceIte, hL.1.1, Nat.le_refl]
      rfl) nl 0 () zfu (by omega) (fun j hj => by omega) (zfu_lt (by omega))
  have h : f_R_isFitting_3L zfu (zs I J (zPt t u i f s x)) A (nI v) 68 k 0 = _ := h
  simp (disch := (first | omega | assumption)) only [f_R_isFitting, zg_6, zbs, nI_add, pk_mul, znI_add1, znI_sub1, znI_subm, zle_nI, zlt_nI, zeq_nI, zle_0, zeq_0, zlt_0, zeq_m, zeq_1, zge_0, zbt0, zbt1, zB_0, zB_1, zB_b, zbool_0, zbool_1, ↓reduceIte, h]
theorem g_R_keepFitting (hA : A = 52 ∨ A = 56) {m r : Nat} {K : Nat → Nat → Int32} (hW : zRw I A nt nb m r K) (hR : (2 * m + 1) ^ nt ≤ 625) (hnb : nb ≤ 10) (hL : zLk I nb nr nl tm) (hr : r < nr) (hnr : nr ≤ 6) (k : Int32) :
    ∃ I', f_R_keepFitting (zs I J (zPt t u i f s x)) A 68 k = some (zs I' J (zPt t u i f s x)) ∧ zfr (fun a k => a == A + 3 || (a == A && k == 0)) I I' ∧ I' A 0 = nI (zfls (fun v => zfitB I (K v) r k nl) ((2 * m + 1) ^ nt)).length ∧ ∀ j v, (zfls (fun v => zfitB I (K v) r k nl) ((2 * m + 1) ^ nt))[j]? = some v → I' (A + 3) j = nI v := by
  obtain ⟨I', ⟨a1, a2, a3⟩, a4⟩ := zfor (fun fuel I' v => f_R_keepFitting_7L fuel (zs I' J (zPt t u i f s x)) A 68 k (nI v)) ((2 * m + 1) ^ nt)
    (fun n I' => zfr (fun a k => a == A + 3 || (a == A && k == 0)) I I' ∧ I' A 0 = nI (zfls (fun v => zfitB I (K v) r k nl) n).length ∧ ∀ j v, (zfls (fun v => zfitB I (K v) r k nl) n)[j]? = some v → I' (A + 3) j = nI v)
    (fun I' => some (zs I' J (zPt t u i f s x)))
    (fun m' v I' hv hi => by
      obtain ⟨i1, i2, i3⟩ := hi
      have R : ∀ a, a ≠ A + 3 → a ≠ A → I' a = I a := fun a h1 h2 => zfr_row i1 a (fun k => by simp [h1, h2])
      have RA : ∀ k, k ≠ 0 → I' A k = I A k := fun k hk => i1 A k (by simp [hk])
      have hW' : zRw I' A nt nb m r K := by
        unfold zRw
        rw [RA 2 (by decide), RA 3 (by decide), RA 4 (by decide), R (A + 1) (by omega) (by omega), R (A + 2) (by omega) (by omega)]
        exact hW
      have hf : zfr zSn I I' := zfr_mono i1 (fun a k h => by
        simp at h
        rcases h with rfl | ⟨rfl, -⟩
        · rcases hA with rfl | rfl <;> rfl
        · rcases hA with rfl | rfl <;> rfl)
      have hL' := zLk_fr hL hf
      have hfit := g_R_isFitting (J := J) (t := t) (u := u) (i := i) (f := f) (s := s) (x := x) hA hW' hR hnb hL' hr hnr k hv
      rw [zfitB_fr hL hf (fun _ _ => rfl) hnb] at hfit
      have hle : ¬ (2 * m + 1) ^ nt ≤ v := by omega
      have hlen : (zfls (fun v => zfitB I (K v) r k nl) v).length ≤ v := by rw [zfls_len]; exact zct_le _ _
      rw [zfls_succ]
      cases hq : zfitB I (K v) r k nl with
      | false =>
        rw [hq] at hfit
        refine ⟨I', ⟨i1, ?_, ?_⟩, ?_⟩
        · rw [if_neg (by simp)]; exact i2
        · rw [if_neg (by simp)]; exact i3
        · show f_R_keepFitting_7L (m' + 1) _ _ _ _ _ = _
          rw [f_R_keepFitting_7L]
          simp (disch := (first | omega | assumption)) only [f_R_keepFitting_7, gi_6, si_6, gp_6_7, wi_6_7, zbs, nI_add, pk_mul, znI_add1, znI_sub1, znI_subm, zle_nI, zlt_nI, zeq_nI, zle_0, zeq_0, zlt_0, zeq_m, zeq_1, zge_0, zbt0, zbt1, zB_0, zB_1, zB_b, zbool_0, zbool_1, ↓reduceIte, hW'.2.2.1, hle, hfit]
      | true =>
        rw [hq] at hfit
        have e0 : ∀ y, zup I' (A + 3) (zfls (fun v => zfitB I (K v) r k nl) v).length y A = I' A := fun y => zup_ne _ _ _ (by omega)
        refine ⟨zup (zup I' (A + 3) (zfls (fun v => zfitB I (K v) r k nl) v).length (nI v)) A 0 (nI ((zfls (fun v => zfitB I (K v) r k nl) v).length + 1)), ⟨zfr_up (zfr_up i1 (by simp)) (by simp), ?_, ?_⟩, ?_⟩
        · rw [if_pos rfl, zup_s, List.length_append]; rfl
        · rw [if_pos rfl]
          intro j w hj
          rw [zup_ne _ _ _ (by omega)]
          by_cases hjl : j = (zfls (fun v => zfitB I (K v) r k nl) v).length
          · subst hjl
            rw [zup_s]
            rw [List.getElem?_concat_length] at hj
            rw [Option.some.inj hj]
          · rw [zup_k _ _ hjl]
            have h1 := (List.getElem?_eq_some_iff.mp hj).1
            rw [List.length_append, List.length_singleton] at h1
            rw [List.getElem?_append_left (by omega)] at hj
            exact i3 j w hj
        · show f_R_keepFitting_7L (m' + 1) _ _ _ _ _ = _
          rw [f_R_keepFitting_7L]
          simp (disch := (first | omega | assumption)) only [f_R_keepFitting_7, gi_6, si_6, gp_6_7, wi_6_7, zbs, nI_add, pk_mul, znI_add1, znI_sub1, znI_subm, zle_nI, zlt_nI, zeq_nI, zle_0, zeq_0, zlt_0, zeq_m, zeq_1, zge_0, zbt0, zbt1, zB_0, zB_1, zB_b, zbool_0, zbool_1, ↓reduceIte, hW'.2.2.1, hle, hfit, i2, e0, Bool.true_eq_false])
    (fun m' I' hi => by
      have RA : I' A 4 = I A 4 := hi.1 A 4 (by simp)
      show f_R_keepFitting_7L (m' + 1) _ _ _ _ _ = _
      rw [f_R_keepFitting_7L]
      simp (disch := (first | omega | assumption)) only [f_R_keepFitting_7, gi_6, si_6, gp_6_7, wi_6_7, zbs, nI_add, pk_mul, znI_add1, znI_sub1, znI_subm, zle_nI, zlt_nI, zeq_nI, zle_0, zeq_0, zlt_0, zeq_m, zeq_1, zge_0, zbt0, zbt1, zB_0, zB_1, zB_b, zbool_0, zbool_1, ↓reduceIte, RA, hW.2.2.1, Nat.le_refl]) ((2 * m + 1) ^ nt) 0 (zup I A 0 0) zfu (by omega) ⟨zfr_up (zfr_refl _ _) (by simp), zup_s _ _ _ _, fun j v h => by simp [zfls] at h⟩ (zfu_lt (by omega))
  refine ⟨I', ?_, a1, a2, a3⟩
  simp (disch := (first | omega | assumption)) only [f_R_keepFitting, zg_6, si_6, zbs, nI_add, pk_mul, znI_add1, znI_sub1, znI_subm, zle_nI, zlt_nI, zeq_nI, zle_0, zeq_0, zlt_0, zeq_m, zeq_1, zge_0, zbt0, zbt1, zB_0, zB_1, zB_b, zbool_0, zbool_1, ↓reduceIte]
  exact a4
/-- the class has found what fits -/
theorem g_W_findFitting (hC : zCo I t nt nb nr q sh md om im LW BW) (hL : zLk I nb nr nl tm) {m r : Nat} (hm : m ≤ 2) (hr : r < nr) (k : Int32) :
    ∃ I', f_W_findFitting (zs I J (zPt t u i f s x)) 0 (nI r) (nI m) k = some (zs I' J (zPt t u i f t x)) ∧ zfr zSg I I' ∧ zRw I' 52 nt nb m r (fun v b => zkm I nt LW (zcell m nt v) r b) ∧ I' 52 0 = nI (zfls (fun v => zfitB I (fun b => zkm I nt LW (zcell m nt v) r b) r k nl) ((2 * m + 1) ^ nt)).length ∧ ∀ j v, (zfls (fun v => zfitB I (fun b => zkm I nt LW (zcell m nt v) r b) r k nl) ((2 * m + 1) ^ nt))[j]? = some v → I' 55 j = nI v := by
  have ht := hC.1
  have hnb := hC.2.1.1.2.1.2
  have hnr := hC.2.1.1.2.2.1.2
  have hnt := hC.2.1.1.1.2
  have hR := zR_le (m := m) hm hnt
  obtain ⟨I1, a1, a2, -, -, -⟩ := q_open (J := J) (t := t) (u := u) (i := i) (f := f) (s := s) (x := x) hC
  have hC1 := zCo_fr hC a2
  obtain ⟨I2, b1, b2, -, b3⟩ := g_R_fill (A := 52) (J := J) (t := t) (u := u) (i := i) (f := f) (x := x) (Or.inl rfl) hC1 hm hr
  have f2 : zfr zSg I1 I2 := zfr_g b2 (zSg_rs (Or.inl rfl) ht)
  have hL2 := zLk_fr hL (zfr_mono (zfr_trans a2 f2) zSg_n)
  obtain ⟨I3, c1, c2, c3, c4⟩ := g_R_keepFitting (A := 52) (J := J) (t := t) (u := u) (i := i) (f := f) (s := t) (x := x) (Or.inl rfl) b3 hR hnb hL2 hr hnr k
  have f3 : zfr zSg I2 I3 := zfr_mono c2 (fun a k h => by
    simp at h
    rcases h with rfl | ⟨rfl, -⟩ <;> rfl)
  have eK : ∀ v, (fun b => zkm I1 nt LW (zcell m nt v) r b) = fun b => zkm I nt LW (zcell m nt v) r b := fun v => by
    funext b
    unfold zkm
    rw [zfr_row a2 107 (fun _ => rfl), zfr_row a2 109 (fun _ => rfl), zfr_row a2 111 (fun _ => rfl)]
  have eF : (fun v => zfitB I2 (fun b => zkm I1 nt LW (zcell m nt v) r b) r k nl) = fun v => zfitB I (fun b => zkm I nt LW (zcell m nt v) r b) r k nl := by
    funext v
    rw [eK v]
    exact zfitB_fr hL (zfr_mono (zfr_trans a2 f2) zSg_n) (fun _ _ => rfl) hnb
  rw [eF] at c3 c4
  refine ⟨I3, ?_, zfr_trans a2 (zfr_trans f2 f3), ?_, c3, c4⟩
  · simp (disch := (first | omega | assumption)) only [f_W_findFitting, zg_11, gp_11_9, gp_11_2, gp_11_5, gp_11_10, gp_11_14, zbs, nI_add, pk_mul, znI_add1, znI_sub1, znI_subm, zle_nI, zlt_nI, zeq_nI, zle_0, zeq_0, zlt_0, zeq_m, zeq_1, zge_0, zbt0, zbt1, zB_0, zB_1, zB_b, zbool_0, zbool_1, ↓reduceIte, a1, b1, c1]
  · have R : ∀ a, a ≠ 55 → a ≠ 52 → I3 a = I2 a := fun a h1 h2 => zfr_row c2 a (fun k => by simp [h1, h2])
    have RA : ∀ k, k ≠ 0 → I3 52 k = I2 52 k := fun k hk => c2 52 k (by simp [hk])
    have eK2 : (fun v b => zkm I1 nt LW (zcell m nt v) r b) = fun v b => zkm I nt LW (zcell m nt v) r b := by
      funext v
      exact eK v
    rw [← eK2]
    unfold zRw
    rw [RA 2 (by decide), RA 3 (by decide), RA 4 (by decide), R (52 + 1) (by decide) (by decide), R (52 + 2) (by decide) (by decide)]
    exact b3
end ZFt
