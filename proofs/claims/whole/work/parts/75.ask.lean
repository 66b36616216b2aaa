/-! ask -/
def zaf (O : Nat → Nat → Nat) (a b : Nat) (p : Option Nat × Nat) : Option Nat × Nat := if O a b < p.2 then (some (10 * a + b), O a b) else p
def zao (O : Nat → Nat → Nat) (n a : Nat) (p : Option Nat × Nat) : Option Nat × Nat := zrn (zaf O a) (n - (a + 1)) (a + 1) p
theorem zask_rel {O : Nat → Nat → Nat} {n N : Nat} (hO : ∀ a b, O a b ≤ N) (hN : N < 1000000) (hn : 2 ≤ n) : zrn (zao O n) n 0 (none, N + 1) = zrn (zao O n) n 0 (none, 1000000) := by
  have h := zrn_rel (zao O n) (zao O n) n (fun k p p' => (k = 0 ∧ p = (none, N + 1) ∧ p' = (none, 1000000)) ∨ (0 < k ∧ p = p')) (fun k p p' hk hi => by
    rcases hi with ⟨rfl, rfl, rfl⟩ | ⟨h0, rfl⟩
    · right
      refine ⟨by omega, ?_⟩
      have g := zrn_rel (zaf O 0) (zaf O 0) n (fun j p p' => (j = 1 ∧ p = (none, N + 1) ∧ p' = (none, 1000000)) ∨ (1 < j ∧ p = p')) (fun j p p' hj hi2 => by
        right
        refine ⟨by rcases hi2 with h | h <;> omega, ?_⟩
        rcases hi2 with ⟨rfl, rfl, rfl⟩ | ⟨h0, rfl⟩
        · have := hO 0 1
          unfold zaf
          rw [if_pos (show O 0 1 < N + 1 by omega), if_pos (show O 0 1 < 1000000 by omega)]
        · rfl) (n - 1) 1 (none, N + 1) (none, 1000000) (by omega) (Or.inl ⟨rfl, rfl, rfl⟩)
      rcases g with ⟨h, -⟩ | ⟨-, h⟩
      · omega
      · exact h
    · right
      exact ⟨by omega, rfl⟩) n 0 (none, N + 1) (none, 1000000) (by omega) (Or.inl ⟨rfl, rfl, rfl⟩)
  rcases h with ⟨h, -⟩ | ⟨-, h⟩
  · omega
  · exact h
/-- how many are left at the most -/
def zow (n T : Nat) : Nat := if T < n - T then n - T else T
theorem zow_le {n T : Nat} (h : T ≤ n) : zow n T ≤ n := by
  unfold zow
  split <;> omega
theorem zcp_le (F : List Nat) (p : Nat → Bool) : F.countP p ≤ F.length := List.countP_le_length
section ZAs
variable {I : Nat → Nat → Int32} {J : Nat → Nat → Int64} {t u i f s x : Nat} {nt nb nr q sh md om im nl tm : Nat} {LW BW : List Int32}
theorem g_R_leftAtMost {m r : Nat} {K : Nat → Nat → Int32} (hR : (2 * m + 1) ^ nt ≤ 625) (hnb : nb ≤ 10) (hW : zRw I 52 nt nb m r K) {F : List Nat} (h0 : I 52 0 = nI F.length) (hF : ∀ j v, F[j]? = some v → I 55 j = nI v) (hFb : ∀ v, v ∈ F → v < (2 * m + 1) ^ nt) (hFl : F.length ≤ 625) {a b : Nat} (ha : a < nb) (hb : b < nb) : f_R_leftAtMost (zs I J (zPt t u i f s x)) 52 (nI a) (nI b) = some (nI (zow F.length (F.countP (fun v => zah2 (K v) a b)))) := by
  have h := zforF (fun fuel (p : Nat) j => f_R_leftAtMost_5L fuel (zs I J (zPt t u i f s x)) 52 (nI a) (nI b) (nI p) (nI j)) F.length (fun j p => match F[j]? with | none => p | some v => if zah2 (K v) a b = true then p + 1 else p) (fun _ _ => True) (fun p => f_R_leftAtMost_39 (zs I J (zPt t u i f s x)) 52 (nI p))
    (fun m' j p hj _ => by
      have hle : ¬ F.length ≤ j := by omega
      have e : F[j]? = some (F[j]'hj) := List.getElem?_eq_getElem hj
      have e1 := hF j _ e
      have e2 := g_R_hasAhead (J := J) (t := t) (u := u) (i := i) (f := f) (s := s) (x := x) (A := 52) (Or.inl rfl) hW hR hnb (hFb _ (List.mem_of_getElem? e)) ha hb
      show f_R_leftAtMost_5L (m' + 1) _ _ _ _ _ _ = _
      rw [f_R_leftAtMost_5L, e]
      dsimp only
      cases hz : zah2 (K (F[j]'hj)) a b with
      | false =>
        rw [hz] at e2
        simp (disch := (first | omega | assumption)) only [f_R_leftAtMost_5, gi_6, gp_6_7, ai_6_7, zbs, nI_add, pk_mul, znI_add1, znI_sub1, znI_subm, zle_nI, zlt_nI, zeq_nI, zle_0, zeq_0, zlt_0, zeq_m, zeq_1, zge_0, zbt0, zbt1, zB_0, zB_1, zB_b, zbool_0, zbool_1, ↓reduceIte, h0, hle, e1, e2, Bool.false_eq_true]
      | true =>
        rw [hz] at e2
        simp (disch := (first | omega | assumption)) only [f_R_leftAtMost_5, gi_6, gp_6_7, ai_6_7, zbs, nI_add, pk_mul, znI_add1, znI_sub1, znI_subm, zle_nI, zlt_nI, zeq_nI, zle_0, zeq_0, zlt_0, zeq_m, zeq_1, zge_0, zbt0, zbt1, zB_0, zB_1, zB_b, zbool_0, zbool_1, ↓reduceIte, h0, hle, e1, e2, Bool.true_eq_false]) (fun _ _ _ _ => trivial)
    (fun m' p _ => by
      show f_R_leftAtMost_5L (m' + 1) _ _ _ _ _ _ = _
      rw [f_R_leftAtMost_5L]
      simp (disch := (first | omega | assumption)) only [f_R_leftAtMost_5, gi_6, gp_6_7, ai_6_7, zbs, nI_add, pk_mul, znI_add1, znI_sub1, znI_subm, zle_nI, zlt_nI, zeq_nI, zle_0, zeq_0, zlt_0, zeq_m, zeq_1, zge_0, zbt0, zbt1, zB_0, zB_1, zB_b, zbool_0, zbool_1, ↓reduceIte, h0, Nat.le_refl]) F.length 0 0 zfu (by omega) trivial (zfu_lt (by omega))
  have hz : ∀ d, d ≤ F.length → zrn (fun j p => match F[j]? with | none => p | some v => if zah2 (K v) a b = true then p + 1 else p) d 0 0 = (F.take d).countP (fun v => zah2 (K v) a b) := by
    intro d
    induction d with
    | zero => intro _; rfl
    | succ d ih =>
      intro hd
      have e : F[d]? = some (F[d]'(by omega)) := List.getElem?_eq_getElem (by omega)
      rw [zrn_succ, ih (by omega), Nat.zero_add, e, List.take_succ, e, List.countP_append]
      dsimp only [Option.toList]
      rw [List.countP_singleton]
      split <;> simp_all
  rw [hz F.length (Nat.le_refl _), List.take_length] at h
  have hT := zcp_le F (fun v => zah2 (K v) a b)
  generalize F.countP (fun v => zah2 (K v) a b) = T at h hT
  have h : f_R_leftAtMost_5L zfu (zs I J (zPt t u i f s x)) 52 (nI a) (nI b) 0 0 = _ := h
  have e3 : zmax (nI T) (nI (F.length - T)) = nI (zow F.length T) := by
    unfold zmax zow
    by_cases hlt : T < F.length - T
    · rw [if_pos hlt, if_pos (nI_lt hlt (by omega))]
    · rw [if_neg hlt, if_neg (nI_nlt (by omega) (by omega))]
  simp (disch := (first | omega | assumption)) only [f_R_leftAtMost, f_R_leftAtMost_39, zg_6, gi_6, zbs, nI_add, pk_mul, znI_add1, znI_sub1, znI_subm, zle_nI, zlt_nI, zeq_nI, zle_0, zeq_0, zlt_0, zeq_m, zeq_1, zge_0, zbt0, zbt1, zB_0, zB_1, zB_b, zbool_0, zbool_1, ↓reduceIte, h, h0, pk_sub, e3]
theorem x_askL (hC : zCo I t nt nb nr q sh md om im LW BW) {I1 : Nat → Nat → Int32} (hf1 : zfr zSg I I1) {m r : Nat} {K : Nat → Nat → Int32} (hR : (2 * m + 1) ^ nt ≤ 625) (hW : zRw I1 52 nt nb m r K) {F : List Nat} (h0 : I1 52 0 = nI F.length) (hF : ∀ j v, F[j]? = some v → I1 55 j = nI v) (hFb : ∀ v, v ∈ F → v < (2 * m + 1) ^ nt) (hFl : F.length ≤ 625) (w : Int32) :
    f_W_ask_74L zfu (zs I1 J (zPt t u i f t x)) 0 w (-1) (nI (F.length + 1)) 0 = f_W_ask_150 (zs I1 J (zPt t u i f t x)) w (zoI (zrn (zao (fun a b => zow F.length (F.countP (fun v => zah2 (K v) a b))) nb) nb 0 (none, F.length + 1)).1) (nI (zrn (zao (fun a b => zow F.length (F.countP (fun v => zah2 (K v) a b))) nb) nb 0 (none, F.length + 1)).2) := by
  have ht := hC.1
  have hnb := hC.2.1.1.2.1.2
  have m1 : I1 t 1 = nI nb := (zCo_fr hC hf1).2.1.2.1.2.1.1
  have hOb : ∀ a b, zow F.length (F.countP (fun v => zah2 (K v) a b)) ≤ F.length := fun a b => zow_le (zcp_le _ _)
  have inner : ∀ m' k (p : Option Nat × Nat), k < nb → p.2 ≤ F.length + 1 → f_W_ask_92L (f_W_ask_74L m') zfu (zs I1 J (zPt t u i f t x)) 0 w (zoI p.1) (nI p.2) (nI k) (nI (k + 1)) = f_W_ask_74L m' (zs I1 J (zPt t u i f t x)) 0 w (zoI (zao (fun a b => zow F.length (F.countP (fun v => zah2 (K v) a b))) nb k p).1) (nI (zao (fun a b => zow F.length (F.countP (fun v => zah2 (K v) a b))) nb k p).2) (nI (k + 1)) := fun m' k p hk hp => by
    exact zforF (fun fuel (p : Option Nat × Nat) j => f_W_ask_92L (f_W_ask_74L m') fuel (zs I1 J (zPt t u i f t x)) 0 w (zoI p.1) (nI p.2) (nI k) (nI j)) nb (zaf (fun a b => zow F.length (F.countP (fun v => zah2 (K v) a b))) k) (fun _ p => p.2 ≤ F.length + 1) (fun p => f_W_ask_74L m' (zs I1 J (zPt t u i f t x)) 0 w (zoI p.1) (nI p.2) (nI (k + 1)))
      (fun m2 j p hj hi => by
        have hle : ¬ nb ≤ j := by omega
        have hl := g_R_leftAtMost (J := J) (t := t) (u := u) (i := i) (f := f) (s := t) (x := x) hR hnb hW h0 hF hFb hFl hk hj
        have hOj := hOb k j
        show f_W_ask_92L _ (m2 + 1) _ _ _ _ _ _ _ = _
        rw [f_W_ask_92L]
        unfold zaf
        by_cases hlt : zow F.length (F.countP (fun v => zah2 (K v) k j)) < p.2
        · have hlt2 : ¬ p.2 ≤ zow F.length (F.countP (fun v => zah2 (K v) k j)) := by omega
          simp (disch := (first | omega | assumption)) only [f_W_ask_92, gi_10, gp_11_2, gp_11_10, ml10, zbs, nI_add, pk_mul, znI_add1, znI_sub1, znI_subm, zle_nI, zlt_nI, zeq_nI, zle_0, zeq_0, zlt_0, zeq_m, zeq_1, zge_0, zbt0, zbt1, zB_0, zB_1, zB_b, zbool_0, zbool_1, ↓reduceIte, m1, hle, hl, hlt, hlt2]
          rfl
        · have hlt2 : p.2 ≤ zow F.length (F.countP (fun v => zah2 (K v) k j)) := by omega
          simp (disch := (first | omega | assumption)) only [f_W_ask_92, gi_10, gp_11_2, gp_11_10, ml10, zbs, nI_add, pk_mul, znI_add1, znI_sub1, znI_subm, zle_nI, zlt_nI, zeq_nI, zle_0, zeq_0, zlt_0, zeq_m, zeq_1, zge_0, zbt0, zbt1, zB_0, zB_1, zB_b, zbool_0, zbool_1, ↓reduceIte, m1, hle, hl, hlt, hlt2])
      (fun j p hj hi => by
        unfold zaf
        split
        · have := hOb k j
          show zow F.length (F.countP (fun v => zah2 (K v) k j)) ≤ F.length + 1
          omega
        · exact hi)
      (fun m2 p hi => by
        show f_W_ask_92L _ (m2 + 1) _ _ _ _ _ _ _ = _
        rw [f_W_ask_92L]
        simp (disch := (first | omega | assumption)) only [f_W_ask_92, gi_10, gp_11_2, gp_11_10, ml10, zbs, nI_add, pk_mul, znI_add1, znI_sub1, znI_subm, zle_nI, zlt_nI, zeq_nI, zle_0, zeq_0, zlt_0, zeq_m, zeq_1, zge_0, zbt0, zbt1, zB_0, zB_1, zB_b, zbool_0, zbool_1, ↓reduceIte, m1, Nat.le_refl]) (nb - (k + 1)) (k + 1) p zfu (by omega) hp (zfu_lt (by omega))
  have h := zforF (fun fuel (p : Option Nat × Nat) k => f_W_ask_74L fuel (zs I1 J (zPt t u i f t x)) 0 w (zoI p.1) (nI p.2) (nI k)) nb (zao (fun a b => zow F.length (F.countP (fun v => zah2 (K v) a b))) nb) (fun _ p => p.2 ≤ F.length + 1) (fun p => f_W_ask_150 (zs I1 J (zPt t u i f t x)) w (zoI p.1) (nI p.2))
    (fun m' k p hk hi => by
      have hle : ¬ nb ≤ k := by omega
      show f_W_ask_74L (m' + 1) _ _ _ _ _ _ = _
      rw [f_W_ask_74L]
      simp (disch := (first | omega | assumption)) only [f_W_ask_74, gi_10, gp_11_2, zbs, nI_add, pk_mul, znI_add1, znI_sub1, znI_subm, zle_nI, zlt_nI, zeq_nI, zle_0, zeq_0, zlt_0, zeq_m, zeq_1, zge_0, zbt0, zbt1, zB_0, zB_1, zB_b, zbool_0, zbool_1, ↓reduceIte, m1, hle]
      exact inner m' k p hk hi)
    (fun k p hk hi => by
      unfold zao
      exact zrn_inv (zaf (fun a b => zow F.length (F.countP (fun v => zah2 (K v) a b))) k) nb (fun _ p => p.2 ≤ F.length + 1) (fun j p hj hi => by
        unfold zaf
        split
        · have := hOb k j
          show zow F.length (F.countP (fun v => zah2 (K v) k j)) ≤ F.length + 1
          omega
        · exact hi) (nb - (k + 1)) (k + 1) p (by omega) hi)
    (fun m' p hi => by
      show f_W_ask_74L (m' + 1) _ _ _ _ _ _ = _
      rw [f_W_ask_74L]
      simp (disch := (first | omega | assumption)) only [f_W_ask_74, gi_10, gp_11_2, zbs, nI_add, pk_mul, znI_add1, znI_sub1, znI_subm, zle_nI, zlt_nI, zeq_nI, zle_0, zeq_0, zlt_0, zeq_m, zeq_1, zge_0, zbt0, zbt1, zB_0, zB_1, zB_b, zbool_0, zbool_1, ↓reduceIte, m1, Nat.le_refl]) nb 0 (none, F.length + 1) zfu (by omega) (Nat.le_refl _) (zfu_lt (by omega))
  exact h
theorem m_askT (hC : zCo I t nt nb nr q sh md om im LW BW) (hL : zLk I nb nr nl tm) {m r : Nat} (hm : m ≤ 2) (hr : r < nr) (k w : Int32) :
    ∃ I', f_M_ask_39L zfu (zs I J (zPt t u i f s x)) 91 (nI r) (nI m) w k 0 = f_M_ask_168 (zs I' J (zPt t u i f s x)) 91 w (nI (zfls (fun v => zfitB I (fun b => zkm I nt LW (zcell m nt v) r b) r k nl) ((2 * m + 1) ^ nt)).length) ∧ zfr zSg I I' ∧ ∀ a b, a < b → b < nb → I' 131 (10 * a + b) = nI ((zfls (fun v => zfitB I (fun b => zkm I nt LW (zcell m nt v) r b) r k nl) ((2 * m + 1) ^ nt)).countP (fun v => zah2 (fun b => zkm I nt LW (zcell m nt v) r b) a b)) := by
  have hM := hC.2.1.1
  have hnb := hM.2.1.2
  have hnr := hM.2.2.1.2
  have hnt := hM.1.2
  have hR := zR_le (m := m) hm hM.1.2
  obtain ⟨I0, ⟨z1, z2⟩, z3⟩ := zfor (fun fuel I' j => f_M_ask_39L fuel (zs I' J (zPt t u i f s x)) 91 (nI r) (nI m) w k (nI j)) 100 (fun j I' => zfr (zSl [131]) I I' ∧ ∀ l, l < j → I' 131 l = 0) (fun I' => f_M_ask_66L zfu (zs I' J (zPt t u i f s x)) 91 (nI r) (nI m) w k 0 0)
    (fun m' j I' hj hi => by
      have hle : ¬ 100 ≤ j := by omega
      refine ⟨zup I' 131 j 0, ⟨zfr_up hi.1 rfl, fun l hl => ?_⟩, ?_⟩
      · by_cases hlj : l = j
        · subst hlj; exact zup_s _ _ _ _
        · rw [zup_k _ _ hlj]; exact hi.2 l (by omega)
      · show f_M_ask_39L (m' + 1) _ _ _ _ _ _ _ = _
        rw [f_M_ask_39L]
        simp (disch := (first | omega | assumption)) only [f_M_ask_39, gp_12_80, wi_131, ge100, zbs, nI_add, pk_mul, znI_add1, znI_sub1, znI_subm, zle_nI, zlt_nI, zeq_nI, zle_0, zeq_0, zlt_0, zeq_m, zeq_1, zge_0, zbt0, zbt1, zB_0, zB_1, zB_b, zbool_0, zbool_1, ↓reduceIte, hle])
    (fun m' I' hi => by
      show f_M_ask_39L (m' + 1) _ _ _ _ _ _ _ = _
      rw [f_M_ask_39L]
      simp (disch := (first | omega | assumption)) only [f_M_ask_39, gp_12_80, wi_131, ge100, zbs, nI_add, pk_mul, znI_add1, znI_sub1, znI_subm, zle_nI, zlt_nI, zeq_nI, zle_0, zeq_0, zlt_0, zeq_m, zeq_1, zge_0, zbt0, zbt1, zB_0, zB_1, zB_b, zbool_0, zbool_1, ↓reduceIte, Nat.le_refl]) 100 0 I zfu (by omega) ⟨zfr_refl _ _, fun l hl => by omega⟩ (zfu_lt (by decide))
  have f0 : zfr zSg I I0 := zfr_gl z1 (fun a ha k => by simp at ha; subst ha; rfl)
  generalize hB : (fun v => zfitB I (fun b => zkm I nt LW (zcell m nt v) r b) r k nl) = B
  obtain ⟨Q, ⟨h1, h2⟩, h3⟩ := zfor (fun fuel I' v => f_M_ask_66L fuel (zs I' J (zPt t u i f s x)) 91 (nI r) (nI m) w k (nI (zfls B v).length) (nI v)) ((2 * m + 1) ^ nt)
    (fun v I' => zfr zSg I I' ∧ ∀ a b, a < b → b < nb → I' 131 (10 * a + b) = nI ((zfls B v).countP (fun v => zah2 (fun b => zkm I nt LW (zcell m nt v) r b) a b)))
    (fun I' => f_M_ask_168 (zs I' J (zPt t u i f s x)) 91 w (nI (zfls B ((2 * m + 1) ^ nt)).length))
    (fun m' v I3 hv hi => by
      obtain ⟨i1, i2⟩ := hi
      have hC3 := zCo_fr hC i1
      have hL3 := zLk_fr hL (zfr_mono i1 zSg_n)
      have rw1 := g_M_rows (J := J) (t := t) (u := u) (i := i) (f := f) (s := s) (x := x) hC3.2.1.1.1.1 hM.1.2 hm
      obtain ⟨I4, c1, c2, c4, c3⟩ := g_M_fits (J := J) (t := t) (u := u) (i := i) (f := f) (s := s) (x := x) hC3 hL3 hm hr hv k
      rw [zfK_fr i1, zfitB_fr hL (zfr_mono i1 zSg_n) (fun _ _ => rfl) hnb] at c1
      have c1 : f_M_fits (zs I3 J (zPt t u i f s x)) 91 (nI r) (nI v) (nI m) k = some (zB (B v), (zs I4 J (zPt t u i f s x))) := by
        rw [← hB]
        exact c1
      have hle : ¬ (2 * m + 1) ^ nt ≤ v := by omega
      have f4 : zfr zSg I I4 := zfr_trans i1 (zfs_g c2)
      have hC4 := zCo_fr hC f4
      have r131 : I4 131 = I3 131 := zfr_sl c2 131 rfl
      cases hq : B v with
      | false =>
        rw [hq] at c1
        refine ⟨I4, ⟨f4, fun a b hab hb => ?_⟩, ?_⟩
        · rw [zfls_succ, if_neg (by rw [hq]; simp), r131]
          exact i2 a b hab hb
        · show f_M_ask_66L (m' + 1) _ _ _ _ _ _ _ _ = _
          rw [f_M_ask_66L, zfls_succ, if_neg (by rw [hq]; simp)]
          simp (disch := (first | omega | assumption)) only [f_M_ask_66, zbs, nI_add, pk_mul, znI_add1, znI_sub1, znI_subm, zle_nI, zlt_nI, zeq_nI, zle_0, zeq_0, zlt_0, zeq_m, zeq_1, zge_0, zbt0, zbt1, zB_0, zB_1, zB_b, zbool_0, zbool_1, ↓reduceIte, rw1, hle, c1]
      | true =>
        rw [hq] at c1
        have hlen : (zfls B v).length ≤ v := by rw [zfls_len]; exact zct_le _ _
        have hT1 : ∀ a b, (zfls B (v + 1)).countP (fun v => zah2 (fun b => zkm I nt LW (zcell m nt v) r b) a b) = (zfls B v).countP (fun v => zah2 (fun b => zkm I nt LW (zcell m nt v) r b) a b) + (if zah2 (fun b => zkm I nt LW (zcell m nt v) r b) a b = true then 1 else 0) := fun a b => by
          rw [zfls_succ, if_pos hq, List.countP_append, List.countP_singleton]
        have hKv : ∀ I5, zfr (zSl [131]) I4 I5 → ∀ a b, a < nb → b < nb → zah2 (zKm I5 r) a b = zah2 (fun b => zkm I nt LW (zcell m nt v) r b) a b := fun I5 h a b ha hb => by
          have e : ∀ b, b < nb → zKm I5 r b = zkm I nt LW (zcell m nt v) r b := fun b hb => by
            show I5 113 (10 * r + b) = _
            rw [zfr_sl h 113 rfl, c4 b hb]
            exact congrFun (zfK_fr i1 m r v) b
          unfold zah2
          rw [e a ha, e b hb]
        obtain ⟨I6, ⟨g1, g2⟩, g3⟩ := zfor (fun fuel I5 a => f_M_ask_98L (f_M_ask_66L m') fuel (zs I5 J (zPt t u i f s x)) 91 (nI r) (nI m) w k (nI ((zfls B v).length + 1)) (nI v) (nI a)) nb
          (fun a0 I5 => zfr (zSl [131]) I4 I5 ∧ ∀ a b, a < b → b < nb → I5 131 (10 * a + b) = nI ((zfls B (if a < a0 then v + 1 else v)).countP (fun v => zah2 (fun b => zkm I nt LW (zcell m nt v) r b) a b)))
          (fun I5 => f_M_ask_66L m' (zs I5 J (zPt t u i f s x)) 91 (nI r) (nI m) w k (nI ((zfls B v).length + 1)) (nI (v + 1)))
          (fun m2 a0 I5 ha0 hi5 => by
            have hle2 : ¬ nb ≤ a0 := by omega
            obtain ⟨I7, ⟨k1, k2⟩, k3⟩ := zfor (fun fuel I7 b => f_M_ask_113L (f_M_ask_66L m') (f_M_ask_98L (f_M_ask_66L m') m2) fuel (zs I7 J (zPt t u i f s x)) 91 (nI r) (nI m) w k (nI ((zfls B v).length + 1)) (nI v) (nI a0) (nI b)) nb
              (fun b0 I7 => zfr (zSl [131]) I4 I7 ∧ (a0 + 1 ≤ b0 ∧ ∀ a b, a < b → b < nb → I7 131 (10 * a + b) = nI ((zfls B (if a < a0 ∨ (a = a0 ∧ b < b0) then v + 1 else v)).countP (fun v => zah2 (fun b => zkm I nt LW (zcell m nt v) r b) a b))))
              (fun I7 => f_M_ask_98L (f_M_ask_66L m') m2 (zs I7 J (zPt t u i f s x)) 91 (nI r) (nI m) w k (nI ((zfls B v).length + 1)) (nI v) (nI (a0 + 1)))
              (fun m3 b0 I7 hb0 hi7 => by
                have hab : a0 < b0 := hi7.2.1
                · have hle3 : ¬ nb ≤ b0 := by omega
                  have e42 : I7 91 42 = nI nb := by rw [zfr_sl hi7.1 91 rfl]; exact hC4.2.1.1.2.1.1
                  have ah := g_M_isAhead (I := I7) (J := J) (t := t) (u := u) (i := i) (f := f) (s := s) (x := x) (show r < 6 by omega) (show a0 < 10 by omega) (show b0 < 10 by omega)
                  rw [hKv I7 hi7.1 a0 b0 ha0 hb0] at ah
                  have old := hi7.2.2 a0 b0 hab hb0
                  rw [if_neg (by omega)] at old
                  have hcl := zcp_le (zfls B v) (fun v => zah2 (fun b => zkm I nt LW (zcell m nt v) r b) a0 b0)
                  refine ⟨zup I7 131 (10 * a0 + b0) (nI ((zfls B (v + 1)).countP (fun v => zah2 (fun b => zkm I nt LW (zcell m nt v) r b) a0 b0))), ⟨zfr_up hi7.1 rfl, by omega, fun a b hab2 hb2 => ?_⟩, ?_⟩
                  · by_cases hsame : a = a0 ∧ b = b0
                    · obtain ⟨rfl, rfl⟩ := hsame
                      rw [zup_s, if_pos (by omega)]
                    · rw [zup_k _ _ (by omega), hi7.2.2 a b hab2 hb2]
                      by_cases hc : a < a0 ∨ (a = a0 ∧ b < b0)
                      · rw [if_pos hc, if_pos (by omega)]
                      · rw [if_neg hc, if_neg (by omega)]
                  · show f_M_ask_113L _ _ (m3 + 1) _ _ _ _ _ _ _ _ _ _ = _
                    rw [f_M_ask_113L, hT1]
                    cases hz : zah2 (fun b => zkm I nt LW (zcell m nt v) r b) a0 b0 with
                    | false =>
                      rw [hz] at ah
                      simp (disch := (first | omega | assumption)) only [f_M_ask_113, gi_12, gp_12_80, ai_131, wi_131, ml10, zbs, nI_add, pk_mul, znI_add1, znI_sub1, znI_subm, zle_nI, zlt_nI, zeq_nI, zle_0, zeq_0, zlt_0, zeq_m, zeq_1, zge_0, zbt0, zbt1, zB_0, zB_1, zB_b, zbool_0, zbool_1, ↓reduceIte, e42, hle3, old, ah, g_M_truth, Bool.false_eq_true, Nat.add_zero, Int32.add_zero]
                    | true =>
                      rw [hz] at ah
                      simp (disch := (first | omega | assumption)) only [f_M_ask_113, gi_12, gp_12_80, ai_131, wi_131, ml10, zbs, nI_add, pk_mul, znI_add1, znI_sub1, znI_subm, zle_nI, zlt_nI, zeq_nI, zle_0, zeq_0, zlt_0, zeq_m, zeq_1, zge_0, zbt0, zbt1, zB_0, zB_1, zB_b, zbool_0, zbool_1, ↓reduceIte, e42, hle3, old, ah, g_M_truth, Bool.true_eq_false])
              (fun m3 I7 hi7 => by
                have e42 : I7 91 42 = nI nb := by rw [zfr_sl hi7.1 91 rfl]; exact hC4.2.1.1.2.1.1
                show f_M_ask_113L _ _ (m3 + 1) _ _ _ _ _ _ _ _ _ _ = _
                rw [f_M_ask_113L]
                simp (disch := (first | omega | assumption)) only [f_M_ask_113, gi_12, gp_12_80, ai_131, wi_131, ml10, zbs, nI_add, pk_mul, znI_add1, znI_sub1, znI_subm, zle_nI, zlt_nI, zeq_nI, zle_0, zeq_0, zlt_0, zeq_m, zeq_1, zge_0, zbt0, zbt1, zB_0, zB_1, zB_b, zbool_0, zbool_1, ↓reduceIte, e42, Nat.le_refl]) (nb - (a0 + 1)) (a0 + 1) I5 zfu (by omega) ⟨hi5.1, Nat.le_refl _, fun a b hab hb => by
                  rw [hi5.2 a b hab hb]
                  by_cases hc : a < a0
                  · rw [if_pos hc, if_pos (by omega)]
                  · rw [if_neg hc, if_neg (by omega)]⟩ (zfu_lt (by omega))
            refine ⟨I7, ⟨k1, fun a b hab hb => ?_⟩, ?_⟩
            · rw [k2.2 a b hab hb]
              by_cases hc : a < a0 + 1
              · rw [if_pos hc, if_pos (by omega)]
              · rw [if_neg hc, if_neg (by omega)]
            · have e42 : I5 91 42 = nI nb := by rw [zfr_sl hi5.1 91 rfl]; exact hC4.2.1.1.2.1.1
              show f_M_ask_98L _ (m2 + 1) _ _ _ _ _ _ _ _ _ = _
              rw [f_M_ask_98L]
              simp (disch := (first | omega | assumption)) only [f_M_ask_98, gi_12, zbs, nI_add, pk_mul, znI_add1, znI_sub1, znI_subm, zle_nI, zlt_nI, zeq_nI, zle_0, zeq_0, zlt_0, zeq_m, zeq_1, zge_0, zbt0, zbt1, zB_0, zB_1, zB_b, zbool_0, zbool_1, ↓reduceIte, e42, hle2]
              exact k3)
          (fun m2 I5 hi5 => by
            have e42 : I5 91 42 = nI nb := by rw [zfr_sl hi5.1 91 rfl]; exact hC4.2.1.1.2.1.1
            show f_M_ask_98L _ (m2 + 1) _ _ _ _ _ _ _ _ _ = _
            rw [f_M_ask_98L]
            simp (disch := (first | omega | assumption)) only [f_M_ask_98, gi_12, zbs, nI_add, pk_mul, znI_add1, znI_sub1, znI_subm, zle_nI, zlt_nI, zeq_nI, zle_0, zeq_0, zlt_0, zeq_m, zeq_1, zge_0, zbt0, zbt1, zB_0, zB_1, zB_b, zbool_0, zbool_1, ↓reduceIte, e42, Nat.le_refl]) nb 0 I4 zfu (by omega) ⟨zfr_refl _ _, fun a b hab hb => by rw [if_neg (by omega), r131]; exact i2 a b hab hb⟩ (zfu_lt (by omega))
        refine ⟨I6, ⟨zfr_trans f4 (zfr_gl g1 (fun a ha k => by simp at ha; subst ha; rfl)), fun a b hab hb => ?_⟩, ?_⟩
        · rw [g2 a b hab hb, if_pos (by omega)]
        · show f_M_ask_66L (m' + 1) _ _ _ _ _ _ _ _ = _
          rw [f_M_ask_66L, zfls_succ, if_pos hq, List.length_append, List.length_singleton]
          have g3 : f_M_ask_98L (f_M_ask_66L m') zfu (zs I4 J (zPt t u i f s x)) 91 (nI r) (nI m) w k (nI ((zfls B v).length + 1)) (nI v) 0 = _ := g3
          simp (disch := (first | omega | assumption)) only [f_M_ask_66, zbs, nI_add, pk_mul, znI_add1, znI_sub1, znI_subm, zle_nI, zlt_nI, zeq_nI, zle_0, zeq_0, zlt_0, zeq_m, zeq_1, zge_0, zbt0, zbt1, zB_0, zB_1, zB_b, zbool_0, zbool_1, ↓reduceIte, rw1, hle, c1, g3, Bool.true_eq_false])
    (fun m' I3 hi => by
      have hC3 := zCo_fr hC hi.1
      have rw1 := g_M_rows (J := J) (t := t) (u := u) (i := i) (f := f) (s := s) (x := x) hC3.2.1.1.1.1 hM.1.2 hm
      show f_M_ask_66L (m' + 1) _ _ _ _ _ _ _ _ = _
      rw [f_M_ask_66L]
      simp (disch := (first | omega | assumption)) only [f_M_ask_66, zbs, nI_add, pk_mul, znI_add1, znI_sub1, znI_subm, zle_nI, zlt_nI, zeq_nI, zle_0, zeq_0, zlt_0, zeq_m, zeq_1, zge_0, zbt0, zbt1, zB_0, zB_1, zB_b, zbool_0, zbool_1, ↓reduceIte, rw1, Nat.le_refl]) ((2 * m + 1) ^ nt) 0 I0 zfu (by omega) ⟨f0, fun a b hab hb => by rw [z2 _ (by omega)]; rfl⟩ (zfu_lt (by omega))
  exact ⟨Q, Eq.trans z3 h3, h1, h2⟩
theorem m_askL (hC : zCo I t nt nb nr q sh md om im LW BW) {T : Nat → Nat → Nat} {n : Nat} (hn : n ≤ 625) (hT : ∀ a b, a < b → b < nb → I 131 (10 * a + b) = nI (T a b)) (hTn : ∀ a b, T a b ≤ n) (w : Int32) :
    f_M_ask_186L zfu (zs I J (zPt t u i f s x)) 91 w (nI n) (-1) 1000000 0 = f_M_ask_312 (zs I J (zPt t u i f s x)) w (zoI (zrn (zao (fun a b => zow n (T a b)) nb) nb 0 (none, 1000000)).1) (nI (zrn (zao (fun a b => zow n (T a b)) nb) nb 0 (none, 1000000)).2) := by
  have hnb := hC.2.1.1.2.1.2
  have m1 : I 91 42 = nI nb := hC.2.1.1.2.1.1
  have step : ∀ (p : Option Nat × Nat) k j, p.2 ≤ 1000000 → (zaf (fun a b => zow n (T a b)) k j p).2 ≤ 1000000 := fun p k j hp => by
    unfold zaf
    split
    · have := zow_le (hTn k j)
      show zow n (T k j) ≤ 1000000
      omega
    · exact hp
  have inner : ∀ m' k (p : Option Nat × Nat), k < nb → p.2 ≤ 1000000 → f_M_ask_201L (f_M_ask_186L m') zfu (zs I J (zPt t u i f s x)) 91 w (nI n) (zoI p.1) (nI p.2) (nI k) (nI (k + 1)) = f_M_ask_186L m' (zs I J (zPt t u i f s x)) 91 w (nI n) (zoI (zao (fun a b => zow n (T a b)) nb k p).1) (nI (zao (fun a b => zow n (T a b)) nb k p).2) (nI (k + 1)) := fun m' k p hk hp => by
    exact zforF (fun fuel (p : Option Nat × Nat) j => f_M_ask_201L (f_M_ask_186L m') fuel (zs I J (zPt t u i f s x)) 91 w (nI n) (zoI p.1) (nI p.2) (nI k) (nI j)) nb (zaf (fun a b => zow n (T a b)) k) (fun j p => p.2 ≤ 1000000 ∧ k < j) (fun p => f_M_ask_186L m' (zs I J (zPt t u i f s x)) 91 w (nI n) (zoI p.1) (nI p.2) (nI (k + 1)))
      (fun m2 j p hj hi => by
        have hle : ¬ nb ≤ j := by omega
        have e := hT k j hi.2 hj
        have hTj := hTn k j
        have hOj := zow_le (hTn k j)
        have hp1 := hi.1
        show f_M_ask_201L _ (m2 + 1) _ _ _ _ _ _ _ _ = _
        rw [f_M_ask_201L]
        unfold zaf
        have fin : ∀ y, y = zow n (T k j) → f_M_ask_274 (f_M_ask_186L m') (f_M_ask_201L (f_M_ask_186L m') m2) (zs I J (zPt t u i f s x)) 91 w (nI n) (zoI p.1) (nI p.2) (nI k) (nI j) (nI y) = f_M_ask_201L (f_M_ask_186L m') m2 (zs I J (zPt t u i f s x)) 91 w (nI n) (zoI (if zow n (T k j) < p.2 then (some (10 * k + j), zow n (T k j)) else p).1) (nI (if zow n (T k j) < p.2 then (some (10 * k + j), zow n (T k j)) else p).2) (nI k) (nI (j + 1)) := fun y hy => by
          subst hy
          by_cases hlt : zow n (T k j) < p.2
          · simp (disch := (first | omega | assumption)) only [f_M_ask_274, ml10, zbs, nI_add, pk_mul, znI_add1, znI_sub1, znI_subm, zle_nI, zlt_nI, zeq_nI, zle_0, zeq_0, zlt_0, zeq_m, zeq_1, zge_0, zbt0, zbt1, zB_0, zB_1, zB_b, zbool_0, zbool_1, ↓reduceIte, hlt]
            rfl
          · simp (disch := (first | omega | assumption)) only [f_M_ask_274, ml10, zbs, nI_add, pk_mul, znI_add1, znI_sub1, znI_subm, zle_nI, zlt_nI, zeq_nI, zle_0, zeq_0, zlt_0, zeq_m, zeq_1, zge_0, zbt0, zbt1, zB_0, zB_1, zB_b, zbool_0, zbool_1, ↓reduceIte, hlt]
        by_cases hc : T k j ≤ n - T k j
        · simp (disch := (first | omega | assumption)) only [f_M_ask_201, gi_12, gp_12_80, ai_131, ml10, zbs, nI_add, pk_mul, znI_add1, znI_sub1, znI_subm, zle_nI, zlt_nI, zeq_nI, zle_0, zeq_0, zlt_0, zeq_m, zeq_1, zge_0, zbt0, zbt1, zB_0, zB_1, zB_b, zbool_0, zbool_1, ↓reduceIte, m1, hle, e, pk_sub, hc]
          refine fin _ ?_
          unfold zow
          split <;> omega
        · simp (disch := (first | omega | assumption)) only [f_M_ask_201, gi_12, gp_12_80, ai_131, ml10, zbs, nI_add, pk_mul, znI_add1, znI_sub1, znI_subm, zle_nI, zlt_nI, zeq_nI, zle_0, zeq_0, zlt_0, zeq_m, zeq_1, zge_0, zbt0, zbt1, zB_0, zB_1, zB_b, zbool_0, zbool_1, ↓reduceIte, m1, hle, e, pk_sub, hc]
          refine fin _ ?_
          unfold zow
          split <;> omega)
      (fun j p hj hi => ⟨step p k j hi.1, by omega⟩)
      (fun m2 p hi => by
        show f_M_ask_201L _ (m2 + 1) _ _ _ _ _ _ _ _ = _
        rw [f_M_ask_201L]
        simp (disch := (first | omega | assumption)) only [f_M_ask_201, gi_12, gp_12_80, ai_131, ml10, zbs, nI_add, pk_mul, znI_add1, znI_sub1, znI_subm, zle_nI, zlt_nI, zeq_nI, zle_0, zeq_0, zlt_0, zeq_m, zeq_1, zge_0, zbt0, zbt1, zB_0, zB_1, zB_b, zbool_0, zbool_1, ↓reduceIte, m1, Nat.le_refl]) (nb - (k + 1)) (k + 1) p zfu (by omega) ⟨hp, by omega⟩ (zfu_lt (by omega))
  have h := zforF (fun fuel (p : Option Nat × Nat) k => f_M_ask_186L fuel (zs I J (zPt t u i f s x)) 91 w (nI n) (zoI p.1) (nI p.2) (nI k)) nb (zao (fun a b => zow n (T a b)) nb) (fun _ p => p.2 ≤ 1000000) (fun p => f_M_ask_312 (zs I J (zPt t u i f s x)) w (zoI p.1) (nI p.2))
    (fun m' k p hk hi => by
      have hle : ¬ nb ≤ k := by omega
      show f_M_ask_186L (m' + 1) _ _ _ _ _ _ _ = _
      rw [f_M_ask_186L]
      simp (disch := (first | omega | assumption)) only [f_M_ask_186, gi_12, zbs, nI_add, pk_mul, znI_add1, znI_sub1, znI_subm, zle_nI, zlt_nI, zeq_nI, zle_0, zeq_0, zlt_0, zeq_m, zeq_1, zge_0, zbt0, zbt1, zB_0, zB_1, zB_b, zbool_0, zbool_1, ↓reduceIte, m1, hle]
      exact inner m' k p hk hi)
    (fun k p hk hi => by
      unfold zao
      exact zrn_inv (zaf (fun a b => zow n (T a b)) k) nb (fun _ p => p.2 ≤ 1000000) (fun j p hj hi => step p k j hi) (nb - (k + 1)) (k + 1) p (by omega) hi)
    (fun m' p hi => by
      show f_M_ask_186L (m' + 1) _ _ _ _ _ _ _ = _
      rw [f_M_ask_186L]
      simp (disch := (first | omega | assumption)) only [f_M_ask_186, gi_12, zbs, nI_add, pk_mul, znI_add1, znI_sub1, znI_subm, zle_nI, zlt_nI, zeq_nI, zle_0, zeq_0, zlt_0, zeq_m, zeq_1, zge_0, zbt0, zbt1, zB_0, zB_1, zB_b, zbool_0, zbool_1, ↓reduceIte, m1, Nat.le_refl]) nb 0 (none, 1000000) zfu (by omega) (Nat.le_refl _) (zfu_lt (by omega))
  exact h
theorem q_ask (hC : zCo I t nt nb nr q sh md om im LW BW) (hL : zLk I nb nr nl tm) (r p w k : Int32) : zOK2 I J t u i f s x (fun σ => f_W_ask σ 0 r p w k) (fun σ => f_M_ask σ 91 r p w k) := by
  have ht := hC.1
  have hM := hC.2.1.1
  have hX := hC.2.1.2.1
  have hnb := hM.2.1.2
  have hnr := hM.2.2.1.2
  have hnt := hM.1.2
  have x1 := g_W_isReader (J := J) (t := t) (u := u) (i := i) (f := f) (s := s) (x := x) ht hX.2.2.1.1 r
  have m1 := g_M_isReader (J := J) (t := t) (u := u) (i := i) (f := f) (s := s) (x := x) hM.2.2.1.1 hnr r
  have n10 : ¬ (1 : Int32) = 0 := by decide
  rcases zlt_cases r (n := nr) (by omega) with ⟨hr, r, hrn, rfl⟩ | hr
  · rw [hr] at x1 m1
    rcases zm12 p with ⟨p1, p2, m, hm1, hm, rfl⟩ | ⟨p1, p2⟩
    · rcases z01 w with ⟨hw, hw2⟩ | ⟨hw, hw0, hw1⟩
      · have m4' := g_M_isIn1 w
        rw [hw] at m4'
        by_cases hb2 : 2 ≤ nb
        · have hR := zR_le (m := m) hm hnt
          obtain ⟨I1, a1, a2, a5, a3, a4⟩ := g_W_findFitting (J := J) (t := t) (u := u) (i := i) (f := f) (s := s) (x := x) hC hL hm hrn k
          have hC1 := zCo_fr hC a2
          have hL1 := zLk_fr hL (zfr_mono a2 zSg_n)
          obtain ⟨I2, b1, b2, b3⟩ := m_askT (J := J) (t := t) (u := u) (i := i) (f := f) (s := t) (x := x) hC1 hL1 hm hrn k w
          have hC2 := zCo_fr hC1 b2
          have eF : (fun v => zfitB I1 (fun b => zkm I1 nt LW (zcell m nt v) r b) r k nl) = fun v => zfitB I (fun b => zkm I nt LW (zcell m nt v) r b) r k nl := by
            funext v
            rw [zfK_fr a2]
            exact zfitB_fr hL (zfr_mono a2 zSg_n) (fun _ _ => rfl) hnb
          have eK : ∀ a b, (fun v => zah2 (fun b => zkm I1 nt LW (zcell m nt v) r b) a b) = fun v => zah2 (fun b => zkm I nt LW (zcell m nt v) r b) a b := fun a b => by
            funext v
            rw [zfK_fr a2]
          rw [eF] at b1 b3
          have b3 : ∀ a b, a < b → b < nb → I2 131 (10 * a + b) = nI ((zfls (fun v => zfitB I (fun b => zkm I nt LW (zcell m nt v) r b) r k nl) ((2 * m + 1) ^ nt)).countP (fun v => zah2 (fun b => zkm I nt LW (zcell m nt v) r b) a b)) := fun a b hab hb => by
            rw [b3 a b hab hb, eK]
          have hFb : ∀ v, v ∈ zfls (fun v => zfitB I (fun b => zkm I nt LW (zcell m nt v) r b) r k nl) ((2 * m + 1) ^ nt) → v < (2 * m + 1) ^ nt := fun v hv => (zfls_mem hv).1
          have hFl : (zfls (fun v => zfitB I (fun b => zkm I nt LW (zcell m nt v) r b) r k nl) ((2 * m + 1) ^ nt)).length ≤ 625 := by rw [zfls_len]; exact Nat.le_trans (zct_le _ _) hR
          have m1' := g_M_isReader (J := J) (t := t) (u := u) (i := i) (f := f) (s := t) (x := x) hC1.2.1.1.2.2.1.1 hnr (nI r)
          rw [hr] at m1'
          generalize zfls (fun v => zfitB I (fun b => zkm I nt LW (zcell m nt v) r b) r k nl) ((2 * m + 1) ^ nt) = F at a3 a4 b1 b3 hFb hFl
          by_cases hF0 : F.length = 0
          · refine ⟨-1, I1, J, t, I2, J, ?_, ?_, zfr_trans a2 b2, Or.inr rfl⟩
            · show f_W_ask _ 0 _ _ _ _ = _
              rcases hw2 with rfl | rfl
              · simp (disch := (first | omega | assumption)) only [f_W_ask, f_W_ask_24, zg_11, gi_10, gi_6, gp_11_2, gp_11_10, ge2, zbs, nI_add, pk_mul, znI_add1, znI_sub1, znI_subm, zle_nI, zlt_nI, zeq_nI, zle_0, zeq_0, zlt_0, zeq_m, zeq_1, zge_0, zbt0, zbt1, zB_0, zB_1, zB_b, zbool_0, zbool_1, ↓reduceIte, x1, p1, hX.2.1.1, hb2, a1, a3, hF0, Bool.true_eq_false]
              · simp (disch := (first | omega | assumption)) only [f_W_ask, f_W_ask_24, zg_11, gi_10, gi_6, gp_11_2, gp_11_10, ge2, zbs, nI_add, pk_mul, znI_add1, znI_sub1, znI_subm, zle_nI, zlt_nI, zeq_nI, zle_0, zeq_0, zlt_0, zeq_m, zeq_1, zge_0, zbt0, zbt1, zB_0, zB_1, zB_b, zbool_0, zbool_1, ↓reduceIte, x1, p1, n10, hX.2.1.1, hb2, a1, a3, hF0, Bool.true_eq_false]
            · show f_M_ask _ 91 _ _ _ _ = _
              rw [hF0] at b1
              simp (disch := (first | omega | assumption)) only [f_M_ask, zg_12, gi_12, ge2, zbs, nI_add, pk_mul, znI_add1, znI_sub1, znI_subm, zle_nI, zlt_nI, zeq_nI, zle_0, zeq_0, zlt_0, zeq_m, zeq_1, zge_0, zbt0, zbt1, zB_0, zB_1, zB_b, zbool_0, zbool_1, ↓reduceIte, m1', p2, m4', hC1.2.1.1.2.1.1, hb2, Bool.true_eq_false]
              refine Eq.trans b1 ?_
              simp (disch := (first | omega | assumption)) only [f_M_ask_168, zbs, nI_add, pk_mul, znI_add1, znI_sub1, znI_subm, zle_nI, zlt_nI, zeq_nI, zle_0, zeq_0, zlt_0, zeq_m, zeq_1, zge_0, zbt0, zbt1, zB_0, zB_1, zB_b, zbool_0, zbool_1, ↓reduceIte]
          · have xs := x_askL (J := J) (t := t) (u := u) (i := i) (f := f) (x := x) hC a2 hR a5 a3 a4 hFb hFl w
            have ms := m_askL (J := J) (t := t) (u := u) (i := i) (f := f) (s := t) (x := x) hC2 (T := fun a b => F.countP (fun v => zah2 (fun b => zkm I nt LW (zcell m nt v) r b) a b)) hFl b3 (fun a b => zcp_le _ _) w
            have rel := zask_rel (O := fun a b => zow F.length (F.countP (fun v => zah2 (fun b => zkm I nt LW (zcell m nt v) r b) a b))) (n := nb) (N := F.length) (fun a b => zow_le (zcp_le _ _)) (by omega) hb2
            rw [rel] at xs
            generalize zrn (zao (fun a b => zow F.length (F.countP (fun v => zah2 (fun b => zkm I nt LW (zcell m nt v) r b) a b))) nb) nb 0 (none, 1000000) = V at xs ms
            have hx : ∃ v, f_W_ask_150 (zs I1 J (zPt t u i f t x)) w (zoI V.1) (nI V.2) = some (v, (zs I1 J (zPt t u i f t x))) ∧ f_M_ask_312 (zs I2 J (zPt t u i f t x)) w (zoI V.1) (nI V.2) = some (v, (zs I2 J (zPt t u i f t x))) := by
              rcases hw2 with rfl | rfl
              · exact ⟨zoI V.1, by simp (disch := (first | omega | assumption)) only [f_W_ask_150, zbs, nI_add, pk_mul, znI_add1, znI_sub1, znI_subm, zle_nI, zlt_nI, zeq_nI, zle_0, zeq_0, zlt_0, zeq_m, zeq_1, zge_0, zbt0, zbt1, zB_0, zB_1, zB_b, zbool_0, zbool_1, ↓reduceIte], by simp (disch := (first | omega | assumption)) only [f_M_ask_312, zbs, nI_add, pk_mul, znI_add1, znI_sub1, znI_subm, zle_nI, zlt_nI, zeq_nI, zle_0, zeq_0, zlt_0, zeq_m, zeq_1, zge_0, zbt0, zbt1, zB_0, zB_1, zB_b, zbool_0, zbool_1, ↓reduceIte]⟩
              · exact ⟨nI V.2, by simp (disch := (first | omega | assumption)) only [f_W_ask_150, zbs, nI_add, pk_mul, znI_add1, znI_sub1, znI_subm, zle_nI, zlt_nI, zeq_nI, zle_0, zeq_0, zlt_0, zeq_m, zeq_1, zge_0, zbt0, zbt1, zB_0, zB_1, zB_b, zbool_0, zbool_1, ↓reduceIte, n10], by simp (disch := (first | omega | assumption)) only [f_M_ask_312, zbs, nI_add, pk_mul, znI_add1, znI_sub1, znI_subm, zle_nI, zlt_nI, zeq_nI, zle_0, zeq_0, zlt_0, zeq_m, zeq_1, zge_0, zbt0, zbt1, zB_0, zB_1, zB_b, zbool_0, zbool_1, ↓reduceIte, n10]⟩
            obtain ⟨v, v1, v2⟩ := hx
            refine ⟨v, I1, J, t, I2, J, ?_, ?_, zfr_trans a2 b2, Or.inr rfl⟩
            · show f_W_ask _ 0 _ _ _ _ = _
              rcases hw2 with rfl | rfl
              · simp (disch := (first | omega | assumption)) only [f_W_ask, f_W_ask_24, zg_11, gi_10, gi_6, gp_11_2, gp_11_10, ge2, zbs, nI_add, pk_mul, znI_add1, znI_sub1, znI_subm, zle_nI, zlt_nI, zeq_nI, zle_0, zeq_0, zlt_0, zeq_m, zeq_1, zge_0, zbt0, zbt1, zB_0, zB_1, zB_b, zbool_0, zbool_1, ↓reduceIte, x1, p1, hX.2.1.1, hb2, a1, a3, hF0, Bool.true_eq_false]
                exact xs.trans v1
              · simp (disch := (first | omega | assumption)) only [f_W_ask, f_W_ask_24, zg_11, gi_10, gi_6, gp_11_2, gp_11_10, ge2, zbs, nI_add, pk_mul, znI_add1, znI_sub1, znI_subm, zle_nI, zlt_nI, zeq_nI, zle_0, zeq_0, zlt_0, zeq_m, zeq_1, zge_0, zbt0, zbt1, zB_0, zB_1, zB_b, zbool_0, zbool_1, ↓reduceIte, x1, p1, n10, hX.2.1.1, hb2, a1, a3, hF0, Bool.true_eq_false]
                exact xs.trans v1
            · show f_M_ask _ 91 _ _ _ _ = _
              simp (disch := (first | omega | assumption)) only [f_M_ask, zg_12, gi_12, ge2, zbs, nI_add, pk_mul, znI_add1, znI_sub1, znI_subm, zle_nI, zlt_nI, zeq_nI, zle_0, zeq_0, zlt_0, zeq_m, zeq_1, zge_0, zbt0, zbt1, zB_0, zB_1, zB_b, zbool_0, zbool_1, ↓reduceIte, m1', p2, m4', hC1.2.1.1.2.1.1, hb2, Bool.true_eq_false]
              refine Eq.trans b1 ?_
              simp (disch := (first | omega | assumption)) only [f_M_ask_168, zbs, nI_add, pk_mul, znI_add1, znI_sub1, znI_subm, zle_nI, zlt_nI, zeq_nI, zle_0, zeq_0, zlt_0, zeq_m, zeq_1, zge_0, zbt0, zbt1, zB_0, zB_1, zB_b, zbool_0, zbool_1, ↓reduceIte, hF0]
              exact ms.trans v2
        · refine ⟨-1, I, J, s, I, J, ?_, ?_, zfr_refl _ _, Or.inl rfl⟩
          · show f_W_ask _ 0 _ _ _ _ = _
            rcases hw2 with rfl | rfl
            · simp (disch := (first | omega | assumption)) only [f_W_ask, f_W_ask_24, zg_11, gi_10, gi_6, gp_11_2, gp_11_10, ge2, zbs, nI_add, pk_mul, znI_add1, znI_sub1, znI_subm, zle_nI, zlt_nI, zeq_nI, zle_0, zeq_0, zlt_0, zeq_m, zeq_1, zge_0, zbt0, zbt1, zB_0, zB_1, zB_b, zbool_0, zbool_1, ↓reduceIte, x1, p1, hX.2.1.1, hb2, Bool.true_eq_false]
            · simp (disch := (first | omega | assumption)) only [f_W_ask, f_W_ask_24, zg_11, gi_10, gi_6, gp_11_2, gp_11_10, ge2, zbs, nI_add, pk_mul, znI_add1, znI_sub1, znI_subm, zle_nI, zlt_nI, zeq_nI, zle_0, zeq_0, zlt_0, zeq_m, zeq_1, zge_0, zbt0, zbt1, zB_0, zB_1, zB_b, zbool_0, zbool_1, ↓reduceIte, x1, p1, n10, hX.2.1.1, hb2, Bool.true_eq_false]
          · show f_M_ask _ 91 _ _ _ _ = _
            simp (disch := (first | omega | assumption)) only [f_M_ask, zg_12, gi_12, ge2, zbs, nI_add, pk_mul, znI_add1, znI_sub1, znI_subm, zle_nI, zlt_nI, zeq_nI, zle_0, zeq_0, zlt_0, zeq_m, zeq_1, zge_0, zbt0, zbt1, zB_0, zB_1, zB_b, zbool_0, zbool_1, ↓reduceIte, m1, p2, m4', hM.2.1.1, hb2, Bool.true_eq_false]
      · have m4 := g_M_isIn1 w
        rw [hw] at m4
        refine ⟨-1, I, J, s, I, J, ?_, ?_, zfr_refl _ _, Or.inl rfl⟩
        · show f_W_ask _ 0 _ _ _ _ = _
          simp (disch := (first | omega | assumption)) only [f_W_ask, zg_11, zbs, nI_add, pk_mul, znI_add1, znI_sub1, znI_subm, zle_nI, zlt_nI, zeq_nI, zle_0, zeq_0, zlt_0, zeq_m, zeq_1, zge_0, zbt0, zbt1, zB_0, zB_1, zB_b, zbool_0, zbool_1, ↓reduceIte, x1, p1, hw0, hw1, Bool.true_eq_false]
        · show f_M_ask _ 91 _ _ _ _ = _
          simp (disch := (first | omega | assumption)) only [f_M_ask, zg_12, gi_12, ge2, zbs, nI_add, pk_mul, znI_add1, znI_sub1, znI_subm, zle_nI, zlt_nI, zeq_nI, zle_0, zeq_0, zlt_0, zeq_m, zeq_1, zge_0, zbt0, zbt1, zB_0, zB_1, zB_b, zbool_0, zbool_1, ↓reduceIte, m1, p2, m4, Bool.true_eq_false]
    · refine ⟨-1, I, J, s, I, J, ?_, ?_, zfr_refl _ _, Or.inl rfl⟩
      · show f_W_ask _ 0 _ _ _ _ = _
        simp (disch := (first | omega | assumption)) only [f_W_ask, zg_11, zbs, nI_add, pk_mul, znI_add1, znI_sub1, znI_subm, zle_nI, zlt_nI, zeq_nI, zle_0, zeq_0, zlt_0, zeq_m, zeq_1, zge_0, zbt0, zbt1, zB_0, zB_1, zB_b, zbool_0, zbool_1, ↓reduceIte, x1, p1, Bool.true_eq_false]
      · show f_M_ask _ 91 _ _ _ _ = _
        simp (disch := (first | omega | assumption)) only [f_M_ask, zg_12, gi_12, ge2, zbs, nI_add, pk_mul, znI_add1, znI_sub1, znI_subm, zle_nI, zlt_nI, zeq_nI, zle_0, zeq_0, zlt_0, zeq_m, zeq_1, zge_0, zbt0, zbt1, zB_0, zB_1, zB_b, zbool_0, zbool_1, ↓reduceIte, m1, p2, Bool.true_eq_false]
  · rw [hr] at x1 m1
    refine ⟨-1, I, J, s, I, J, ?_, ?_, zfr_refl _ _, Or.inl rfl⟩
    · show f_W_ask _ 0 _ _ _ _ = _
      simp (disch := (first | omega | assumption)) only [f_W_ask, zg_11, zbs, nI_add, pk_mul, znI_add1, znI_sub1, znI_subm, zle_nI, zlt_nI, zeq_nI, zle_0, zeq_0, zlt_0, zeq_m, zeq_1, zge_0, zbt0, zbt1, zB_0, zB_1, zB_b, zbool_0, zbool_1, ↓reduceIte, x1]
    · show f_M_ask _ 91 _ _ _ _ = _
      simp (disch := (first | omega | assumption)) only [f_M_ask, zg_12, gi_12, ge2, zbs, nI_add, pk_mul, znI_add1, znI_sub1, znI_subm, zle_nI, zlt_nI, zeq_nI, zle_0, zeq_0, zlt_0, zeq_m, zeq_1, zge_0, zbt0, zbt1, zB_0, zB_1, zB_b, zbool_0, zbool_1, ↓reduceIte, m1]
end ZAs
