/-! the reference's keys, laid -/
/-- what the reference's told numbers are -/
def zMd (I : Nat → Nat → Int32) (nt nb nr : Nat) (LW : List Int32) : Prop :=
  (I 91 41 = nI nt ∧ nt ≤ 4) ∧ (I 91 42 = nI nb ∧ nb ≤ 10) ∧ (I 91 43 = nI nr ∧ nr ≤ 6) ∧ zval LW 0 ∧
  ((I 91 47 = 0 ∧ LW = [-1]) ∨ (I 91 47 = 1 ∧ LW.length ≤ 270 ∧ I 99 0 = nI LW.length ∧ ∀ k, k < LW.length → ∃ m, LW[k]? = some m ∧ zenc (I 97 k) (I 98 k) m))
/-- a key by hand h, out of the reference's rows -/
def zkm (I : Nat → Nat → Int32) (nt : Nat) (LW : List Int32) (h : Nat → Int32) (r b : Nat) : Int32 :=
  zky LW (zsm h (fun t => I 107 (4 * b + t)) nt) (zsm (fun t => I 109 (4 * r + t)) (fun t => I 107 (4 * b + t)) nt) (I 111 (32 + 10 * r + b)) b
def zhd (I : Nat → Nat → Int32) (r : Nat) (md : Int32) (t : Nat) : Int32 := I 111 (4 * r + t) + (if nI t = md then I 91 46 else 0)
section ZMk2
variable {I : Nat → Nat → Int32} {J : Nat → Nat → Int64} {t u i f s x : Nat} {nt nb nr : Nat} {LW : List Int32}
theorem zMd_fr {I' : Nat → Nat → Int32} (h : zMd I nt nb nr LW) (h1 : ∀ k, (k = 41 ∨ k = 42 ∨ k = 43 ∨ k = 47) → I' 91 k = I 91 k) (h97 : I' 97 = I 97) (h98 : I' 98 = I 98) (h99 : I' 99 = I 99) : zMd I' nt nb nr LW := by
  unfold zMd
  rw [h1 41 (by omega), h1 42 (by omega), h1 43 (by omega), h1 47 (by omega), h97, h98, h99]
  exact h
theorem zMd_sl {I' : Nat → Nat → Int32} {l : List Nat} (h : zMd I nt nb nr LW) (hf : zfr (zSl l) I I') (hl : l.contains 91 = false ∧ l.contains 97 = false ∧ l.contains 98 = false ∧ l.contains 99 = false) : zMd I' nt nb nr LW := by
  refine zMd_fr h (fun k _ => ?_) (zfr_sl hf _ hl.2.1) (zfr_sl hf _ hl.2.2.1) (zfr_sl hf _ hl.2.2.2)
  rw [zfr_sl hf _ hl.1]
theorem g_M_readsOf {r b : Nat} (hr : r < 6) (hb : b < 10) : f_M_readsOf (zs I J (zPt t u i f s x)) 91 (nI r) (nI b) = some (I 111 (32 + 10 * r + b)) := by
  simp (disch := (first | omega | assumption)) only [f_M_readsOf, zg_12, gp_12_49, ai_111, ml10, al32, zbs, nI_add, pk_mul, znI_add1, znI_sub1, znI_subm, zle_nI, zlt_nI, zeq_nI, zle_0, zeq_0, zlt_0, zeq_m, zeq_1, zge_0, zbt0, zbt1, zB_0, zB_1, zB_b, zbool_0, zbool_1, ↓reduceIte]
theorem g_M_keyOf_73 (hM : zMd I nt nb nr LW) {r b : Nat} (hr : r < 6) (hb : b < 10) (want ought : Int32) :
    ∃ I', f_M_keyOf_73 (zs I J (zPt t u i f s x)) 91 (nI r) (nI b) want ought = some (zky LW want ought (I 111 (32 + 10 * r + b)) b, (zs I' J (zPt t u i f s x))) ∧ zfr (zSl [101, 102]) I I' := by
  obtain ⟨-, -, -, hv, hL | ⟨h47, hlen, h99, henc⟩⟩ := hM
  · refine ⟨I, ?_, zfr_refl _ _⟩
    rw [hL.2, zky_1]
    simp (disch := (first | omega | assumption)) only [f_M_keyOf_73, gi_12, gp_12_25, wl_102_0, wl_102_1, wl_102_2, wl_102_3, wl_102_4, wl_102_5, zbs, nI_add, pk_mul, znI_add1, znI_sub1, znI_subm, zle_nI, zlt_nI, zeq_nI, zle_0, zeq_0, zlt_0, zeq_m, zeq_1, zge_0, zbt0, zbt1, zB_0, zB_1, zB_b, zbool_0, zbool_1, ↓reduceIte, hL.1]
  · have n10 : ¬ (1 : Int32) = 0 := by decide
    have e1 : ∀ I : Nat → Nat → Int32, f_M_readsOf (zs I J (zPt t u i f s x)) 91 (nI r) (nI b) = some (I 111 (32 + 10 * r + b)) := fun I => g_M_readsOf hr hb
    have h := g_M_worked (I := zup (zup (zup (zup (zup (zup I 102 0 want) 102 1 ought) 102 2 0) 102 3 0) 102 4 (I 111 (32 + 10 * r + b))) 102 5 (nI b)) (J := J) (t := t) (u := u) (i := i) (f := f) (s := s) (x := x) (w := 0) (LW := LW) (by decide) (by
        rw [← h99]; simp [zup_ne]) (by omega) (fun k hk => by
        obtain ⟨m, h1, h2⟩ := henc k hk
        refine ⟨m, h1, ?_⟩
        simpa [zup_ne] using h2) hv
    obtain ⟨row', h⟩ := h
    refine ⟨zro (zup (zup (zup (zup (zup (zup I 102 0 want) 102 1 ought) 102 2 0) 102 3 0) 102 4 (I 111 (32 + 10 * r + b))) 102 5 (nI b)) 101 row', ?_, ?_⟩
    · have hw : zev (zup (zup (zup (zup (zup (zup I 102 0 want) 102 1 ought) 102 2 0) 102 3 0) 102 4 (I 111 (32 + 10 * r + b))) 102 5 (nI b) 102) LW = zky LW want ought (I 111 (32 + 10 * r + b)) b := by
        refine zev_congr (fun j hj => ?_) LW
        simp only [zup_at]
        unfold zwrd
        have : j = 0 ∨ j = 1 ∨ j = 2 ∨ j = 3 ∨ j = 4 ∨ j = 5 := by omega
        rcases this with rfl | rfl | rfl | rfl | rfl | rfl <;> rfl
      rw [hw] at h
      have h : f_M_worked _ 91 0 = _ := h
      simp (disch := (first | omega | assumption)) only [f_M_keyOf_73, gi_12, gp_12_25, wl_102_0, wl_102_1, wl_102_2, wl_102_3, wl_102_4, wl_102_5, zbs, nI_add, pk_mul, znI_add1, znI_sub1, znI_subm, zle_nI, zlt_nI, zeq_nI, zle_0, zeq_0, zlt_0, zeq_m, zeq_1, zge_0, zbt0, zbt1, zB_0, zB_1, zB_b, zbool_0, zbool_1, ↓reduceIte, h47, n10, e1, zup_ne, h]
    · refine zfr_ro (zfr_up (zfr_up (zfr_up (zfr_up (zfr_up (zfr_up (zfr_refl _ _) ?_) ?_) ?_) ?_) ?_) ?_) (fun _ => ?_) <;> rfl
theorem g_M_keyOf (hM : zMd I nt nb nr LW) {r b : Nat} (hr : r < 6) (hb : b < 10) :
    ∃ I', f_M_keyOf (zs I J (zPt t u i f s x)) 91 (nI r) (nI b) = some (zkm I nt LW (I 112) r b, (zs I' J (zPt t u i f s x))) ∧ zfr (zSl [101, 102]) I I' := by
  have h := zforF (fun fuel (q : Int32 × Int32) k => f_M_keyOf_8L fuel (zs I J (zPt t u i f s x)) 91 (nI r) (nI b) q.1 q.2 (nI k)) nt
    (fun t q => (q.1 + I 112 t * I 107 (4 * b + t), q.2 + I 109 (4 * r + t) * I 107 (4 * b + t))) (fun _ _ => True) (fun q => f_M_keyOf_73 (zs I J (zPt t u i f s x)) 91 (nI r) (nI b) q.1 q.2)
    (fun m k q hk _ => by
      have := hM.1.2
      have hle : ¬ nt ≤ k := by omega
      show f_M_keyOf_8L (m + 1) _ _ _ _ _ _ _ = _
      rw [f_M_keyOf_8L]
      simp (disch := (first | omega | assumption)) only [f_M_keyOf_8, gi_12, gp_12_50, gp_12_30, gp_12_32, ai_112, ai_107, ai_109, ml4, zbs, nI_add, pk_mul, znI_add1, znI_sub1, znI_subm, zle_nI, zlt_nI, zeq_nI, zle_0, zeq_0, zlt_0, zeq_m, zeq_1, zge_0, zbt0, zbt1, zB_0, zB_1, zB_b, zbool_0, zbool_1, ↓reduceIte, hM.1.1, hle]) (fun _ _ _ _ => trivial)
    (fun m q _ => by
      have := hM.1.2
      show f_M_keyOf_8L (m + 1) _ _ _ _ _ _ _ = _
      rw [f_M_keyOf_8L]
      simp (disch := (first | omega | assumption)) only [f_M_keyOf_8, gi_12, gp_12_50, gp_12_30, gp_12_32, ai_112, ai_107, ai_109, ml4, zbs, nI_add, pk_mul, znI_add1, znI_sub1, znI_subm, zle_nI, zlt_nI, zeq_nI, zle_0, zeq_0, zlt_0, zeq_m, zeq_1, zge_0, zbt0, zbt1, zB_0, zB_1, zB_b, zbool_0, zbool_1, ↓reduceIte, hM.1.1, Nat.le_refl]) nt 0 (0, 0) zfu (by omega) trivial (zfu_lt (by have := hM.1.2; omega))
  have h2 := zrn_prod (fun t q => q + I 112 t * I 107 (4 * b + t)) (fun t q => q + I 109 (4 * r + t) * I 107 (4 * b + t)) nt 0 (0 : Int32) (0 : Int32)
  rw [h2] at h
  obtain ⟨I', h3, h4⟩ := g_M_keyOf_73 (J := J) (t := t) (u := u) (i := i) (f := f) (s := s) (x := x) hM hr hb (zsm (I 112) (fun t => I 107 (4 * b + t)) nt) (zsm (fun t => I 109 (4 * r + t)) (fun t => I 107 (4 * b + t)) nt)
  refine ⟨I', ?_, h4⟩
  simp (disch := (first | omega | assumption)) only [f_M_keyOf, zg_12, zbs, nI_add, pk_mul, znI_add1, znI_sub1, znI_subm, zle_nI, zlt_nI, zeq_nI, zle_0, zeq_0, zlt_0, zeq_m, zeq_1, zge_0, zbt0, zbt1, zB_0, zB_1, zB_b, zbool_0, zbool_1, ↓reduceIte]
  exact Eq.trans h h3
theorem g_M_layHand {r : Nat} (hr : r < 6) (md : Int32) :
    ∃ I', f_M_layHand (zs I J (zPt t u i f s x)) 91 (nI r) md = some (zs I' J (zPt t u i f s x)) ∧ zfr (zSl [112]) I I' ∧ ∀ t, t < 4 → I' 112 t = zhd I r md t := by
  obtain ⟨I', ⟨h1, h2⟩, h3⟩ := zfor (fun fuel I' k => f_M_layHand_2L fuel (zs I' J (zPt t u i f s x)) 91 (nI r) md (nI k)) 4 (fun k I' => zfr (zSl [112]) I I' ∧ ∀ t, t < k → I' 112 t = zhd I r md t) (fun I' => some (zs I' J (zPt t u i f s x)))
    (fun m k I' hk hi => by
      have e1 : I' 111 = I 111 := zfr_sl hi.1 _ rfl
      have e2 : I' 91 = I 91 := zfr_sl hi.1 _ rfl
      have hle : ¬ 4 ≤ k := by omega
      refine ⟨zup I' 112 k (zhd I r md k), ⟨zfr_up hi.1 rfl, fun t ht => ?_⟩, ?_⟩
      · by_cases htk : t = k
        · subst htk; exact zup_s _ _ _ _
        · rw [zup_k _ _ htk]; exact hi.2 t (by omega)
      · show f_M_layHand_2L (m + 1) _ _ _ _ _ = _
        rw [f_M_layHand_2L]
        unfold zhd
        by_cases hmd : nI k = md
        · subst hmd
          simp (disch := (first | omega | assumption)) only [f_M_layHand_2, gi_12, gp_12_50, gp_12_49, ai_111, wi_112, ml4, ge4, zbs, nI_add, pk_mul, znI_add1, znI_sub1, znI_subm, zle_nI, zlt_nI, zeq_nI, zle_0, zeq_0, zlt_0, zeq_m, zeq_1, zge_0, zbt0, zbt1, zB_0, zB_1, zB_b, zbool_0, zbool_1, ↓reduceIte, hle, e1, e2]
        · simp (disch := (first | omega | assumption)) only [f_M_layHand_2, gi_12, gp_12_50, gp_12_49, ai_111, wi_112, ml4, ge4, zbs, nI_add, pk_mul, znI_add1, znI_sub1, znI_subm, zle_nI, zlt_nI, zeq_nI, zle_0, zeq_0, zlt_0, zeq_m, zeq_1, zge_0, zbt0, zbt1, zB_0, zB_1, zB_b, zbool_0, zbool_1, ↓reduceIte, hle, hmd, e1, e2])
    (fun m I' hi => by
      show f_M_layHand_2L (m + 1) _ _ _ _ _ = _
      rw [f_M_layHand_2L]
      simp (disch := (first | omega | assumption)) only [f_M_layHand_2, gi_12, gp_12_50, gp_12_49, ai_111, wi_112, ml4, ge4, zbs, nI_add, pk_mul, znI_add1, znI_sub1, znI_subm, zle_nI, zlt_nI, zeq_nI, zle_0, zeq_0, zlt_0, zeq_m, zeq_1, zge_0, zbt0, zbt1, zB_0, zB_1, zB_b, zbool_0, zbool_1, ↓reduceIte, Nat.le_refl]) 4 0 I zfu (by omega) ⟨zfr_refl _ _, fun t ht => by omega⟩ (zfu_lt (by decide))
  refine ⟨I', ?_, h1, h2⟩
  simp (disch := (first | omega | assumption)) only [f_M_layHand, zg_12, zbs, nI_add, pk_mul, znI_add1, znI_sub1, znI_subm, zle_nI, zlt_nI, zeq_nI, zle_0, zeq_0, zlt_0, zeq_m, zeq_1, zge_0, zbt0, zbt1, zB_0, zB_1, zB_b, zbool_0, zbool_1, ↓reduceIte]
  exact h3
/-- the keys of one, by the hand that is laid -/
theorem g_M_layKeys (hM : zMd I nt nb nr LW) {r : Nat} (hr : r < 6) :
    ∃ I', f_M_layKeys (zs I J (zPt t u i f s x)) 91 (nI r) = some (zs I' J (zPt t u i f s x)) ∧ zfr (zSl [101, 102, 113]) I I' ∧ (∀ b, b < nb → I' 113 (10 * r + b) = zkm I nt LW (I 112) r b) ∧ ∀ j, (j < 10 * r ∨ 10 * r + 10 ≤ j) → I' 113 j = I 113 j := by
  have hnb := hM.2.1.2
  obtain ⟨I', ⟨h1, h2, h4⟩, h3⟩ := zfor (fun fuel I' k => f_M_layKeys_2L fuel (zs I' J (zPt t u i f s x)) 91 (nI r) (nI k)) nb (fun k I' => zfr (zSl [101, 102, 113]) I I' ∧ (∀ b, b < k → I' 113 (10 * r + b) = zkm I nt LW (I 112) r b) ∧ ∀ j, (j < 10 * r ∨ 10 * r + 10 ≤ j) → I' 113 j = I 113 j) (fun I' => some (zs I' J (zPt t u i f s x)))
    (fun m k I' hk hi => by
      have hM' : zMd I' nt nb nr LW := zMd_sl hM hi.1 ⟨rfl, rfl, rfl, rfl⟩
      obtain ⟨I2, g1, g2⟩ := g_M_keyOf (J := J) (t := t) (u := u) (i := i) (f := f) (s := s) (x := x) hM' hr (show k < 10 by omega)
      have e1 : zkm I' nt LW (I' 112) r k = zkm I nt LW (I 112) r k := by
        unfold zkm
        rw [zfr_sl hi.1 107 rfl, zfr_sl hi.1 109 rfl, zfr_sl hi.1 111 rfl, zfr_sl hi.1 112 rfl]
      rw [e1] at g1
      have e2 : I2 113 = I' 113 := zfr_sl g2 _ rfl
      have hle : ¬ nb ≤ k := by omega
      refine ⟨zup I2 113 (10 * r + k) (zkm I nt LW (I 112) r k), ⟨zfr_up (zfr_trans hi.1 (zfr_slm g2 rfl)) rfl, fun b hb => ?_, fun j hj => ?_⟩, ?_⟩
      · by_cases hbk : b = k
        · subst hbk; exact zup_s _ _ _ _
        · rw [zup_k _ _ (by omega), e2]; exact hi.2.1 b (by omega)
      · rw [zup_k _ _ (by omega), e2]; exact hi.2.2 j hj
      · show f_M_layKeys_2L (m + 1) _ _ _ _ = _
        rw [f_M_layKeys_2L]
        simp (disch := (first | omega | assumption)) only [f_M_layKeys_2, gi_12, gp_12_51, wi_113, ml10, zbs, nI_add, pk_mul, znI_add1, znI_sub1, znI_subm, zle_nI, zlt_nI, zeq_nI, zle_0, zeq_0, zlt_0, zeq_m, zeq_1, zge_0, zbt0, zbt1, zB_0, zB_1, zB_b, zbool_0, zbool_1, ↓reduceIte, hM'.2.1.1, hle, g1])
    (fun m I' hi => by
      have hM' : zMd I' nt nb nr LW := zMd_sl hM hi.1 ⟨rfl, rfl, rfl, rfl⟩
      show f_M_layKeys_2L (m + 1) _ _ _ _ = _
      rw [f_M_layKeys_2L]
      simp (disch := (first | omega | assumption)) only [f_M_layKeys_2, gi_12, gp_12_51, wi_113, ml10, zbs, nI_add, pk_mul, znI_add1, znI_sub1, znI_subm, zle_nI, zlt_nI, zeq_nI, zle_0, zeq_0, zlt_0, zeq_m, zeq_1, zge_0, zbt0, zbt1, zB_0, zB_1, zB_b, zbool_0, zbool_1, ↓reduceIte, hM'.2.1.1, Nat.le_refl]) nb 0 I zfu (by omega) ⟨zfr_refl _ _, fun t ht => by omega, fun _ _ => rfl⟩ (zfu_lt (by omega))
  refine ⟨I', ?_, h1, h2, h4⟩
  simp (disch := (first | omega | assumption)) only [f_M_layKeys, zg_12, zbs, nI_add, pk_mul, znI_add1, znI_sub1, znI_subm, zle_nI, zlt_nI, zeq_nI, zle_0, zeq_0, zlt_0, zeq_m, zeq_1, zge_0, zbt0, zbt1, zB_0, zB_1, zB_b, zbool_0, zbool_1, ↓reduceIte]
  exact h3
theorem zkm_hand {h h' : Nat → Int32} (hn : nt ≤ 4) (hh : ∀ t, t < 4 → h t = h' t) (r b : Nat) : zkm I nt LW h r b = zkm I nt LW h' r b := by
  unfold zkm
  rw [zsm_congr (h := h) (h' := h') (n := nt) (fun t ht => hh t (by omega)) (fun _ _ => rfl)]
theorem g_M_layOwn (hM : zMd I nt nb nr LW) {r : Nat} (hr : r < 6) :
    ∃ I', f_M_layOwn (zs I J (zPt t u i f s x)) 91 (nI r) = some (zs I' J (zPt t u i f s x)) ∧ zfr (zSl [101, 102, 112, 113]) I I' ∧ (∀ b, b < nb → I' 113 (10 * r + b) = zkm I nt LW (zhd I r (I 111 (24 + r))) r b) ∧ (∀ j, (j < 10 * r ∨ 10 * r + 10 ≤ j) → I' 113 j = I 113 j) ∧ ∀ t, t < 4 → I' 112 t = zhd I r (I 111 (24 + r)) t := by
  obtain ⟨I1, a1, a2, a3⟩ := g_M_layHand (I := I) (J := J) (t := t) (u := u) (i := i) (f := f) (s := s) (x := x) hr (I 111 (24 + r))
  have hM' : zMd I1 nt nb nr LW := zMd_sl hM a2 ⟨rfl, rfl, rfl, rfl⟩
  obtain ⟨I2, b1, b2, b3, b4⟩ := g_M_layKeys (J := J) (t := t) (u := u) (i := i) (f := f) (s := s) (x := x) hM' hr
  refine ⟨I2, ?_, zfr_trans (zfr_slm a2 rfl) (zfr_slm b2 rfl), fun b hb => ?_, fun j hj => ?_, fun t ht => ?_⟩
  · simp (disch := (first | omega | assumption)) only [f_M_layOwn, zg_12, gp_12_49, ai_111, al24, zbs, nI_add, pk_mul, znI_add1, znI_sub1, znI_subm, zle_nI, zlt_nI, zeq_nI, zle_0, zeq_0, zlt_0, zeq_m, zeq_1, zge_0, zbt0, zbt1, zB_0, zB_1, zB_b, zbool_0, zbool_1, ↓reduceIte, a1, b1]
  · rw [b3 b hb, zkm_hand hM.1.2 a3]
    unfold zkm
    rw [zfr_sl a2 107 rfl, zfr_sl a2 109 rfl, zfr_sl a2 111 rfl]
  · rw [b4 j hj, zfr_sl a2 113 rfl]
  · rw [zfr_sl b2 112 rfl]; exact a3 t ht
/-- all keys as all are -/
theorem g_M_layAll (hM : zMd I nt nb nr LW) :
    ∃ I', f_M_layAll (zs I J (zPt t u i f s x)) 91 = some (zs I' J (zPt t u i f s x)) ∧ zfr (zSl [101, 102, 112, 113]) I I' ∧ ∀ r b, r < nr → b < nb → I' 113 (10 * r + b) = zkm I nt LW (zhd I r (I 111 (24 + r))) r b := by
  have hnb := hM.2.1.2
  have hnr := hM.2.2.1.2
  obtain ⟨I', ⟨h1, h2⟩, h3⟩ := zfor (fun fuel I' k => f_M_layAll_2L fuel (zs I' J (zPt t u i f s x)) 91 (nI k)) nr (fun k I' => zfr (zSl [101, 102, 112, 113]) I I' ∧ ∀ r b, r < k → b < nb → I' 113 (10 * r + b) = zkm I nt LW (zhd I r (I 111 (24 + r))) r b) (fun I' => some (zs I' J (zPt t u i f s x)))
    (fun m k I' hk hi => by
      have hM' : zMd I' nt nb nr LW := zMd_sl hM hi.1 ⟨rfl, rfl, rfl, rfl⟩
      obtain ⟨I2, g1, g2, g3, g4, -⟩ := g_M_layOwn (J := J) (t := t) (u := u) (i := i) (f := f) (s := s) (x := x) hM' (show k < 6 by omega)
      have hle : ¬ nr ≤ k := by omega
      refine ⟨I2, ⟨zfr_trans hi.1 g2, fun r b hr hb => ?_⟩, ?_⟩
      · by_cases hrk : r = k
        · subst hrk
          rw [g3 b hb]
          unfold zkm zhd
          rw [zfr_sl hi.1 107 rfl, zfr_sl hi.1 109 rfl, zfr_sl hi.1 111 rfl, zfr_sl hi.1 91 rfl]
        · rw [g4 _ (by omega)]; exact hi.2 r b (by omega) hb
      · show f_M_layAll_2L (m + 1) _ _ _ = _
        rw [f_M_layAll_2L]
        simp (disch := (first | omega | assumption)) only [f_M_layAll_2, gi_12, zbs, nI_add, pk_mul, znI_add1, znI_sub1, znI_subm, zle_nI, zlt_nI, zeq_nI, zle_0, zeq_0, zlt_0, zeq_m, zeq_1, zge_0, zbt0, zbt1, zB_0, zB_1, zB_b, zbool_0, zbool_1, ↓reduceIte, hM'.2.2.1.1, hle, g1])
    (fun m I' hi => by
      have hM' : zMd I' nt nb nr LW := zMd_sl hM hi.1 ⟨rfl, rfl, rfl, rfl⟩
      show f_M_layAll_2L (m + 1) _ _ _ = _
      rw [f_M_layAll_2L]
      simp (disch := (first | omega | assumption)) only [f_M_layAll_2, gi_12, zbs, nI_add, pk_mul, znI_add1, znI_sub1, znI_subm, zle_nI, zlt_nI, zeq_nI, zle_0, zeq_0, zlt_0, zeq_m, zeq_1, zge_0, zbt0, zbt1, zB_0, zB_1, zB_b, zbool_0, zbool_1, ↓reduceIte, hM'.2.2.1.1, Nat.le_refl]) nr 0 I zfu (by omega) ⟨zfr_refl _ _, fun t b ht => by omega⟩ (zfu_lt (by omega))
  refine ⟨I', ?_, h1, h2⟩
  simp (disch := (first | omega | assumption)) only [f_M_layAll, zg_12, zbs, nI_add, pk_mul, znI_add1, znI_sub1, znI_subm, zle_nI, zlt_nI, zeq_nI, zle_0, zeq_0, zlt_0, zeq_m, zeq_1, zge_0, zbt0, zbt1, zB_0, zB_1, zB_b, zbool_0, zbool_1, ↓reduceIte]
  exact h3
end ZMk2
