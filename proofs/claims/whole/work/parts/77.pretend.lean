/-! pretend -/
def zcanP (r o p : Int32) (nr nb om : Nat) : Bool := zlt r nr && (zlt o nr && (!decide (r = o) && ((decide (p = 1) || decide (p = 2)) && !decide (zbc om = nb))))
theorem zcanP_t {r o p : Int32} {nr nb om : Nat} (hnr : nr ≤ 6) (h : zcanP r o p nr nb om = true) : ∃ r' o' m, r' < nr ∧ o' < nr ∧ r' ≠ o' ∧ 1 ≤ m ∧ m ≤ 2 ∧ r = nI r' ∧ o = nI o' ∧ p = nI m ∧ ¬ zbc om = nb := by
  unfold zcanP at h
  simp only [Bool.and_eq_true, Bool.or_eq_true, Bool.not_eq_true', decide_eq_true_eq, decide_eq_false_iff_not] at h
  obtain ⟨h1, h2, h3, h4, h5⟩ := h
  rcases zlt_cases r (n := nr) (by omega) with ⟨-, r', hr, rfl⟩ | hr
  · rcases zlt_cases o (n := nr) (by omega) with ⟨-, o', ho, rfl⟩ | ho
    · have hne : r' ≠ o' := fun e => h3 (by rw [e])
      rcases h4 with rfl | rfl
      · exact ⟨r', o', 1, hr, ho, hne, by decide, by decide, rfl, rfl, rfl, h5⟩
      · exact ⟨r', o', 2, hr, ho, hne, by decide, by decide, rfl, rfl, rfl, h5⟩
    · rw [ho] at h2; cases h2
  · rw [hr] at h1; cases h1
/-- the row v, as it lies there -/
def zrow (m nt v : Nat) : List Int32 := (List.range nt).map (zcell m nt v)
section ZPr
variable {I : Nat → Nat → Int32} {J : Nat → Nat → Int64} {t u i f s x : Nat} {nt nb nr q sh md om im A : Nat} {LW BW : List Int32}
theorem zcanBe (p : Int32) : f_R_canBe p = some (zB (decide (p = 1) || decide (p = 2))) := by
  by_cases h1 : p = 1
  · simp (disch := (first | omega | assumption)) only [f_R_canBe, eq2, zbs, nI_add, pk_mul, znI_add1, znI_sub1, znI_subm, zle_nI, zlt_nI, zeq_nI, zle_0, zeq_0, zlt_0, zeq_m, zeq_1, zge_0, zbt0, zbt1, zB_0, zB_1, zB_b, zbool_0, zbool_1, ↓reduceIte, h1]
    rfl
  · by_cases h2 : p = 2
    · subst h2
      decide
    · simp (disch := (first | omega | assumption)) only [f_R_canBe, eq2, zbs, nI_add, pk_mul, znI_add1, znI_sub1, znI_subm, zle_nI, zlt_nI, zeq_nI, zle_0, zeq_0, zlt_0, zeq_m, zeq_1, zge_0, zbt0, zbt1, zB_0, zB_1, zB_b, zbool_0, zbool_1, ↓reduceIte, h1, h2]
      rfl
theorem zisIn12 (p : Int32) : f_M_isIn p 1 2 = some (zB (decide (p = 1) || decide (p = 2))) := by
  have h := zcanBe p
  rcases zm12 p with ⟨h1, h2, -⟩ | ⟨h1, h2⟩
  · rw [h2, ← h1, h]
  · rw [h2, ← h1, h]
theorem g_W_canPretend (hC : zCo I t nt nb nr q sh md om im LW BW) (r o p : Int32) : f_W_canPretend (zs I J (zPt t u i f s x)) 0 r o p = some (zB (zcanP r o p nr nb om)) := by
  have ht := hC.1
  have x1 := g_W_isReader (J := J) (t := t) (u := u) (i := i) (f := f) (s := s) (x := x) ht hC.2.1.2.1.2.2.1.1 r
  have x2 := g_W_isReader (J := J) (t := t) (u := u) (i := i) (f := f) (s := s) (x := x) ht hC.2.1.2.1.2.2.1.1 o
  have x3 := zcanBe p
  have x4 := g_W_noneHere (J := J) (t := t) (u := u) (i := i) (f := f) (s := s) (x := x) hC
  unfold zcanP
  cases h1 : zlt r nr with
  | false =>
    rw [h1] at x1
    simp (disch := (first | omega | assumption)) only [f_W_canPretend, zg_11, zbs, nI_add, pk_mul, znI_add1, znI_sub1, znI_subm, zle_nI, zlt_nI, zeq_nI, zle_0, zeq_0, zlt_0, zeq_m, zeq_1, zge_0, zbt0, zbt1, zB_0, zB_1, zB_b, zbool_0, zbool_1, ↓reduceIte, x1, Bool.false_and]
    rfl
  | true =>
    rw [h1] at x1
    cases h2 : zlt o nr with
    | false =>
      rw [h2] at x2
      simp (disch := (first | omega | assumption)) only [f_W_canPretend, zg_11, zbs, nI_add, pk_mul, znI_add1, znI_sub1, znI_subm, zle_nI, zlt_nI, zeq_nI, zle_0, zeq_0, zlt_0, zeq_m, zeq_1, zge_0, zbt0, zbt1, zB_0, zB_1, zB_b, zbool_0, zbool_1, ↓reduceIte, x1, x2, Bool.true_eq_false, Bool.false_and, Bool.true_and]
      rfl
    | true =>
      rw [h2] at x2
      by_cases h3 : r = o
      · subst h3
        simp (disch := (first | omega | assumption)) only [f_W_canPretend, zg_11, zbs, nI_add, pk_mul, znI_add1, znI_sub1, znI_subm, zle_nI, zlt_nI, zeq_nI, zle_0, zeq_0, zlt_0, zeq_m, zeq_1, zge_0, zbt0, zbt1, zB_0, zB_1, zB_b, zbool_0, zbool_1, ↓reduceIte, x1, Bool.true_eq_false, Bool.true_and, decide_true, Bool.not_true, Bool.false_and]
        rfl
      · cases h4 : (decide (p = 1) || decide (p = 2)) with
        | false =>
          rw [h4] at x3
          simp (disch := (first | omega | assumption)) only [f_W_canPretend, zg_11, zbs, nI_add, pk_mul, znI_add1, znI_sub1, znI_subm, zle_nI, zlt_nI, zeq_nI, zle_0, zeq_0, zlt_0, zeq_m, zeq_1, zge_0, zbt0, zbt1, zB_0, zB_1, zB_b, zbool_0, zbool_1, ↓reduceIte, x1, x2, h3, x3, Bool.true_eq_false, Bool.true_and, decide_false, Bool.not_false, Bool.false_and]
          rfl
        | true =>
          rw [h4] at x3
          cases h5 : decide (zbc om = nb) with
          | false =>
            rw [h5] at x4
            simp (disch := (first | omega | assumption)) only [f_W_canPretend, zg_11, zbs, nI_add, pk_mul, znI_add1, znI_sub1, znI_subm, zle_nI, zlt_nI, zeq_nI, zle_0, zeq_0, zlt_0, zeq_m, zeq_1, zge_0, zbt0, zbt1, zB_0, zB_1, zB_b, zbool_0, zbool_1, ↓reduceIte, x1, x2, h3, x3, x4, Bool.true_eq_false, Bool.true_and, decide_false, Bool.not_false]
            rfl
          | true =>
            rw [h5] at x4
            simp (disch := (first | omega | assumption)) only [f_W_canPretend, zg_11, zbs, nI_add, pk_mul, znI_add1, znI_sub1, znI_subm, zle_nI, zlt_nI, zeq_nI, zle_0, zeq_0, zlt_0, zeq_m, zeq_1, zge_0, zbt0, zbt1, zB_0, zB_1, zB_b, zbool_0, zbool_1, ↓reduceIte, x1, x2, h3, x3, x4, Bool.true_eq_false, Bool.true_and, decide_false, Bool.not_false, Bool.not_true]
            rfl
theorem g_M_isPair (hC : zCo I t nt nb nr q sh md om im LW BW) (r o p : Int32) : f_M_isPair (zs I J (zPt t u i f s x)) 91 r o p = some (zB (zcanP r o p nr nb om)) := by
  have hM := hC.2.1.1
  have hnb := hM.2.1.2
  have x1 := g_M_isReader (J := J) (t := t) (u := u) (i := i) (f := f) (s := s) (x := x) hM.2.2.1.1 hM.2.2.1.2 r
  have x2 := g_M_isReader (J := J) (t := t) (u := u) (i := i) (f := f) (s := s) (x := x) hM.2.2.1.1 hM.2.2.1.2 o
  have x3 := zisIn12 p
  have mm := g_M_members (k := om) (z2n hnb hC.2.2.2.2.1.2)
  have hct := zok_ct hnb hC.2.2.2.2.1.2
  unfold zcanP
  cases h1 : zlt r nr with
  | false =>
    rw [h1] at x1
    simp (disch := (first | omega | assumption)) only [f_M_isPair, zg_12, gi_12, gp_12_49, al_111_31, zbs, nI_add, pk_mul, znI_add1, znI_sub1, znI_subm, zle_nI, zlt_nI, zeq_nI, zle_0, zeq_0, zlt_0, zeq_m, zeq_1, zge_0, zbt0, zbt1, zB_0, zB_1, zB_b, zbool_0, zbool_1, ↓reduceIte, x1, Bool.false_and]
    rfl
  | true =>
    rw [h1] at x1
    cases h2 : zlt o nr with
    | false =>
      rw [h2] at x2
      simp (disch := (first | omega | assumption)) only [f_M_isPair, zg_12, gi_12, gp_12_49, al_111_31, zbs, nI_add, pk_mul, znI_add1, znI_sub1, znI_subm, zle_nI, zlt_nI, zeq_nI, zle_0, zeq_0, zlt_0, zeq_m, zeq_1, zge_0, zbt0, zbt1, zB_0, zB_1, zB_b, zbool_0, zbool_1, ↓reduceIte, x1, x2, Bool.true_eq_false, Bool.false_and, Bool.true_and]
      rfl
    | true =>
      rw [h2] at x2
      by_cases h3 : r = o
      · subst h3
        simp (disch := (first | omega | assumption)) only [f_M_isPair, zg_12, gi_12, gp_12_49, al_111_31, zbs, nI_add, pk_mul, znI_add1, znI_sub1, znI_subm, zle_nI, zlt_nI, zeq_nI, zle_0, zeq_0, zlt_0, zeq_m, zeq_1, zge_0, zbt0, zbt1, zB_0, zB_1, zB_b, zbool_0, zbool_1, ↓reduceIte, x1, Bool.true_eq_false, Bool.true_and, decide_true, Bool.not_true, Bool.false_and]
        rfl
      · cases h4 : (decide (p = 1) || decide (p = 2)) with
        | false =>
          rw [h4] at x3
          simp (disch := (first | omega | assumption)) only [f_M_isPair, zg_12, gi_12, gp_12_49, al_111_31, zbs, nI_add, pk_mul, znI_add1, znI_sub1, znI_subm, zle_nI, zlt_nI, zeq_nI, zle_0, zeq_0, zlt_0, zeq_m, zeq_1, zge_0, zbt0, zbt1, zB_0, zB_1, zB_b, zbool_0, zbool_1, ↓reduceIte, x1, x2, h3, x3, Bool.true_eq_false, Bool.true_and, decide_false, Bool.not_false, Bool.false_and]
          rfl
        | true =>
          rw [h4] at x3
          have hb6 : zbc om < 2 ^ 31 := by omega
          by_cases h5 : zbc om = nb
          · have h6 : nb ≤ zbc om := by omega
            simp (disch := (first | omega | assumption)) only [f_M_isPair, zg_12, gi_12, gp_12_49, al_111_31, zbs, nI_add, pk_mul, znI_add1, znI_sub1, znI_subm, zle_nI, zlt_nI, zeq_nI, zle_0, zeq_0, zlt_0, zeq_m, zeq_1, zge_0, zbt0, zbt1, zB_0, zB_1, zB_b, zbool_0, zbool_1, ↓reduceIte, x1, x2, h3, x3, hC.2.2.2.2.1.1, mm, hM.2.1.1, h6, Bool.true_eq_false, Bool.true_and, decide_false, Bool.not_false]
            simp [h5, zB, zbool]
          · have h6 : ¬ nb ≤ zbc om := by omega
            simp (disch := (first | omega | assumption)) only [f_M_isPair, zg_12, gi_12, gp_12_49, al_111_31, zbs, nI_add, pk_mul, znI_add1, znI_sub1, znI_subm, zle_nI, zlt_nI, zeq_nI, zle_0, zeq_0, zlt_0, zeq_m, zeq_1, zge_0, zbt0, zbt1, zB_0, zB_1, zB_b, zbool_0, zbool_1, ↓reduceIte, x1, x2, h3, x3, hC.2.2.2.2.1.1, mm, hM.2.1.1, h6, Bool.true_eq_false, Bool.true_and, decide_false, Bool.not_false]
            simp [h5, zB, zbool]
theorem zrow_take {m v k : Nat} (hk : k < nt) : (List.range (k + 1)).map (zcell m nt v) = (List.range k).map (zcell m nt v) ++ [zcell m nt v k] := by
  rw [List.range_succ, List.map_append]
  rfl
theorem x_layDownRow (hA : A = 52 ∨ A = 56) (ht : t = 2 ∨ t = 13) (h0 : I t 0 = nI nt) (hnt : nt ≤ 4) {m r : Nat} {K : Nat → Nat → Int32} (hW : zRw I A nt nb m r K) {v : Nat} (hv : v < (2 * m + 1) ^ nt) (hR : (2 * m + 1) ^ nt ≤ 625) {V : List Int32} (hV : zLnx I V) (hVl : V.length ≤ 6) :
    ∃ I', f_W_layDownRow (zs I J (zPt t u i f s x)) 0 A (nI v) = some (zs I' J (zPt t u i f s x)) ∧ zfr (fun a k => a == 75 || (a == 0 && k == 18)) I I' ∧ zLnx I' (V ++ zrow m nt v) := by
  obtain ⟨I', ⟨a1, a2⟩, a3⟩ := zfor (fun fuel I' k => f_W_layDownRow_2L fuel (zs I' J (zPt t u i f s x)) 0 A (nI v) (nI k)) nt (fun k I' => zfr (fun a k => a == 75 || (a == 0 && k == 18)) I I' ∧ zLnx I' (V ++ (List.range k).map (zcell m nt v))) (fun I' => some (zs I' J (zPt t u i f s x)))
    (fun m' k I' hk hi => by
      have hle : ¬ nt ≤ k := by omega
      have e0 : I' t 0 = nI nt := by rw [zfr_row hi.1 t (fun k => by rcases ht with rfl | rfl <;> rfl)]; exact h0
      have ce := g_R_cell (I := I') (J := J) (t := t) (u := u) (i := i) (f := f) (s := s) (x := x) hA (show v < 625 by omega) (show k < 4 by omega)
      rw [zfr_row hi.1 (A + 1) (fun k => by rcases hA with rfl | rfl <;> rfl), hW.2.2.2.1 v k hv hk] at ce
      obtain ⟨I2, b1, b2, b3⟩ := g_W_layDown (J := J) (t := t) (u := u) (i := i) (f := f) (s := s) (x := x) hi.2 (by rw [List.length_append, List.length_map, List.length_range]; omega) (zcell m nt v k)
      refine ⟨I2, ⟨zfr_trans hi.1 b2, ?_⟩, ?_⟩
      · rw [zrow_take hk, ← List.append_assoc]; exact b3
      · show f_W_layDownRow_2L (m' + 1) _ _ _ _ _ = _
        rw [f_W_layDownRow_2L]
        simp (disch := (first | omega | assumption)) only [f_W_layDownRow_2, gi_10, gp_11_2, zbs, nI_add, pk_mul, znI_add1, znI_sub1, znI_subm, zle_nI, zlt_nI, zeq_nI, zle_0, zeq_0, zlt_0, zeq_m, zeq_1, zge_0, zbt0, zbt1, zB_0, zB_1, zB_b, zbool_0, zbool_1, ↓reduceIte, e0, hle, ce, b1])
    (fun m' I' hi => by
      have e0 : I' t 0 = nI nt := by rw [zfr_row hi.1 t (fun k => by rcases ht with rfl | rfl <;> rfl)]; exact h0
      show f_W_layDownRow_2L (m' + 1) _ _ _ _ _ = _
      rw [f_W_layDownRow_2L]
      simp (disch := (first | omega | assumption)) only [f_W_layDownRow_2, gi_10, gp_11_2, zbs, nI_add, pk_mul, znI_add1, znI_sub1, znI_subm, zle_nI, zlt_nI, zeq_nI, zle_0, zeq_0, zlt_0, zeq_m, zeq_1, zge_0, zbt0, zbt1, zB_0, zB_1, zB_b, zbool_0, zbool_1, ↓reduceIte, e0, Nat.le_refl]) nt 0 I zfu (by omega) ⟨zfr_refl _ _, by simpa using hV⟩ (zfu_lt (by omega))
  refine ⟨I', ?_, a1, a2⟩
  simp (disch := (first | omega | assumption)) only [f_W_layDownRow, zg_11, zbs, nI_add, pk_mul, znI_add1, znI_sub1, znI_subm, zle_nI, zlt_nI, zeq_nI, zle_0, zeq_0, zlt_0, zeq_m, zeq_1, zge_0, zbt0, zbt1, zB_0, zB_1, zB_b, zbool_0, zbool_1, ↓reduceIte]
  exact a3
/-- what x_nearest and m_bestRow find is alike -/
theorem znear {P : Nat → Nat} {sh R : Nat} (hR : 0 < R) (hP : ∀ k, k < R → P k < 10) : ∃ c, c < R ∧ zrn (ztx P) R 0 (0, 10) = (c, P c) ∧ zrn (zthm P sh) R 0 (0, 1000000) = (c, zst sh (P c)) := by
  rcases zthink_rel P sh R hP R (Nat.le_refl _) with ⟨h, -⟩ | ⟨c, p, hc, hp, h1, h2⟩
  · omega
  · have h3 := ztx_at hP R hR (Nat.le_refl _)
    rw [h1] at h3
    dsimp only at h3
    rw [h3.2] at h1 h2
    exact ⟨c, hc, h1, h2⟩
theorem zPK_10 {K : Nat → Nat → Int32} {set b : Nat} (hnb : nb ≤ 10) (hb : b < nb) (hob : om.testBit b = false) : zPK K q nr nb om set b < 10 := by
  have hO := zord_Od (K := K) (q := q) (nr := nr) (ok := zokO om) (set := set) hnb
  obtain ⟨k, hk⟩ := List.getElem?_of_mem ((hO.2.2 b).mpr ⟨hb, by simp [zokO, hob]⟩)
  have hl := (List.getElem?_eq_some_iff.mp hk).1
  have hc := zct_le (zokO om) nb
  rw [hO.2.1] at hl
  have e : zPK K q nr nb om set b = k := zps_at hO.1 hk
  omega
/-- his book as he is -/
theorem zown_book (hC : zCo I t nt nb nr q sh md om im LW BW) (hall : ¬ zbc om = nb) (r : Nat) : ∃ b, zbest (zokO om) (zKy I nt LW r) nb = some b ∧ b < nb ∧ om.testBit b = false := by
  have hnb := hC.2.1.1.2.1.2
  have hct := zok_ct hnb hC.2.2.2.2.1.2
  have hs := zbest_spec (zokO om) (zKy I nt LW r) nb
  cases hz : zbest (zokO om) (zKy I nt LW r) nb with
  | none =>
    rw [hz] at hs
    have := zct_0 hs
    omega
  | some b =>
    rw [hz] at hs
    refine ⟨b, rfl, hs.1, ?_⟩
    have := hs.2.1
    simpa [zokO] using this
theorem m_layHand0 (hC : zCo I t nt nb nr q sh md om im LW BW) {hd : Nat → Int32} (hh : ∀ k, k < 4 → I 112 k = hd k) (hV : zLnm I []) (v5 : Int32) :
    ∃ I', f_M_pretend_70L zfu (zs I J (zPt t u i f s x)) 91 v5 0 = some (v5 - I 91 67, (zs I' J (zPt t u i f s x))) ∧ zfr (fun a k => a == 117 || (a == 91 && k == 59)) I I' ∧ zLnm I' ((List.range nt).map hd) := by
  have hnt := hC.2.1.1.1.2
  obtain ⟨I', ⟨a1, a2⟩, a3⟩ := zfor (fun fuel I' k => f_M_pretend_70L fuel (zs I' J (zPt t u i f s x)) 91 v5 (nI k)) nt (fun k I' => zfr (fun a k => a == 117 || (a == 91 && k == 59)) I I' ∧ zLnm I' ((List.range k).map hd)) (fun I' => some (v5 - I 91 67, (zs I' J (zPt t u i f s x))))
    (fun m' k I' hk hi => by
      have hle : ¬ nt ≤ k := by omega
      have e0 : I' 91 41 = nI nt := (hi.1 91 41 rfl).trans hC.2.1.1.1.1
      have eh : I' 112 k = hd k := by rw [zfr_row hi.1 112 (fun _ => rfl)]; exact hh k (by omega)
      obtain ⟨I2, b1, b2, b3⟩ := g_M_lay (J := J) (t := t) (u := u) (i := i) (f := f) (s := s) (x := x) hi.2 (by rw [List.length_map, List.length_range]; omega) (hd k)
      refine ⟨I2, ⟨zfr_trans hi.1 b2, ?_⟩, ?_⟩
      · rw [List.range_succ, List.map_append]; exact b3
      · show f_M_pretend_70L (m' + 1) _ _ _ _ = _
        rw [f_M_pretend_70L]
        simp (disch := (first | omega | assumption)) only [f_M_pretend_70, gi_12, gp_12_50, ai_112, zbs, nI_add, pk_mul, znI_add1, znI_sub1, znI_subm, zle_nI, zlt_nI, zeq_nI, zle_0, zeq_0, zlt_0, zeq_m, zeq_1, zge_0, zbt0, zbt1, zB_0, zB_1, zB_b, zbool_0, zbool_1, ↓reduceIte, e0, hle, eh, b1])
    (fun m' I' hi => by
      have e0 : I' 91 41 = nI nt := (hi.1 91 41 rfl).trans hC.2.1.1.1.1
      have e67 : I' 91 67 = I 91 67 := hi.1 91 67 rfl
      show f_M_pretend_70L (m' + 1) _ _ _ _ = _
      rw [f_M_pretend_70L]
      simp (disch := (first | omega | assumption)) only [f_M_pretend_70, gi_12, gp_12_50, ai_112, zbs, nI_add, pk_mul, znI_add1, znI_sub1, znI_subm, zle_nI, zlt_nI, zeq_nI, zle_0, zeq_0, zlt_0, zeq_m, zeq_1, zge_0, zbt0, zbt1, zB_0, zB_1, zB_b, zbool_0, zbool_1, ↓reduceIte, e0, e67, Nat.le_refl]) nt 0 I zfu (by omega) ⟨zfr_refl _ _, by simpa using hV⟩ (zfu_lt (by omega))
  exact ⟨I', a3, a1, a2⟩
theorem zor_I {r o : Nat} (hnr : nr ≤ 6) (hr : r < nr) (ho : o < nr) : (1 : Int32) <<< (nI r &&& 31) ||| 1 <<< (nI o &&& 31) = nI (2 ^ r ||| 2 ^ o) := by
  rw [zshl1 r (by omega), zshl1 o (by omega), znor]
  · have := z64 hnr (z2r hr); omega
  · have := z64 hnr (z2r ho); omega
theorem q_pretend (hC : zCo I t nt nb nr q sh md om im LW BW) (r o p : Int32) : zOK3 I J t u i f s x (fun σ => f_W_pretend σ 0 r o p) (fun σ => f_M_pretend σ 91 r o p) := by
  have ht := hC.1
  have hnb := hC.2.1.1.2.1.2
  have hnr := hC.2.1.1.2.2.1.2
  have hnt := hC.2.1.1.1.2
  have f0 : zfr zSnx I (zup I 0 18 0) := zfr_up (zfr_refl _ _) rfl
  have hC0 := zCo_frn hC (zfr_mono f0 zSnx_n)
  have v0 : zLnx (zup I 0 18 0) [] := ⟨zup_s _ _ _ _, fun k v h => by simp at h⟩
  have x1 := g_W_canPretend (J := J) (t := t) (u := u) (i := i) (f := f) (s := s) (x := x) hC0 r o p
  cases hcan : zcanP r o p nr nb om with
  | false =>
    rw [hcan] at x1
    have f1 : zfr zSnm (zup I 0 18 0) (zup (zup I 0 18 0) 91 59 0) := zfr_up (zfr_refl _ _) rfl
    have hC1 := zCo_frn hC0 (zfr_mono f1 zSnm_n)
    have m1 := g_M_isPair (J := J) (t := t) (u := u) (i := i) (f := f) (s := s) (x := x) hC1 r o p
    rw [hcan] at m1
    refine ⟨-1, [], zup I 0 18 0, J, s, zup (zup I 0 18 0) 91 59 0, J, ?_, ?_, zfr_trans (zfr_mono f0 zSnx_n) (zfr_mono f1 zSnm_n), Or.inl rfl, zLnx_g v0 f1, ⟨zup_s _ _ _ _, fun k v h => by simp at h⟩, by simp⟩
    · show f_W_pretend _ 0 _ _ _ = _
      simp (disch := (first | omega | assumption)) only [f_W_pretend, zg_11, si_11, gp_11_9, gp_11_2, gp_11_5, gp_11_10, zbs, nI_add, pk_mul, znI_add1, znI_sub1, znI_subm, zle_nI, zlt_nI, zeq_nI, zle_0, zeq_0, zlt_0, zeq_m, zeq_1, zge_0, zbt0, zbt1, zB_0, zB_1, zB_b, zbool_0, zbool_1, ↓reduceIte, x1]
    · show f_M_pretend _ 91 _ _ _ = _
      simp (disch := (first | omega | assumption)) only [f_M_pretend, zg_12, gi_12, si_12, zbs, nI_add, pk_mul, znI_add1, znI_sub1, znI_subm, zle_nI, zlt_nI, zeq_nI, zle_0, zeq_0, zlt_0, zeq_m, zeq_1, zge_0, zbt0, zbt1, zB_0, zB_1, zB_b, zbool_0, zbool_1, ↓reduceIte, m1]
  | true =>
    rw [hcan] at x1
    obtain ⟨r, o, m, hr, ho, hro, hm1, hm, rfl, rfl, rfl, hall⟩ := zcanP_t hnr hcan
    have hR := zR_le (m := m) hm hnt
    have hRp : 0 < (2 * m + 1) ^ nt := Nat.pow_pos (by omega)
    have hset : 2 ^ r ||| 2 ^ o < 2 ^ nr := Nat.or_lt_two_pow (z2r hr) (z2r ho)
    have hor := zor_I hnr hr ho
    obtain ⟨b, hbest, hb, hob⟩ := zown_book hC0 hall r
    -- the class
    obtain ⟨I1, a1, a2, a5, a4, a3⟩ := q_open (J := J) (t := t) (u := u) (i := i) (f := f) (s := s) (x := x) hC0
    obtain ⟨s1, -, s2, -, -, -, s7, s8, s9⟩ := a4
    have p1 := g_S_firstOf (J := J) (t := t) (u := u) (i := i) (f := f) (x := x) ht s1 hnb s7 s8 (show r < 6 by omega)
    have hb1 : zbest (fun b => (zhm nb om).testBit b) (zKx I1 r) nb = some b := by
      rw [← hbest]
      exact zbest_congr (fun b hb => zhm_ok hnb hb) (fun b hb _ => a3 r b hr hb)
    rw [hb1] at p1
    have p1 : f_S_firstOf (zs I1 J (zPt t u i f t x)) 47 (nI r) = some (nI b) := p1
    have a4 : zSh I1 t nb nr q (zhm nb om) := (by
      obtain ⟨I1', e1, -, -, e4, -⟩ := q_open (J := J) (t := t) (u := u) (i := i) (f := f) (s := s) (x := x) hC0
      rw [a1] at e1
      have : zs I1 J (zPt t u i f t x) = zs I1' J (zPt t u i f t x) := Option.some.inj e1
      have h2 : I1 = I1' := congrArg (fun σ : zSt => σ.2.1) this
      rw [h2]
      exact e4)
    obtain ⟨I2, b1, b2, b3⟩ := g_placeK (J := J) (t := t) (u := u) (i := i) (f := f) (x := x) ht a4 a3 hset hb hob
    have f2 : zfr zSg (zup I 0 18 0) I2 := zfr_trans a2 (zfr_g b2 zSg_xls)
    have hC2 := zCo_fr hC0 f2
    obtain ⟨I3, c1, c2, -, c3⟩ := g_R_fill (A := 52) (J := J) (t := t) (u := u) (i := i) (f := f) (x := x) (Or.inl rfl) hC2 hm hr
    have eKR : (fun v b => zkm I2 nt LW (zcell m nt v) r b) = fun v b => zkm (zup I 0 18 0) nt LW (zcell m nt v) r b := by
      funext v
      exact zfK_fr f2 m r v
    rw [eKR] at c3
    have hS3 : zSh I3 t nb nr q (zhm nb om) := by
      have h := zSh_ls ht a4 b2
      unfold zSh
      rw [zRs_row c2 t (by omega) (by omega) (by omega) (by omega) (by omega), zRs_row c2 47 (by decide) (by decide) (by decide) (by decide) (by omega)]
      exact h
    have hK3 : ∀ r' b, r' < nr → b < nb → zKx I3 r' b = zKy (zup I 0 18 0) nt LW r' b := fun r' b hr' hb => by
      have : zKx I3 = zKx I1 := by
        unfold zKx
        rw [zRs_row c2 48 (by decide) (by decide) (by decide) (by decide) (by omega), zXls_row b2 48 (by decide) (by decide) (by decide)]
      rw [this]
      exact a3 r' b hr' hb
    obtain ⟨I4, d1, d2, d3⟩ := x_nearest (A := 52) (J := J) (t := t) (u := u) (i := i) (f := f) (x := x) (Or.inl rfl) ht hS3 c3 hR hr hK3 hset hb hob
    obtain ⟨c, hc, near1, near2⟩ := znear (P := fun v => zPK (zKw (zKy (zup I 0 18 0) nt LW) r (fun b => zkm (zup I 0 18 0) nt LW (zcell m nt v) r b)) q nr nb om (2 ^ r ||| 2 ^ o) b) (sh := sh) hRp (fun k _ => zPK_10 hnb hb hob)
    rw [near1] at d1 d3
    have hS4 := zSh_w ht hS3 d2
    obtain ⟨I5, e1, e2, e3⟩ := g_placeK (J := J) (t := t) (u := u) (i := i) (f := f) (x := x) ht hS4 d3 hset hb hob
    have f5 : zfr zSg (zup I 0 18 0) I5 := zfr_trans f2 (zfr_trans (zfr_g c2 (zSg_rs (Or.inl rfl) ht)) (zfr_trans (zfr_g d2 zSg_w) (zfr_g e2 zSg_xls)))
    have hC5 := zCo_fr hC0 f5
    have v5 := zLnx_sg v0 f5
    have hW5 : zRw I5 52 nt nb m r (fun v b => zkm (zup I 0 18 0) nt LW (zcell m nt v) r b) := zRw_fr (Or.inl rfl) (zRw_fr (Or.inl rfl) c3 d2) (zfr_mono e2 zXls_w)
    -- the reference, from any such state
    have ref : ∀ I6, zCo I6 t nt nb nr q sh md om im LW BW → (∀ r b, zKy I6 nt LW r b = zKy (zup I 0 18 0) nt LW r b) → (∀ v, (fun b => zkm I6 nt LW (zcell m nt v) r b) = fun b => zkm (zup I 0 18 0) nt LW (zcell m nt v) r b) →
        ∃ (I7 : Nat → Nat → Int32), f_M_pretend (zs I6 J (zPt t u i f t x)) 91 (nI r) (nI o) (nI m) = (if zst sh (zPK (zKw (zKy (zup I 0 18 0) nt LW) r (fun b => zkm (zup I 0 18 0) nt LW (zcell m nt c) r b)) q nr nb om (2 ^ r ||| 2 ^ o) b) < zst sh (zPK (zKy (zup I 0 18 0) nt LW) q nr nb om (2 ^ r ||| 2 ^ o) b) then (f_M_layRow (zs I7 J (zPt t u i f t x)) 91 (nI c) (nI m)).bind fun σ => f_M_pretend_70L zfu σ 91 (nI (zst sh (zPK (zKy (zup I 0 18 0) nt LW) q nr nb om (2 ^ r ||| 2 ^ o) b))) 0 else some (0, (zs I7 J (zPt t u i f t x)))) ∧ zfr zSnm I6 I7 ∧ zLnm I7 [] ∧ I7 91 67 = nI (zst sh (zPK (zKw (zKy (zup I 0 18 0) nt LW) r (fun b => zkm (zup I 0 18 0) nt LW (zcell m nt c) r b)) q nr nb om (2 ^ r ||| 2 ^ o) b)) := fun I6 hC6 hky hkr => by
      have g0 : zfr zSnm I6 (zup I6 91 59 0) := zfr_up (zfr_refl _ _) rfl
      have hC7 := zCo_frn hC6 (zfr_mono g0 zSnm_n)
      have w0 : zLnm (zup I6 91 59 0) [] := ⟨zup_s _ _ _ _, fun k v h => by simp at h⟩
      have m1 := g_M_isPair (J := J) (t := t) (u := u) (i := i) (f := f) (s := t) (x := x) hC7 (nI r) (nI o) (nI m)
      rw [hcan] at m1
      obtain ⟨I8, v, o1, o2, -, o4⟩ := g_M_ownBook (J := J) (t := t) (u := u) (i := i) (f := f) (s := t) (x := x) hC7 hr
      have hk7 : zKy (zup I6 91 59 0) nt LW = zKy (zup I 0 18 0) nt LW := by
        rw [zKy_frn (zfr_mono g0 zSnm_n)]
        funext r b
        exact hky r b
      rw [hk7] at o4
      have hv := o4 b hbest
      subst hv
      have hC8 := zCo_fr hC7 o2
      obtain ⟨I9, l1, l2, -, l3⟩ := q_layAll (J := J) (t := t) (u := u) (i := i) (f := f) (s := t) (x := x) hC8
      rw [zKy_fr o2, hk7] at l3
      have hC9 := zCo_fr hC8 l2
      obtain ⟨I10, st1, st2, st3, -⟩ := m_stepsBoth (J := J) (t := t) (u := u) (i := i) (f := f) (s := t) (x := x) hC9 l3 hr ho hb hob
      have f10 : zfr zSg (zup I6 91 59 0) I10 := zfr_trans o2 (zfr_trans l2 (zfr_g st2 zSg_ls))
      have hC10 := zCo_fr hC7 f10
      obtain ⟨I11, q1, q2, -, -, -, q5, q6⟩ := m_bestRow (J := J) (t := t) (u := u) (i := i) (f := f) (s := t) (x := x) hC10 hm (K := zKy (zup I 0 18 0) nt LW) (fun r' b hr' hb _ => by rw [zKm_ls st2]; exact l3 r' b hr' hb) hr ho hb hob
      have hkr10 : ∀ v, (fun b => zkm I10 nt LW (zcell m nt v) r b) = fun b => zkm (zup I 0 18 0) nt LW (zcell m nt v) r b := fun v => by
        rw [zfK_fr f10, ← hkr v]
        funext b
        unfold zkm
        rw [zup_ne _ _ _ (by decide), zup_ne _ _ _ (by decide), zup_ne _ _ _ (by decide)]
      have hP : (fun v => zPK (zKw (zKy (zup I 0 18 0) nt LW) r (fun b => zkm I10 nt LW (zcell m nt v) r b)) q nr nb om (2 ^ r ||| 2 ^ o) b) = fun v => zPK (zKw (zKy (zup I 0 18 0) nt LW) r (fun b => zkm (zup I 0 18 0) nt LW (zcell m nt v) r b)) q nr nb om (2 ^ r ||| 2 ^ o) b := by
        funext v
        rw [hkr10 v]
      rw [hP, near2] at q5 q6
      dsimp only at q5 q6
      have hs1 := zst_lt (sh := sh) (zPK_10 (K := zKw (zKy (zup I 0 18 0) nt LW) r (fun b => zkm (zup I 0 18 0) nt LW (zcell m nt c) r b)) (q := q) (nr := nr) (set := 2 ^ r ||| 2 ^ o) hnb hb hob)
      have hs2 := zst_lt (sh := sh) st3
      refine ⟨I11, ?_, zfr_trans g0 (zfr_mono (zfr_trans f10 q2) zSg_nm), zLnm_sg (zLnm_sg w0 f10) q2, q6⟩
      by_cases hlt : zst sh (zPK (zKw (zKy (zup I 0 18 0) nt LW) r (fun b => zkm (zup I 0 18 0) nt LW (zcell m nt c) r b)) q nr nb om (2 ^ r ||| 2 ^ o) b) < zst sh (zPK (zKy (zup I 0 18 0) nt LW) q nr nb om (2 ^ r ||| 2 ^ o) b)
      · rw [if_pos hlt]
        simp (disch := (first | omega | assumption)) only [f_M_pretend, zg_12, gi_12, si_12, zbs, nI_add, pk_mul, znI_add1, znI_sub1, znI_subm, zle_nI, zlt_nI, zeq_nI, zle_0, zeq_0, zlt_0, zeq_m, zeq_1, zge_0, zbt0, zbt1, zB_0, zB_1, zB_b, zbool_0, zbool_1, ↓reduceIte, m1, o1, l1, st1, q1, q5, q6, hlt, Bool.true_eq_false]
      · rw [if_neg hlt]
        simp (disch := (first | omega | assumption)) only [f_M_pretend, zg_12, gi_12, si_12, zbs, nI_add, pk_mul, znI_add1, znI_sub1, znI_subm, zle_nI, zlt_nI, zeq_nI, zle_0, zeq_0, zlt_0, zeq_m, zeq_1, zge_0, zbt0, zbt1, zB_0, zB_1, zB_b, zbool_0, zbool_1, ↓reduceIte, m1, o1, l1, st1, q1, q5, q6, hlt, Bool.true_eq_false]
    by_cases hlt : zPK (zKw (zKy (zup I 0 18 0) nt LW) r (fun b => zkm (zup I 0 18 0) nt LW (zcell m nt c) r b)) q nr nb om (2 ^ r ||| 2 ^ o) b < zPK (zKy (zup I 0 18 0) nt LW) q nr nb om (2 ^ r ||| 2 ^ o) b
    · have hmono := zst_mono (sh := sh) hlt
      obtain ⟨I6, y1, y2, y3⟩ := x_layDownRow (A := 52) (J := J) (t := t) (u := u) (i := i) (f := f) (s := t) (x := x) (Or.inl rfl) ht hC5.2.1.2.1.1.1 hnt hW5 hc hR v5 (by simp)
      rw [List.nil_append] at y3
      have f6 : zfr zSnx (zup I 0 18 0) I6 := zfr_trans (zfr_mono f5 zSg_nx) (zfr_mono y2 zSx75)
      have hC6 := zCo_frn hC0 (zfr_mono f6 zSnx_n)
      obtain ⟨I7, r1, r2, r3, r4⟩ := ref I6 hC6 (fun r b => by rw [zKy_frn (zfr_mono f6 zSnx_n)]) (fun v => by
        funext b
        unfold zkm
        rw [zfr_row f6 107 (fun _ => rfl), zfr_row f6 109 (fun _ => rfl), zfr_row f6 111 (fun _ => rfl)])
      rw [if_pos hmono] at r1
      have hC7 := zCo_frn hC6 (zfr_mono r2 zSnm_n)
      obtain ⟨I8, w1, w2, w3⟩ := g_M_layRow (I := I7) (J := J) (t := t) (u := u) (i := i) (f := f) (s := t) (x := x) hC7.2.1.1.1.1 hnt hm (show c < 625 by omega)
      have g8 : zfr zSg I7 I8 := zfr_gl w2 (fun a ha k => by simp at ha; subst ha; rfl)
      have hC8 := zCo_fr hC7 g8
      obtain ⟨I9, z1, z2, z3⟩ := m_layHand0 (J := J) (t := t) (u := u) (i := i) (f := f) (s := t) (x := x) hC8 w3 (zLnm_sg r3 g8) (nI (zst sh (zPK (zKy (zup I 0 18 0) nt LW) q nr nb om (2 ^ r ||| 2 ^ o) b)))
      have e67 : I8 91 67 = I7 91 67 := by rw [zfr_sl w2 91 rfl]
      rw [e67, r4] at z1
      have f9 : zfr zSnm I6 I9 := zfr_trans r2 (zfr_trans (zfr_mono g8 zSg_nm) (zfr_mono z2 zSm117))
      have x6 := fun p hp => g_D_stepsTo (p := p) (I := I6) (J := J) (t := t) (u := u) (i := i) (f := f) (s := t) (x := x) ht hC6.2.1.2.2.2.1.2.1 hC.2.1.2.2.2.1.2.2.1 hC.2.1.2.2.2.1.2.2.2 hp
      refine ⟨nI (zst sh (zPK (zKy (zup I 0 18 0) nt LW) q nr nb om (2 ^ r ||| 2 ^ o) b)) - nI (zst sh (zPK (zKw (zKy (zup I 0 18 0) nt LW) r (fun b => zkm (zup I 0 18 0) nt LW (zcell m nt c) r b)) q nr nb om (2 ^ r ||| 2 ^ o) b)), zrow m nt c, I6, J, t, I9, J, ?_, ?_, zfr_trans (zfr_mono (zfr_trans f0 f6) zSnx_n) (zfr_mono f9 zSnm_n), Or.inr rfl, zLnx_g y3 f9, z3, ?_⟩
      · show f_W_pretend _ 0 _ _ _ = _
        have x7 := x6 (zPK (zKy (zup I 0 18 0) nt LW) q nr nb om (2 ^ r ||| 2 ^ o) b) (by omega)
        have x8 := x6 (zPK (zKw (zKy (zup I 0 18 0) nt LW) r (fun b => zkm (zup I 0 18 0) nt LW (zcell m nt c) r b)) q nr nb om (2 ^ r ||| 2 ^ o) b) (by omega)
        dsimp only at d1
        simp (disch := (first | omega | assumption)) only [f_W_pretend, zg_11, si_11, gp_11_9, gp_11_2, gp_11_5, gp_11_10, zbs, nI_add, pk_mul, znI_add1, znI_sub1, znI_subm, zle_nI, zlt_nI, zeq_nI, zle_0, zeq_0, zlt_0, zeq_m, zeq_1, zge_0, zbt0, zbt1, zB_0, zB_1, zB_b, zbool_0, zbool_1, ↓reduceIte, x1, a1, p1, hor, b1, c1, d1, e1, hlt, y1, x7, x8, Bool.true_eq_false]
        rfl
      · show f_M_pretend _ 91 _ _ _ = _
        rw [r1, w1, zbs]
        exact z1
      · unfold zrow
        rw [List.length_map, List.length_range]
        omega
    · have hmono : ¬ zst sh (zPK (zKw (zKy (zup I 0 18 0) nt LW) r (fun b => zkm (zup I 0 18 0) nt LW (zcell m nt c) r b)) q nr nb om (2 ^ r ||| 2 ^ o) b) < zst sh (zPK (zKy (zup I 0 18 0) nt LW) q nr nb om (2 ^ r ||| 2 ^ o) b) := by
        rcases Nat.lt_or_eq_of_le (Nat.not_lt.mp hlt) with h | h
        · have := zst_mono (sh := sh) h
          omega
        · rw [h]; omega
      obtain ⟨I7, r1, r2, r3, r4⟩ := ref I5 hC5 (fun r b => by rw [zKy_fr f5]) (fun v => zfK_fr f5 m r v)
      rw [if_neg hmono] at r1
      refine ⟨0, [], I5, J, t, I7, J, ?_, r1, zfr_trans (zfr_mono (zfr_trans f0 (zfr_mono f5 zSg_nx)) zSnx_n) (zfr_mono r2 zSnm_n), Or.inr rfl, zLnx_g v5 r2, r3, by simp⟩
      show f_W_pretend _ 0 _ _ _ = _
      dsimp only at d1 e1 e3
      simp (disch := (first | omega | assumption)) only [f_W_pretend, zg_11, si_11, gp_11_9, gp_11_2, gp_11_5, gp_11_10, zbs, nI_add, pk_mul, znI_add1, znI_sub1, znI_subm, zle_nI, zlt_nI, zeq_nI, zle_0, zeq_0, zlt_0, zeq_m, zeq_1, zge_0, zbt0, zbt1, zB_0, zB_1, zB_b, zbool_0, zbool_1, ↓reduceIte, x1, a1, p1, hor, b1, c1, d1, e1, hlt, Bool.true_eq_false]
end ZPr
