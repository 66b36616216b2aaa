/-! the reference's orders -/
def zah2 (v : Nat → Int32) (a b : Nat) : Bool := decide (v b < v a) || (v a == v b && decide (a < b))
/-- a reader that comes next, as the reference has the last one -/
def zrI (c : Nat) : Int32 := if c = 0 then -1 else nI (c - 1)
theorem zrI_rem : ∀ c, c < 7 → zrem (zrI c + 1) 6 = nI (c % 6) := by decide +kernel
/-- what is left: not out, not laid -/
def zokm (I : Nat → Nat → Int32) (om : Nat) : Nat → Bool := fun b => !om.testBit b && decide (I 115 b < 0)
def zKm (I : Nat → Nat → Int32) : Nat → Nat → Int32 := fun r b => I 113 (10 * r + b)
theorem znx_lt (set : Nat) : ∀ d c, znx set d c < 6 := by
  intro d
  induction d with
  | zero => intro c; unfold znx; omega
  | succ d ih => intro c; unfold znx; split
                 · omega
                 · exact ih _
theorem zbit_ex {set : Nat} (h0 : set ≠ 0) (h : set < 64) (c : Nat) : ∃ j, j < 6 ∧ set.testBit ((c + j) % 6) = true := by
  have hd : ∀ s : Nat, s < 64 → s ≠ 0 → ∃ i, i < 6 ∧ s.testBit i = true := by decide
  obtain ⟨i, hi, hb⟩ := hd set h h0
  refine ⟨(i + 6 - c % 6) % 6, by omega, ?_⟩
  rw [show (c + (i + 6 - c % 6) % 6) % 6 = i by omega]
  exact hb
theorem zbst_no {ok : Nat → Bool} {v : Nat → Int32} {k : Nat} {best : Option Nat} (h : ok k = false) : zbst ok v k best = best := by
  cases best <;> simp [zbst, h]
theorem zbst_in {ok : Nat → Bool} {v : Nat → Int32} {k c : Nat} {best : Option Nat} (h : zbst ok v k best = some c) : c = k ∨ best = some c := by
  cases best with
  | none =>
    simp only [zbst] at h
    split at h
    · exact Or.inl (Option.some.inj h).symm
    · cases h
  | some d =>
    simp only [zbst] at h
    split at h
    · exact Or.inl (Option.some.inj h).symm
    · exact Or.inr h
section ZMo
variable {I : Nat → Nat → Int32} {J : Nat → Nat → Int64} {t u i f s x : Nat} {nt nb nr om q : Nat} {LW : List Int32}
theorem g_M_isOut (ho : I 111 31 = nI om) (hom : om < 1024) {b : Nat} (hb : b < 10) : f_M_isOut (zs I J (zPt t u i f s x)) 91 (nI b) = some (zB (om.testBit b)) := by
  cases h : om.testBit b with
  | false => simp (disch := (first | omega | assumption)) only [f_M_isOut, zg_12, gp_12_49, al_111_31, zbs, nI_add, pk_mul, znI_add1, znI_sub1, znI_subm, zle_nI, zlt_nI, zeq_nI, zle_0, zeq_0, zlt_0, zeq_m, zeq_1, zge_0, zbt0, zbt1, zB_0, zB_1, zB_b, zbool_0, zbool_1, ↓reduceIte, ho, h, Bool.false_eq_true]; rfl
  | true => simp (disch := (first | omega | assumption)) only [f_M_isOut, zg_12, gp_12_49, al_111_31, zbs, nI_add, pk_mul, znI_add1, znI_sub1, znI_subm, zle_nI, zlt_nI, zeq_nI, zle_0, zeq_0, zlt_0, zeq_m, zeq_1, zge_0, zbt0, zbt1, zB_0, zB_1, zB_b, zbool_0, zbool_1, ↓reduceIte, ho, h]; rfl
theorem g_M_isLeft (ho : I 111 31 = nI om) (hom : om < 1024) {b : Nat} (hb : b < 10) : f_M_isLeft (zs I J (zPt t u i f s x)) 91 (nI b) = some (zB (zokm I om b)) := by
  have h1 := g_M_isOut (J := J) (t := t) (u := u) (i := i) (f := f) (s := s) (x := x) ho hom hb
  unfold zokm
  cases h : om.testBit b with
  | true =>
    rw [h] at h1
    simp (disch := (first | omega | assumption)) only [f_M_isLeft, zg_12, gp_12_53, ai_115, zbs, nI_add, pk_mul, znI_add1, znI_sub1, znI_subm, zle_nI, zlt_nI, zeq_nI, zle_0, zeq_0, zlt_0, zeq_m, zeq_1, zge_0, zbt0, zbt1, zB_0, zB_1, zB_b, zbool_0, zbool_1, ↓reduceIte, h1, Bool.true_eq_false]
    rfl
  | false =>
    rw [h] at h1
    by_cases h2 : 0 ≤ I 115 b
    · have h3 : ¬ I 115 b < 0 := Int32.not_lt.mpr h2
      simp (disch := (first | omega | assumption)) only [f_M_isLeft, zg_12, gp_12_53, ai_115, zbs, nI_add, pk_mul, znI_add1, znI_sub1, znI_subm, zle_nI, zlt_nI, zeq_nI, zle_0, zeq_0, zlt_0, zeq_m, zeq_1, zge_0, zbt0, zbt1, zB_0, zB_1, zB_b, zbool_0, zbool_1, ↓reduceIte, h1, h2, h3]
      simp [h3, zB]
    · have h3 : I 115 b < 0 := Int32.not_le.mp h2
      simp (disch := (first | omega | assumption)) only [f_M_isLeft, zg_12, gp_12_53, ai_115, zbs, nI_add, pk_mul, znI_add1, znI_sub1, znI_subm, zle_nI, zlt_nI, zeq_nI, zle_0, zeq_0, zlt_0, zeq_m, zeq_1, zge_0, zbt0, zbt1, zB_0, zB_1, zB_b, zbool_0, zbool_1, ↓reduceIte, h1, h2, h3]
      simp [h3, zB]
theorem g_M_isAhead {r a b : Nat} (hr : r < 6) (ha : a < 10) (hb : b < 10) : f_M_isAhead (zs I J (zPt t u i f s x)) 91 (nI r) (nI a) (nI b) = some (zB (zah2 (zKm I r) a b)) := by
  unfold zah2 zKm
  by_cases h1 : I 113 (10 * r + b) < I 113 (10 * r + a)
  · simp (disch := (first | omega | assumption)) only [f_M_isAhead, zg_12, gp_12_51, ai_113, ml10, zbs, nI_add, pk_mul, znI_add1, znI_sub1, znI_subm, zle_nI, zlt_nI, zeq_nI, zle_0, zeq_0, zlt_0, zeq_m, zeq_1, zge_0, zbt0, zbt1, zB_0, zB_1, zB_b, zbool_0, zbool_1, ↓reduceIte, h1]
    simp [h1, zB]
  · by_cases h2 : I 113 (10 * r + a) = I 113 (10 * r + b)
    · by_cases h3 : b ≤ a
      · have h4 : ¬ a < b := by omega
        simp (disch := (first | omega | assumption)) only [f_M_isAhead, zg_12, gp_12_51, ai_113, ml10, zbs, nI_add, pk_mul, znI_add1, znI_sub1, znI_subm, zle_nI, zlt_nI, zeq_nI, zle_0, zeq_0, zlt_0, zeq_m, zeq_1, zge_0, zbt0, zbt1, zB_0, zB_1, zB_b, zbool_0, zbool_1, ↓reduceIte, h1, h2, h3]
        simp [h2, h4, zB, zbool]
      · have h4 : a < b := by omega
        simp (disch := (first | omega | assumption)) only [f_M_isAhead, zg_12, gp_12_51, ai_113, ml10, zbs, nI_add, pk_mul, znI_add1, znI_sub1, znI_subm, zle_nI, zlt_nI, zeq_nI, zle_0, zeq_0, zlt_0, zeq_m, zeq_1, zge_0, zbt0, zbt1, zB_0, zB_1, zB_b, zbool_0, zbool_1, ↓reduceIte, h1, h2, h3]
        simp [h2, h4, zB, zbool]
    · simp (disch := (first | omega | assumption)) only [f_M_isAhead, zg_12, gp_12_51, ai_113, ml10, zbs, nI_add, pk_mul, znI_add1, znI_sub1, znI_subm, zle_nI, zlt_nI, zeq_nI, zle_0, zeq_0, zlt_0, zeq_m, zeq_1, zge_0, zbt0, zbt1, zB_0, zB_1, zB_b, zbool_0, zbool_1, ↓reduceIte, h1, h2]
      simp [h1, h2, zB]
theorem zoI_lt (b : Nat) (h : b < 10) : (zoI (some b) < 0) = False := zlt_0 (by omega)
theorem zoI_n : (zoI none < 0) = True := by simp [zoI]
theorem g_M_firstOf (hb : I 91 42 = nI nb) (hnb : nb ≤ 10) (ho : I 111 31 = nI om) (hom : om < 1024) {r : Nat} (hr : r < 6) : f_M_firstOf (zs I J (zPt t u i f s x)) 91 (nI r) = some (zoI (zbest (zokm I om) (zKm I r) nb)) := by
  have h := zforF (fun fuel (best : Option Nat) k => f_M_firstOf_4L fuel (zs I J (zPt t u i f s x)) 91 (nI r) (zoI best) (nI k)) nb (zbst (zokm I om) (zKm I r)) (fun k best => ∀ c, best = some c → c < k) (fun best => some (zoI best))
    (fun m k best hk hi => by
      have hle : ¬ nb ≤ k := by omega
      have h1 := g_M_isLeft (J := J) (t := t) (u := u) (i := i) (f := f) (s := s) (x := x) ho hom (show k < 10 by omega)
      show f_M_firstOf_4L (m + 1) _ _ _ _ _ = _
      rw [f_M_firstOf_4L]
      cases hok : zokm I om k with
      | false =>
        rw [hok] at h1
        rw [zbst_no hok]
        simp (disch := (first | omega | assumption)) only [f_M_firstOf_4, gi_12, zbs, nI_add, pk_mul, znI_add1, znI_sub1, znI_subm, zle_nI, zlt_nI, zeq_nI, zle_0, zeq_0, zlt_0, zeq_m, zeq_1, zge_0, zbt0, zbt1, zB_0, zB_1, zB_b, zbool_0, zbool_1, ↓reduceIte, hb, hle, h1]
      | true =>
        rw [hok] at h1
        cases best with
        | none =>
          unfold zbst
          simp (disch := (first | omega | assumption)) only [f_M_firstOf_4, gi_12, zbs, nI_add, pk_mul, znI_add1, znI_sub1, znI_subm, zle_nI, zlt_nI, zeq_nI, zle_0, zeq_0, zlt_0, zeq_m, zeq_1, zge_0, zbt0, zbt1, zB_0, zB_1, zB_b, zbool_0, zbool_1, ↓reduceIte, hok, hb, hle, h1, zoI_n, Bool.true_eq_false, true_and]
          rfl
        | some c =>
          have hc := hi c rfl
          have h2 := g_M_isAhead (I := I) (J := J) (t := t) (u := u) (i := i) (f := f) (s := s) (x := x) hr (show k < 10 by omega) (show c < 10 by omega)
          have h3 : zah2 (zKm I r) k c = decide (zKm I r c < zKm I r k) := by
            unfold zah2
            simp [show ¬ k < c by omega]
          rw [h3] at h2
          have h2 : f_M_isAhead (zs I J (zPt t u i f s x)) 91 (nI r) (nI k) (zoI (some c)) = _ := h2
          by_cases h4 : zKm I r c < zKm I r k
          · simp (disch := (first | omega | assumption)) only [f_M_firstOf_4, gi_12, zbs, nI_add, pk_mul, znI_add1, znI_sub1, znI_subm, zle_nI, zlt_nI, zeq_nI, zle_0, zeq_0, zlt_0, zeq_m, zeq_1, zge_0, zbt0, zbt1, zB_0, zB_1, zB_b, zbool_0, zbool_1, ↓reduceIte, zbst, hok, hb, hle, h1, zoI_lt c (by omega), h2, h4, decide_true, decide_false, Bool.true_eq_false, true_and]
            rfl
          · simp (disch := (first | omega | assumption)) only [f_M_firstOf_4, gi_12, zbs, nI_add, pk_mul, znI_add1, znI_sub1, znI_subm, zle_nI, zlt_nI, zeq_nI, zle_0, zeq_0, zlt_0, zeq_m, zeq_1, zge_0, zbt0, zbt1, zB_0, zB_1, zB_b, zbool_0, zbool_1, ↓reduceIte, zbst, hok, hb, hle, h1, zoI_lt c (by omega), h2, h4, decide_true, decide_false, Bool.true_eq_false, true_and])
    (fun k best hk hi c hc => by
      rcases zbst_in hc with h | h
      · omega
      · have := hi c h; omega)
    (fun m best hi => by
      show f_M_firstOf_4L (m + 1) _ _ _ _ _ = _
      rw [f_M_firstOf_4L]
      simp (disch := (first | omega | assumption)) only [f_M_firstOf_4, gi_12, zbs, nI_add, pk_mul, znI_add1, znI_sub1, znI_subm, zle_nI, zlt_nI, zeq_nI, zle_0, zeq_0, zlt_0, zeq_m, zeq_1, zge_0, zbt0, zbt1, zB_0, zB_1, zB_b, zbool_0, zbool_1, ↓reduceIte, hb, Nat.le_refl]) nb 0 none zfu (by omega) (fun c hc => by cases hc) (zfu_lt (by omega))
  simp (disch := (first | omega | assumption)) only [f_M_firstOf, zg_12, zbs, nI_add, pk_mul, znI_add1, znI_sub1, znI_subm, zle_nI, zlt_nI, zeq_nI, zle_0, zeq_0, zlt_0, zeq_m, zeq_1, zge_0, zbt0, zbt1, zB_0, zB_1, zB_b, zbool_0, zbool_1, ↓reduceIte]
  exact h
theorem g_M_joint (h43 : I 91 43 = nI nr) (hnr : nr ≤ 6) (h44 : I 91 44 = nI q) (hq : q ≤ 3) {set b : Nat} (hset : set < 64) (hb : b < 10) : f_M_joint (zs I J (zPt t u i f s x)) 91 (nI set) (nI b) = some (zjoint (zKm I) q set nr b) := by
  have h := zforF (fun fuel (p : Bool × Int32) k => f_M_joint_8L fuel (zs I J (zPt t u i f s x)) 91 (nI set) (nI b) p.2 (zB p.1) (nI k)) nr (zjt (zKm I) q set b) (fun _ _ => True) (fun p => some p.2)
    (fun m k p hk _ => by
      have hle : ¬ nr ≤ k := by omega
      obtain ⟨p1, p2⟩ := p
      show f_M_joint_8L (m + 1) _ _ _ _ _ _ _ = _
      rw [f_M_joint_8L]
      unfold zjt zcb zKm
      cases hbit : set.testBit k with
      | false => simp (disch := (first | omega | assumption)) only [f_M_joint_8, gi_12, gp_12_51, ai_113, ml10, zbs, nI_add, pk_mul, znI_add1, znI_sub1, znI_subm, zle_nI, zlt_nI, zeq_nI, zle_0, zeq_0, zlt_0, zeq_m, zeq_1, zge_0, zbt0, zbt1, zB_0, zB_1, zB_b, zbool_0, zbool_1, ↓reduceIte, h43, hle, hbit, Bool.false_eq_true]
      | true =>
        cases p1 with
        | false =>
          simp (disch := (first | omega | assumption)) only [f_M_joint_8, gi_12, gp_12_51, ai_113, ml10, zbs, nI_add, pk_mul, znI_add1, znI_sub1, znI_subm, zle_nI, zlt_nI, zeq_nI, zle_0, zeq_0, zlt_0, zeq_m, zeq_1, zge_0, zbt0, zbt1, zB_0, zB_1, zB_b, zbool_0, zbool_1, ↓reduceIte, h43, hle, hbit, Bool.true_eq_false, Bool.false_eq_true]
          rfl
        | true =>
          by_cases hq0 : q = 0
          · simp (disch := (first | omega | assumption)) only [f_M_joint_8, gi_12, gp_12_51, ai_113, ml10, zbs, nI_add, pk_mul, znI_add1, znI_sub1, znI_subm, zle_nI, zlt_nI, zeq_nI, zle_0, zeq_0, zlt_0, zeq_m, zeq_1, zge_0, zbt0, zbt1, zB_0, zB_1, zB_b, zbool_0, zbool_1, ↓reduceIte, h43, h44, hle, hbit, Bool.true_eq_false, hq0]
            rfl
          · by_cases hq1 : q = 1
            · by_cases hv : p2 ≤ I 113 (10 * k + b)
              · have hv' : ¬ I 113 (10 * k + b) < p2 := Int32.not_lt.mpr hv
                simp (disch := (first | omega | assumption)) only [f_M_joint_8, gi_12, gp_12_51, ai_113, ml10, zbs, nI_add, pk_mul, znI_add1, znI_sub1, znI_subm, zle_nI, zlt_nI, zeq_nI, zle_0, zeq_0, zlt_0, zeq_m, zeq_1, zge_0, zbt0, zbt1, zB_0, zB_1, zB_b, zbool_0, zbool_1, ↓reduceIte, h43, h44, hle, hbit, Bool.true_eq_false, hq0, hq1, hv, hv', Nat.one_ne_zero]
                rfl
              · have hv' : I 113 (10 * k + b) < p2 := Int32.not_le.mp hv
                simp (disch := (first | omega | assumption)) only [f_M_joint_8, gi_12, gp_12_51, ai_113, ml10, zbs, nI_add, pk_mul, znI_add1, znI_sub1, znI_subm, zle_nI, zlt_nI, zeq_nI, zle_0, zeq_0, zlt_0, zeq_m, zeq_1, zge_0, zbt0, zbt1, zB_0, zB_1, zB_b, zbool_0, zbool_1, ↓reduceIte, h43, h44, hle, hbit, Bool.true_eq_false, hq0, hq1, hv, hv', Nat.one_ne_zero]
                rfl
            · by_cases hv : I 113 (10 * k + b) ≤ p2
              · have hv' : ¬ p2 < I 113 (10 * k + b) := Int32.not_lt.mpr hv
                simp (disch := (first | omega | assumption)) only [f_M_joint_8, gi_12, gp_12_51, ai_113, ml10, zbs, nI_add, pk_mul, znI_add1, znI_sub1, znI_subm, zle_nI, zlt_nI, zeq_nI, zle_0, zeq_0, zlt_0, zeq_m, zeq_1, zge_0, zbt0, zbt1, zB_0, zB_1, zB_b, zbool_0, zbool_1, ↓reduceIte, h43, h44, hle, hbit, Bool.true_eq_false, hq0, hq1, hv, hv']
                rfl
              · have hv' : p2 < I 113 (10 * k + b) := Int32.not_le.mp hv
                simp (disch := (first | omega | assumption)) only [f_M_joint_8, gi_12, gp_12_51, ai_113, ml10, zbs, nI_add, pk_mul, znI_add1, znI_sub1, znI_subm, zle_nI, zlt_nI, zeq_nI, zle_0, zeq_0, zlt_0, zeq_m, zeq_1, zge_0, zbt0, zbt1, zB_0, zB_1, zB_b, zbool_0, zbool_1, ↓reduceIte, h43, h44, hle, hbit, Bool.true_eq_false, hq0, hq1, hv, hv']
                rfl) (fun _ _ _ _ => trivial)
    (fun m p _ => by
      show f_M_joint_8L (m + 1) _ _ _ _ _ _ _ = _
      rw [f_M_joint_8L]
      simp (disch := (first | omega | assumption)) only [f_M_joint_8, gi_12, gp_12_51, ai_113, ml10, zbs, nI_add, pk_mul, znI_add1, znI_sub1, znI_subm, zle_nI, zlt_nI, zeq_nI, zle_0, zeq_0, zlt_0, zeq_m, zeq_1, zge_0, zbt0, zbt1, zB_0, zB_1, zB_b, zbool_0, zbool_1, ↓reduceIte, h43, Nat.le_refl]) nr 0 (false, 0) zfu (by omega) trivial (zfu_lt (by omega))
  simp (disch := (first | omega | assumption)) only [f_M_joint, zg_12, zbs, nI_add, pk_mul, znI_add1, znI_sub1, znI_subm, zle_nI, zlt_nI, zeq_nI, zle_0, zeq_0, zlt_0, zeq_m, zeq_1, zge_0, zbt0, zbt1, zB_0, zB_1, zB_b, zbool_0, zbool_1, ↓reduceIte]
  exact h
theorem g_M_firstJoint (hb : I 91 42 = nI nb) (hnb : nb ≤ 10) (ho : I 111 31 = nI om) (hom : om < 1024) (h43 : I 91 43 = nI nr) (hnr : nr ≤ 6) (h44 : I 91 44 = nI q) (hq : q ≤ 3) {set : Nat} (hset : set < 64) : f_M_firstJoint (zs I J (zPt t u i f s x)) 91 (nI set) = some (zoI (zbest (zokm I om) (zjoint (zKm I) q set nr) nb)) := by
  have h := zforF (fun fuel (best : Option Nat) k => f_M_firstJoint_4L fuel (zs I J (zPt t u i f s x)) 91 (nI set) (zoI best) (nI k)) nb (zbst (zokm I om) (zjoint (zKm I) q set nr)) (fun k best => ∀ c, best = some c → c < k) (fun best => some (zoI best))
    (fun m k best hk hi => by
      have hle : ¬ nb ≤ k := by omega
      have h1 := g_M_isLeft (J := J) (t := t) (u := u) (i := i) (f := f) (s := s) (x := x) ho hom (show k < 10 by omega)
      show f_M_firstJoint_4L (m + 1) _ _ _ _ _ = _
      rw [f_M_firstJoint_4L]
      cases hok : zokm I om k with
      | false =>
        rw [hok] at h1
        rw [zbst_no hok]
        simp (disch := (first | omega | assumption)) only [f_M_firstJoint_4, gi_12, zbs, nI_add, pk_mul, znI_add1, znI_sub1, znI_subm, zle_nI, zlt_nI, zeq_nI, zle_0, zeq_0, zlt_0, zeq_m, zeq_1, zge_0, zbt0, zbt1, zB_0, zB_1, zB_b, zbool_0, zbool_1, ↓reduceIte, hb, hle, h1]
      | true =>
        rw [hok] at h1
        cases best with
        | none =>
          unfold zbst
          simp (disch := (first | omega | assumption)) only [f_M_firstJoint_4, gi_12, zbs, nI_add, pk_mul, znI_add1, znI_sub1, znI_subm, zle_nI, zlt_nI, zeq_nI, zle_0, zeq_0, zlt_0, zeq_m, zeq_1, zge_0, zbt0, zbt1, zB_0, zB_1, zB_b, zbool_0, zbool_1, ↓reduceIte, hok, hb, hle, h1, zoI_n, Bool.true_eq_false, true_and]
          rfl
        | some c =>
          have hc := hi c rfl
          have h2 := g_M_joint (J := J) (t := t) (u := u) (i := i) (f := f) (s := s) (x := x) h43 hnr h44 hq hset (show k < 10 by omega)
          have h3 := g_M_joint (J := J) (t := t) (u := u) (i := i) (f := f) (s := s) (x := x) h43 hnr h44 hq hset (show c < 10 by omega)
          have h3 : f_M_joint (zs I J (zPt t u i f s x)) 91 (nI set) (zoI (some c)) = _ := h3
          by_cases h4 : zjoint (zKm I) q set nr k ≤ zjoint (zKm I) q set nr c
          · have h5 : ¬ zjoint (zKm I) q set nr c < zjoint (zKm I) q set nr k := Int32.not_lt.mpr h4
            simp (disch := (first | omega | assumption)) only [f_M_firstJoint_4, gi_12, zbs, nI_add, pk_mul, znI_add1, znI_sub1, znI_subm, zle_nI, zlt_nI, zeq_nI, zle_0, zeq_0, zlt_0, zeq_m, zeq_1, zge_0, zbt0, zbt1, zB_0, zB_1, zB_b, zbool_0, zbool_1, ↓reduceIte, zbst, hok, hb, hle, h1, zoI_lt c (by omega), h2, h3, h4, h5, Bool.true_eq_false, true_and]
          · have h5 : zjoint (zKm I) q set nr c < zjoint (zKm I) q set nr k := Int32.not_le.mp h4
            simp (disch := (first | omega | assumption)) only [f_M_firstJoint_4, gi_12, zbs, nI_add, pk_mul, znI_add1, znI_sub1, znI_subm, zle_nI, zlt_nI, zeq_nI, zle_0, zeq_0, zlt_0, zeq_m, zeq_1, zge_0, zbt0, zbt1, zB_0, zB_1, zB_b, zbool_0, zbool_1, ↓reduceIte, zbst, hok, hb, hle, h1, zoI_lt c (by omega), h2, h3, h4, h5, Bool.true_eq_false, true_and]
            rfl)
    (fun k best hk hi c hc => by
      rcases zbst_in hc with h | h
      · omega
      · have := hi c h; omega)
    (fun m best hi => by
      show f_M_firstJoint_4L (m + 1) _ _ _ _ _ = _
      rw [f_M_firstJoint_4L]
      simp (disch := (first | omega | assumption)) only [f_M_firstJoint_4, gi_12, zbs, nI_add, pk_mul, znI_add1, znI_sub1, znI_subm, zle_nI, zlt_nI, zeq_nI, zle_0, zeq_0, zlt_0, zeq_m, zeq_1, zge_0, zbt0, zbt1, zB_0, zB_1, zB_b, zbool_0, zbool_1, ↓reduceIte, hb, Nat.le_refl]) nb 0 none zfu (by omega) (fun c hc => by cases hc) (zfu_lt (by omega))
  simp (disch := (first | omega | assumption)) only [f_M_firstJoint, zg_12, zbs, nI_add, pk_mul, znI_add1, znI_sub1, znI_subm, zle_nI, zlt_nI, zeq_nI, zle_0, zeq_0, zlt_0, zeq_m, zeq_1, zge_0, zbt0, zbt1, zB_0, zB_1, zB_b, zbool_0, zbool_1, ↓reduceIte]
  exact h
theorem g_M_nextL {set : Nat} (hset : set < 64) (σ : zSt) : ∀ (d c fuel : Nat), (∃ j, j < d ∧ set.testBit ((c + j) % 6) = true) → d < fuel → f_M_nextOf_7L fuel σ (nI set) (nI (c % 6)) = some (nI (znx set d c)) := by
  intro d
  induction d with
  | zero => intro c fuel ⟨j, hj, _⟩; omega
  | succ d ih =>
    intro c fuel ⟨j, hj, hb⟩ hf
    obtain ⟨m, rfl⟩ : ∃ m, fuel = m + 1 := ⟨fuel - 1, by omega⟩
    rw [f_M_nextOf_7L]
    unfold znx
    cases hc : set.testBit (c % 6) with
    | true =>
      simp (disch := (first | omega | assumption)) only [f_M_nextOf_7, zbs, nI_add, pk_mul, znI_add1, znI_sub1, znI_subm, zle_nI, zlt_nI, zeq_nI, zle_0, zeq_0, zlt_0, zeq_m, zeq_1, zge_0, zbt0, zbt1, zB_0, zB_1, zB_b, zbool_0, zbool_1, ↓reduceIte, hc, Bool.true_eq_false]
    | false =>
      have hj0 : j ≠ 0 := fun h => by
        subst h
        rw [Nat.add_zero, hc] at hb
        cases hb
      have h := ih (c + 1) m ⟨j - 1, by omega, by rw [show c + 1 + (j - 1) = c + j by omega]; exact hb⟩ (by omega)
      have e : zrem (nI (c % 6 + 1)) 6 = nI ((c + 1) % 6) := by
        have := pk_rem (a := c % 6 + 1) (d := 6) (by omega) (by decide) (by decide)
        rw [show (c % 6 + 1) % 6 = (c + 1) % 6 by omega] at this
        exact this
      simp (disch := (first | omega | assumption)) only [f_M_nextOf_7, zbs, nI_add, pk_mul, znI_add1, znI_sub1, znI_subm, zle_nI, zlt_nI, zeq_nI, zle_0, zeq_0, zlt_0, zeq_m, zeq_1, zge_0, zbt0, zbt1, zB_0, zB_1, zB_b, zbool_0, zbool_1, ↓reduceIte, hc, e, Bool.false_eq_true]
      exact h
theorem g_M_nextOf {set : Nat} (h0 : set ≠ 0) (hset : set < 64) {c : Nat} (hc : c < 7) : f_M_nextOf (zs I J (zPt t u i f s x)) 91 (nI set) (zrI c) = some (nI (znx set 6 c)) := by
  have h := g_M_nextL hset (zs I J (zPt t u i f s x)) 6 c zfu (zbit_ex h0 hset c) (zfu_lt (by decide))
  simp (disch := (first | omega | assumption)) only [f_M_nextOf, zg_12, zbs, nI_add, pk_mul, znI_add1, znI_sub1, znI_subm, zle_nI, zlt_nI, zeq_nI, zle_0, zeq_0, zlt_0, zeq_m, zeq_1, zge_0, zbt0, zbt1, zB_0, zB_1, zB_b, zbool_0, zbool_1, ↓reduceIte, zrI_rem c hc]
  exact h
end ZMo
