/-! rest, turn by turn -/
theorem zB_or (a b : Bool) : (zB a ||| zB b = 0) = (a = false ∧ b = false) := by cases a <;> cases b <;> simp [zB] <;> decide
theorem zoI_inj {a b : Option Nat} (ha : ∀ v, a = some v → v < 1000) (hb : ∀ v, b = some v → v < 1000) : (zoI a = zoI b) = (a = b) := by
  cases a with
  | none =>
    cases b with
    | none => simp
    | some v =>
      have := hb v rfl
      refine propext ⟨fun h => ?_, fun h => by cases h⟩
      exact absurd h.symm (znI_ne_m1 (show v < 2 ^ 31 by omega))
  | some w =>
    have hw := ha w rfl
    cases b with
    | none =>
      refine propext ⟨fun h => ?_, fun h => by cases h⟩
      exact absurd h (znI_ne_m1 (show w < 2 ^ 31 by omega))
    | some v =>
      have hv := hb v rfl
      show (nI w = nI v) = _
      rw [zeq_nI (by omega) (by omega)]
      simp
/-- what he wants then, as it lies there -/
def zwl (I : Nat → Nat → Int32) (nt m r : Nat) (h : Option Nat) : List Int32 := match h with
  | none => (List.range nt).map (fun k => I 111 (4 * r + k))
  | some v => zrow m nt v
theorem zwl_len {I : Nat → Nat → Int32} {nt m r : Nat} {h : Option Nat} : (zwl I nt m r h).length = nt := by
  cases h with
  | none => show ((List.range nt).map _).length = nt; rw [List.length_map, List.length_range]
  | some v => show ((List.range nt).map _).length = nt; rw [List.length_map, List.length_range]
section ZRg
variable {I : Nat → Nat → Int32} {J : Nat → Nat → Int64} {t u i f s x : Nat} {nt nb nr q sh md om im A : Nat} {LW BW : List Int32}
theorem zRw_k {I' : Nat → Nat → Int32} {B : Nat} (hA : A = 52 ∨ A = 56) (hB : B = 52 ∨ B = 56) (ht : t = 2 ∨ t = 13) {m r : Nat} {KR : Nat → Nat → Int32} (h : zRw I A nt nb m r KR) (hf : zfr (zSk B t) I I') : zRw I' A nt nb m r KR := by
  have e : ∀ k, k ≠ 1 → I' A k = I A k := fun k hk => hf A k (by
    rcases hA with rfl | rfl <;> rcases hB with rfl | rfl <;> rcases ht with rfl | rfl <;> simp [zSk, zSw, hk])
  unfold zRw
  rw [e 2 (by decide), e 3 (by decide), e 4 (by decide), zfr_row hf (A + 1) (fun k => by rcases hA with rfl | rfl <;> rcases hB with rfl | rfl <;> rcases ht with rfl | rfl <;> rfl), zfr_row hf (A + 2) (fun k => by rcases hA with rfl | rfl <;> rcases hB with rfl | rfl <;> rcases ht with rfl | rfl <;> rfl)]
  exact h
theorem ztk_b {m set r b : Nat} {K : Nat → Nat → Int32} {h : Option Nat} (hnb : nb ≤ 10) (hb : b < nb) (hob : om.testBit b = false) (hhb : ∀ v, h = some v → v < (2 * m + 1) ^ nt) : ∀ v, ztk I nt nb nr q om m set LW r b K h = some v → v < (2 * m + 1) ^ nt := fun v hv => by
  unfold ztk at hv
  split at hv
  · cases hv
    exact (zcs_spec (sh := 1) hnb hb hob).1
  · exact hhb v hv
theorem x_restL {I0 : Nat → Nat → Int32} (hC : zCo I0 t nt nb nr q sh md om im LW BW) {m r o b1 b2 : Nat} (hm : m ≤ 2) (hr : r < nr) (ho : o < nr) (hro : r ≠ o) (hb1 : b1 < nb) (ho1 : om.testBit b1 = false) (hb2 : b2 < nb) (ho2 : om.testBit b2 = false) :
    ∀ (d n : Nat) (h : Option Nat × Option Nat) (I : Nat → Nat → Int32) (fuel : Nat), n + d = 21 → d < fuel → zfr zSg I0 I → zSh I t nb nr q (zhm nb om) → zRw I 52 nt nb m r (fun v b => zkm I0 nt LW (zcell m nt v) r b) → zRw I 56 nt nb m o (fun v b => zkm I0 nt LW (zcell m nt v) o b) → I 52 1 = zoI h.1 → I 56 1 = zoI h.2 → (∀ v, h.1 = some v → v < (2 * m + 1) ^ nt) → (∀ v, h.2 = some v → v < (2 * m + 1) ^ nt) → (∀ r' b, r' < nr → b < nb → zKx I r' b = zKh I0 nt m LW r o h r' b) →
      ∃ I2, zfr zSg I0 I2 ∧ zRw I2 52 nt nb m r (fun v b => zkm I0 nt LW (zcell m nt v) r b) ∧ zRw I2 56 nt nb m o (fun v b => zkm I0 nt LW (zcell m nt v) o b) ∧ match zrf (zrtn I0 nt nb nr q om m LW r o b1 b2) d n h with
        | none => f_W_rest_99L fuel (zs I J (zPt t u i f t x)) 0 (nI r) (nI o) (nI (2 ^ r ||| 2 ^ o)) (nI b1) (nI b2) (nI n) = some (-1, (zs I2 J (zPt t u i f t x)))
        | some p => f_W_rest_99L fuel (zs I J (zPt t u i f t x)) 0 (nI r) (nI o) (nI (2 ^ r ||| 2 ^ o)) (nI b1) (nI b2) (nI n) = f_W_rest_156 (zs I2 J (zPt t u i f t x)) 0 (nI r) (nI o) (nI p.1) ∧ I2 52 1 = zoI p.2.1 ∧ I2 56 1 = zoI p.2.2 ∧ (∀ v, p.2.1 = some v → v < (2 * m + 1) ^ nt) ∧ (∀ v, p.2.2 = some v → v < (2 * m + 1) ^ nt) := by
  have ht := hC.1
  have hnb := hC.2.1.1.2.1.2
  have hnr := hC.2.1.1.2.2.1.2
  have hset : 2 ^ r ||| 2 ^ o < 2 ^ nr := Nat.or_lt_two_pow (z2r hr) (z2r ho)
  intro d
  induction d with
  | zero =>
    intro n h I fuel hn hf h1 h2 h3 h4 h5 h6 h7 h8 h9
    obtain ⟨m', rfl⟩ : ∃ m', fuel = m' + 1 := ⟨fuel - 1, by omega⟩
    refine ⟨I, h1, h3, h4, ?_⟩
    show f_W_rest_99L (m' + 1) _ _ _ _ _ _ _ _ = _
    rw [f_W_rest_99L]
    have hlt : 20 < n := by omega
    simp (disch := (first | omega | assumption)) only [f_W_rest_99, gp_11_10, gp_11_9, gp_11_5, gp_11_11, gt20, zbs, nI_add, pk_mul, znI_add1, znI_sub1, znI_subm, zle_nI, zlt_nI, zeq_nI, zle_0, zeq_0, zlt_0, zeq_m, zeq_1, zge_0, zbt0, zbt1, zB_0, zB_1, zB_b, zbool_0, zbool_1, ↓reduceIte, hlt]
  | succ d ih =>
    intro n h I fuel hn hf h1 h2 h3 h4 h5 h6 h7 h8 h9
    obtain ⟨m', rfl⟩ : ∃ m', fuel = m' + 1 := ⟨fuel - 1, by omega⟩
    have hlt : ¬ 20 < n := by omega
    obtain ⟨I3, a1, a2, a3, a4, a5⟩ := x_take (A := 52) (J := J) (t := t) (u := u) (i := i) (f := f) (x := x) (Or.inl rfl) hC h1 h2 hm hr h3 h5 h7 h9 (fun b hb => (zKh_at hro h b).1) hset hb1 ho1
    rw [zKh_r hro] at a5
    have g7 := ztk_b (I := I0) (nr := nr) (q := q) (LW := LW) (set := 2 ^ r ||| 2 ^ o) (r := r) (K := zKh I0 nt m LW r o h) hnb hb1 ho1 h7
    rw [ztk_ch hnb hnr hset (fun b hb => (zKh_at hro h b).1)] at a1
    have f3 : zfr zSg I0 I3 := zfr_trans h1 (zfr_g a2 (zSg_k (Or.inl rfl) ht))
    have h36 : I3 56 1 = zoI h.2 := by rw [zfr_row a2 56 (fun k => by rcases ht with rfl | rfl <;> rfl)]; exact h6
    generalize hk1 : ztk I0 nt nb nr q om m (2 ^ r ||| 2 ^ o) LW r b1 (zKh I0 nt m LW r o h) h.1 = k1 at a1 a4 a5 g7
    obtain ⟨I4, c1, c2, c3, c4, c5⟩ := x_take (A := 56) (h := h.2) (J := J) (t := t) (u := u) (i := i) (f := f) (x := x) (Or.inr rfl) hC f3 a3 hm ho (zRw_k (Or.inr rfl) (Or.inl rfl) ht h4 a2) h36 h8 a5 (fun b hb => (zKh_at hro (k1, h.2) b).2) hset hb2 ho2
    rw [zKh_o] at c5
    have g8 := ztk_b (I := I0) (nr := nr) (q := q) (LW := LW) (set := 2 ^ r ||| 2 ^ o) (r := o) (K := zKh I0 nt m LW r o (k1, h.2)) hnb hb2 ho2 h8
    rw [ztk_ch hnb hnr hset (fun b hb => (zKh_at hro (k1, h.2) b).2)] at c1
    generalize hk2 : ztk I0 nt nb nr q om m (2 ^ r ||| 2 ^ o) LW o b2 (zKh I0 nt m LW r o (k1, h.2)) h.2 = k2 at c1 c4 c5 g8
    have hstep : zrtn I0 nt nb nr q om m LW r o b1 b2 h = (k1, k2) := by
      unfold zrtn
      rw [hk1, hk2]
    have f4 : zfr zSg I0 I4 := zfr_trans f3 (zfr_g c2 (zSg_k (Or.inr rfl) ht))
    have w52 := zRw_k (Or.inl rfl) (Or.inr rfl) ht (zRw_k (Or.inl rfl) (Or.inl rfl) ht h3 a2) c2
    have w56 := zRw_k (Or.inr rfl) (Or.inr rfl) ht (zRw_k (Or.inr rfl) (Or.inl rfl) ht h4 a2) c2
    have e52 : I4 52 1 = zoI k1 := by rw [zfr_row c2 52 (fun k => by rcases ht with rfl | rfl <;> rfl)]; exact a4
    by_cases hsame : (k1, k2) = h
    · have e1 : k1 = h.1 := by rw [← hsame]
      have e2 : k2 = h.2 := by rw [← hsame]
      refine ⟨I4, f4, w52, w56, ?_⟩
      unfold zrf
      rw [hstep, if_pos hsame]
      dsimp only
      refine ⟨?_, by rw [← e1]; exact e52, by rw [← e2]; exact c4, h7, h8⟩
      rw [f_W_rest_99L]
      rw [e1] at a1
      rw [e2] at c1
      simp (disch := (first | omega | assumption)) only [f_W_rest_99, gp_11_10, gp_11_9, gp_11_5, gp_11_11, gt20, zbs, nI_add, pk_mul, znI_add1, znI_sub1, znI_subm, zle_nI, zlt_nI, zeq_nI, zle_0, zeq_0, zlt_0, zeq_m, zeq_1, zge_0, zbt0, zbt1, zB_0, zB_1, zB_b, zbool_0, zbool_1, ↓reduceIte, hlt, a1, c1, zB_or, decide_true, Bool.not_true, and_self]
    · obtain ⟨I2, d1, d2, d3, d4⟩ := ih (n + 1) (k1, k2) I4 m' (by omega) (by omega) f4 c3 w52 w56 e52 c4 g7 g8 c5
      refine ⟨I2, d1, d2, d3, ?_⟩
      have hne : ¬ ((!decide (k1 = h.1)) = false ∧ (!decide (k2 = h.2)) = false) := fun ⟨p1, p2⟩ => by
        simp at p1 p2
        exact hsame (by rw [p1, p2])
      have key : f_W_rest_99L (m' + 1) (zs I J (zPt t u i f t x)) 0 (nI r) (nI o) (nI (2 ^ r ||| 2 ^ o)) (nI b1) (nI b2) (nI n) = f_W_rest_99L m' (zs I4 J (zPt t u i f t x)) 0 (nI r) (nI o) (nI (2 ^ r ||| 2 ^ o)) (nI b1) (nI b2) (nI (n + 1)) := by
        rw [f_W_rest_99L]
        simp (disch := (first | omega | assumption)) only [f_W_rest_99, gp_11_10, gp_11_9, gp_11_5, gp_11_11, gt20, zbs, nI_add, pk_mul, znI_add1, znI_sub1, znI_subm, zle_nI, zlt_nI, zeq_nI, zle_0, zeq_0, zlt_0, zeq_m, zeq_1, zge_0, zbt0, zbt1, zB_0, zB_1, zB_b, zbool_0, zbool_1, ↓reduceIte, hlt, a1, c1, zB_or, hne]
      unfold zrf
      rw [hstep, if_neg hsame, key]
      exact d4
theorem m_restL {I0 : Nat → Nat → Int32} (hC : zCo I0 t nt nb nr q sh md om im LW BW) {m r o b1 b2 : Nat} (hm : m ≤ 2) (hr : r < nr) (ho : o < nr) (hro : r ≠ o) (hb1 : b1 < nb) (ho1 : om.testBit b1 = false) (hb2 : b2 < nb) (ho2 : om.testBit b2 = false) :
    ∀ (d n : Nat) (h : Option Nat × Option Nat) (I : Nat → Nat → Int32) (fuel : Nat), n + d = 21 → d < fuel → zfr zSg I0 I → I 91 68 = zoI h.1 → I 91 69 = zoI h.2 → (∀ v, h.1 = some v → v < (2 * m + 1) ^ nt) → (∀ v, h.2 = some v → v < (2 * m + 1) ^ nt) → (∀ r' b, r' < nr → b < nb → zKm I r' b = zKh I0 nt m LW r o h r' b) →
      ∃ I2, zfr zSg I0 I2 ∧ match zrf (zrtn I0 nt nb nr q om m LW r o b1 b2) d n h with
        | none => f_M_rest_49L fuel (zs I J (zPt t u i f s x)) 91 (nI r) (nI o) (nI m) (nI b1) (nI b2) (nI n) = some (-1, (zs I2 J (zPt t u i f s x)))
        | some p => f_M_rest_49L fuel (zs I J (zPt t u i f s x)) 91 (nI r) (nI o) (nI m) (nI b1) (nI b2) (nI n) = f_M_rest_119 (zs I2 J (zPt t u i f s x)) 91 (nI r) (nI o) (nI m) (nI p.1) ∧ I2 91 68 = zoI p.2.1 ∧ I2 91 69 = zoI p.2.2 ∧ (∀ v, p.2.1 = some v → v < (2 * m + 1) ^ nt) ∧ (∀ v, p.2.2 = some v → v < (2 * m + 1) ^ nt) := by
  have hnb := hC.2.1.1.2.1.2
  have hnr := hC.2.1.1.2.2.1.2
  have hR := zR_le (m := m) hm hC.2.1.1.1.2
  have hset : 2 ^ r ||| 2 ^ o < 2 ^ nr := Nat.or_lt_two_pow (z2r hr) (z2r ho)
  have hcomm : 2 ^ o ||| 2 ^ r = 2 ^ r ||| 2 ^ o := Nat.or_comm _ _
  intro d
  induction d with
  | zero =>
    intro n h I fuel hn hf h1 h5 h6 h7 h8 h9
    obtain ⟨m', rfl⟩ : ∃ m', fuel = m' + 1 := ⟨fuel - 1, by omega⟩
    refine ⟨I, h1, ?_⟩
    show f_M_rest_49L (m' + 1) _ _ _ _ _ _ _ _ = _
    rw [f_M_rest_49L]
    have hlt : 20 < n := by omega
    simp (disch := (first | omega | assumption)) only [f_M_rest_49, gi_12, si_12, gt20, zbs, nI_add, pk_mul, znI_add1, znI_sub1, znI_subm, zle_nI, zlt_nI, zeq_nI, zle_0, zeq_0, zlt_0, zeq_m, zeq_1, zge_0, zbt0, zbt1, zB_0, zB_1, zB_b, zbool_0, zbool_1, ↓reduceIte, hlt]
  | succ d ih =>
    intro n h I fuel hn hf h1 h5 h6 h7 h8 h9
    obtain ⟨m', rfl⟩ : ∃ m', fuel = m' + 1 := ⟨fuel - 1, by omega⟩
    have hlt : ¬ 20 < n := by omega
    obtain ⟨I3, a1, a2, a3, a5⟩ := m_take (J := J) (t := t) (u := u) (i := i) (f := f) (s := s) (x := x) hC h1 hm hr ho h7 (fun r' b hr' hb _ => h9 r' b hr' hb) (fun b hb => (zKh_at hro h b).1) hb1 ho1
    rw [zKh_r hro] at a5
    have g7 := ztk_b (I := I0) (nr := nr) (q := q) (LW := LW) (set := 2 ^ r ||| 2 ^ o) (r := r) (K := zKh I0 nt m LW r o h) hnb hb1 ho1 h7
    generalize hk1 : ztk I0 nt nb nr q om m (2 ^ r ||| 2 ^ o) LW r b1 (zKh I0 nt m LW r o h) h.1 = k1 at a1 a5 g7
    have f4 : zfr zSg I0 (zup I3 91 68 (zoI k1)) := zfr_up (zfr_trans h1 a2) rfl
    have kz : ∀ (X : Nat → Nat → Int32) k v, zKm (zup X 91 k v) = zKm X := fun X k v => by
      unfold zKm
      rw [zup_ne _ _ _ (by decide)]
    obtain ⟨I5, c1, c2, c3, c5⟩ := m_take (h := h.2) (o := r) (J := J) (t := t) (u := u) (i := i) (f := f) (s := s) (x := x) hC f4 hm ho hr h8 (fun r' b hr' hb _ => by rw [kz]; exact a5 r' b hr' hb) (fun b hb => (zKh_at hro (k1, h.2) b).2) hb2 ho2
    rw [hcomm] at c1 c5
    rw [zKh_o] at c5
    have g8 := ztk_b (I := I0) (nr := nr) (q := q) (LW := LW) (set := 2 ^ r ||| 2 ^ o) (r := o) (K := zKh I0 nt m LW r o (k1, h.2)) hnb hb2 ho2 h8
    generalize hk2 : ztk I0 nt nb nr q om m (2 ^ r ||| 2 ^ o) LW o b2 (zKh I0 nt m LW r o (k1, h.2)) h.2 = k2 at c1 c5 g8
    have hstep : zrtn I0 nt nb nr q om m LW r o b1 b2 h = (k1, k2) := by
      unfold zrtn
      rw [hk1, hk2]
    have f6 : zfr zSg I0 (zup I5 91 69 (zoI k2)) := zfr_up (zfr_trans f4 c2) rfl
    have e68 : zup I5 91 69 (zoI k2) 91 68 = zoI k1 := by rw [zup_k _ _ (by decide), c3.1, zup_s]
    have e69 : zup I5 91 69 (zoI k2) 91 69 = zoI k2 := zup_s _ _ _ _
    have q1 : (zoI k1 = zoI h.1) = (k1 = h.1) := zoI_inj (fun v hv => by have := g7 v hv; omega) (fun v hv => by have := h7 v hv; omega)
    have q2 : (zoI k2 = zoI h.2) = (k2 = h.2) := zoI_inj (fun v hv => by have := g8 v hv; omega) (fun v hv => by have := h8 v hv; omega)
    have c5' : ∀ r' b, r' < nr → b < nb → zKm (zup I5 91 69 (zoI k2)) r' b = zKh I0 nt m LW r o (k1, k2) r' b := fun r' b hr' hb => by rw [kz]; exact c5 r' b hr' hb
    by_cases hsame : (k1, k2) = h
    · have e1 : k1 = h.1 := by rw [← hsame]
      have e2 : k2 = h.2 := by rw [← hsame]
      refine ⟨zup I5 91 69 (zoI k2), f6, ?_⟩
      unfold zrf
      rw [hstep, if_pos hsame]
      dsimp only
      refine ⟨?_, by rw [← e1]; exact e68, by rw [← e2]; exact e69, h7, h8⟩
      have t1 : (zoI k1 = zoI h.1) = True := by rw [q1]; exact eq_true e1
      have t2 : (zoI k2 = zoI h.2) = True := by rw [q2]; exact eq_true e2
      rw [f_M_rest_49L]
      simp (disch := (first | omega | assumption)) only [f_M_rest_49, gi_12, si_12, gt20, zbs, nI_add, pk_mul, znI_add1, znI_sub1, znI_subm, zle_nI, zlt_nI, zeq_nI, zle_0, zeq_0, zlt_0, zeq_m, zeq_1, zge_0, zbt0, zbt1, zB_0, zB_1, zB_b, zbool_0, zbool_1, ↓reduceIte, hlt, h5, h6, a1, c1, e68, e69, t1, t2]
    · obtain ⟨I2, d1, d4⟩ := ih (n + 1) (k1, k2) (zup I5 91 69 (zoI k2)) m' (by omega) (by omega) f6 e68 e69 g7 g8 c5'
      refine ⟨I2, d1, ?_⟩
      have key : f_M_rest_49L (m' + 1) (zs I J (zPt t u i f s x)) 91 (nI r) (nI o) (nI m) (nI b1) (nI b2) (nI n) = f_M_rest_49L m' (zs (zup I5 91 69 (zoI k2)) J (zPt t u i f s x)) 91 (nI r) (nI o) (nI m) (nI b1) (nI b2) (nI (n + 1)) := by
        rw [f_M_rest_49L]
        by_cases e1 : k1 = h.1
        · have e2 : ¬ k2 = h.2 := fun e2 => hsame (by rw [e1, e2])
          have t1 : (zoI k1 = zoI h.1) = True := by rw [q1]; exact eq_true e1
          have t2 : (zoI k2 = zoI h.2) = False := by rw [q2]; exact eq_false e2
          simp (disch := (first | omega | assumption)) only [f_M_rest_49, gi_12, si_12, gt20, zbs, nI_add, pk_mul, znI_add1, znI_sub1, znI_subm, zle_nI, zlt_nI, zeq_nI, zle_0, zeq_0, zlt_0, zeq_m, zeq_1, zge_0, zbt0, zbt1, zB_0, zB_1, zB_b, zbool_0, zbool_1, ↓reduceIte, hlt, h5, h6, a1, c1, e68, e69, t1, t2]
        · have t1 : (zoI k1 = zoI h.1) = False := by rw [q1]; exact eq_false e1
          simp (disch := (first | omega | assumption)) only [f_M_rest_49, gi_12, si_12, gt20, zbs, nI_add, pk_mul, znI_add1, znI_sub1, znI_subm, zle_nI, zlt_nI, zeq_nI, zle_0, zeq_0, zlt_0, zeq_m, zeq_1, zge_0, zbt0, zbt1, zB_0, zB_1, zB_b, zbool_0, zbool_1, ↓reduceIte, hlt, h5, h6, a1, c1, e68, e69, t1]
      unfold zrf
      rw [hstep, if_neg hsame, key]
      exact d4
end ZRg
