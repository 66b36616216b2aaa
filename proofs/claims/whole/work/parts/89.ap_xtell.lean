/-! the class reads a text: all of it -/
section ZYl
variable {T : Nat → yTk} {s : yPs}
theorem yline_fin (T : Nat → yTk) (s : yPs) : yline T s = (yline1 T s).bd (yfin T) := rfl
theorem yer_bd {α β : Type} (τ : yTk) (k : α → yRs β) : (yer τ : yRs α).bd k = yer τ := rfl
theorem yline1_4 (h : (T s.1).1 = 4) : yline1 T s = if s.2.1.length < 4 then (ynew T s.2.1 (T s.1).2.2.2.2).bd fun a => .ok (a.2, s.2.1 ++ [a.1], s.2.2.1, s.2.2.2.1, s.2.2.2.2.1, s.2.2.2.2.2.1, s.2.2.2.2.2.2.1, s.2.2.2.2.2.2.2.1, s.2.2.2.2.2.2.2.2.1, s.2.2.2.2.2.2.2.2.2.1, s.2.2.2.2.2.2.2.2.2.2.1, s.2.2.2.2.2.2.2.2.2.2.2.1, s.2.2.2.2.2.2.2.2.2.2.2.2.1, s.2.2.2.2.2.2.2.2.2.2.2.2.2.1, s.2.2.2.2.2.2.2.2.2.2.2.2.2.2) else yer (T s.1) := by
  unfold yline1; rw [h]; rfl
theorem yline1_5 (h : (T s.1).1 = 5) : yline1 T s = if s.2.2.1.length < 10 then (ynew T s.2.2.1 (T s.1).2.2.2.2).bd fun a => (ybl T s.2.1 s.2.2.1.length 5 0 s.2.2.2.2.1 a.2).bd fun v => .ok (v.2, s.2.1, s.2.2.1 ++ [a.1], s.2.2.2.1, v.1, s.2.2.2.2.2.1, s.2.2.2.2.2.2.1, s.2.2.2.2.2.2.2.1, s.2.2.2.2.2.2.2.2.1, s.2.2.2.2.2.2.2.2.2.1, s.2.2.2.2.2.2.2.2.2.2.1, s.2.2.2.2.2.2.2.2.2.2.2.1, s.2.2.2.2.2.2.2.2.2.2.2.2.1, s.2.2.2.2.2.2.2.2.2.2.2.2.2.1, s.2.2.2.2.2.2.2.2.2.2.2.2.2.2) else yer (T s.1) := by
  unfold yline1; rw [h]; rfl
theorem yline1_6 (h : (T s.1).1 = 6) : yline1 T s = if s.2.2.2.1.length < 6 then (ynew T s.2.2.2.1 (T s.1).2.2.2.2).bd fun a => (ytake T 12 a.2).bd fun p2 => (ynum T 0 100 p2).bd fun o => (yrl T s.2.1 s.2.2.2.1.length 9 0 0 s.2.2.2.2.2.1 s.2.2.2.2.2.2.1 o.2).bd fun v => .ok (v.2.2, s.2.1, s.2.2.1, s.2.2.2.1 ++ [a.1], s.2.2.2.2.1, v.1, v.2.1, va_up s.2.2.2.2.2.2.2.1 s.2.2.2.1.length (nI o.1), s.2.2.2.2.2.2.2.2.1, s.2.2.2.2.2.2.2.2.2.1, s.2.2.2.2.2.2.2.2.2.2.1, s.2.2.2.2.2.2.2.2.2.2.2.1, s.2.2.2.2.2.2.2.2.2.2.2.2.1, s.2.2.2.2.2.2.2.2.2.2.2.2.2.1, s.2.2.2.2.2.2.2.2.2.2.2.2.2.2) else yer (T s.1) := by
  unfold yline1; rw [h]; rfl
theorem yline1_7 (h : (T s.1).1 = 7) : yline1 T s = if s.2.2.2.2.2.2.2.2.2.2.2.1.testBit 0 = false then ((ylv T 7).1 (T s.1).2.2.2.2 0).bd fun r => .ok (r.2.1, s.2.1, s.2.2.1, s.2.2.2.1, s.2.2.2.2.1, s.2.2.2.2.2.1, s.2.2.2.2.2.2.1, s.2.2.2.2.2.2.2.1, s.2.2.2.2.2.2.2.2.1, s.2.2.2.2.2.2.2.2.2.1, s.2.2.2.2.2.2.2.2.2.2.1, s.2.2.2.2.2.2.2.2.2.2.2.1 ||| 1, some r.1, s.2.2.2.2.2.2.2.2.2.2.2.2.2.1, s.2.2.2.2.2.2.2.2.2.2.2.2.2.2 + r.2.2) else yer (T s.1) := by
  unfold yline1; rw [h]; rfl
theorem yline1_8 (h : (T s.1).1 = 8) : yline1 T s = if s.2.2.2.2.2.2.2.2.2.2.2.1.testBit 1 = false then ((ylv T 7).1 (T s.1).2.2.2.2 0).bd fun r => .ok (r.2.1, s.2.1, s.2.2.1, s.2.2.2.1, s.2.2.2.2.1, s.2.2.2.2.2.1, s.2.2.2.2.2.2.1, s.2.2.2.2.2.2.2.1, s.2.2.2.2.2.2.2.2.1, s.2.2.2.2.2.2.2.2.2.1, s.2.2.2.2.2.2.2.2.2.2.1, s.2.2.2.2.2.2.2.2.2.2.2.1 ||| 2, s.2.2.2.2.2.2.2.2.2.2.2.2.1, some r.1, s.2.2.2.2.2.2.2.2.2.2.2.2.2.2 + r.2.2) else yer (T s.1) := by
  unfold yline1; rw [h]; rfl
theorem yline1_9 (h : (T s.1).1 = 9) : yline1 T s = if s.2.2.2.2.2.2.2.2.2.2.2.1.testBit 2 = false then (if 14 ≤ (T (T s.1).2.2.2.2).1 ∧ (T (T s.1).2.2.2.2).1 ≤ 17 then .ok ((T (T s.1).2.2.2.2).2.2.2.2, s.2.1, s.2.2.1, s.2.2.2.1, s.2.2.2.2.1, s.2.2.2.2.2.1, s.2.2.2.2.2.2.1, s.2.2.2.2.2.2.2.1, (T (T s.1).2.2.2.2).1 - 14, s.2.2.2.2.2.2.2.2.2.1, s.2.2.2.2.2.2.2.2.2.2.1, s.2.2.2.2.2.2.2.2.2.2.2.1 ||| 4, s.2.2.2.2.2.2.2.2.2.2.2.2.1, s.2.2.2.2.2.2.2.2.2.2.2.2.2.1, s.2.2.2.2.2.2.2.2.2.2.2.2.2.2) else yer (T (T s.1).2.2.2.2)) else yer (T s.1) := by
  unfold yline1; rw [h]; rfl
theorem yline1_10 (h : (T s.1).1 = 10) : yline1 T s = if s.2.2.2.2.2.2.2.2.2.2.2.1.testBit 3 = false then (ynum T 1 9 (T s.1).2.2.2.2).bd fun v => .ok (v.2, s.2.1, s.2.2.1, s.2.2.2.1, s.2.2.2.2.1, s.2.2.2.2.2.1, s.2.2.2.2.2.2.1, s.2.2.2.2.2.2.2.1, s.2.2.2.2.2.2.2.2.1, v.1, s.2.2.2.2.2.2.2.2.2.2.1, s.2.2.2.2.2.2.2.2.2.2.2.1 ||| 8, s.2.2.2.2.2.2.2.2.2.2.2.2.1, s.2.2.2.2.2.2.2.2.2.2.2.2.2.1, s.2.2.2.2.2.2.2.2.2.2.2.2.2.2) else yer (T s.1) := by
  unfold yline1; rw [h]; rfl
theorem yline1_11 (h : (T s.1).1 = 11) : yline1 T s = if s.2.2.2.2.2.2.2.2.2.2.2.1.testBit 4 = false then (ynum T 0 9 (T s.1).2.2.2.2).bd fun v => .ok (v.2, s.2.1, s.2.2.1, s.2.2.2.1, s.2.2.2.2.1, s.2.2.2.2.2.1, s.2.2.2.2.2.2.1, s.2.2.2.2.2.2.2.1, s.2.2.2.2.2.2.2.2.1, s.2.2.2.2.2.2.2.2.2.1, v.1, s.2.2.2.2.2.2.2.2.2.2.2.1 ||| 16, s.2.2.2.2.2.2.2.2.2.2.2.2.1, s.2.2.2.2.2.2.2.2.2.2.2.2.2.1, s.2.2.2.2.2.2.2.2.2.2.2.2.2.2) else yer (T s.1) := by
  unfold yline1; rw [h]; rfl
theorem yline1_d (h : (T s.1).1 < 4 ∨ 11 < (T s.1).1) : yline1 T s = yer (T s.1) := by
  unfold yline1
  split <;> first | rfl | (exfalso; omega)
end ZYl
theorem yonc : ∀ o, o < 32 → ∀ j, j < 5 → (decide (nI (128 * o) &&& (1 <<< (nI (7 + j) &&& 31)) = 0) = !o.testBit j) ∧ nI (128 * o) ||| (1 <<< (nI (7 + j) &&& 31)) = nI (128 * (o ||| 2 ^ j)) := by decide +kernel
theorem yall_ok {B : Nat → Nat} {n : Nat} : ∀ (d : Nat) (s s' : yPs), yPi n s → yall (ytok B n) d s = .ok s' → yPi n s' := by
  intro d
  induction d with
  | zero => intro s s' hi h; cases h; exact hi
  | succ d ih =>
    intro s s' hi h
    unfold yall at h
    split at h
    · cases h; exact hi
    · obtain ⟨s1, h1, h2⟩ := ybd_ok h
      exact ih s1 s' (yline_ok hi h1).1 h2
section ZXt
variable {I : Nat → Nat → Int32} {J : Nat → Nat → Int64} {t u i f s x : Nat} {B : Nat → Nat} {n : Nat} {ps : yPs}
theorem x_refL (h : yXq I J B n ps.1) : yLR B n u t s I J (f_T_refuse (zs I J (zPt t u u f s 1)) 24) (yer (ytok B n ps.1)) := by
  obtain ⟨σ', c, pl, e1, e2, e3⟩ := x_ref (α := yPs) (u := u) (t := t) (f := f) (s := s) h
  rw [e2]
  exact ⟨σ', e1, e3⟩
theorem x_isFirst {j : Nat} (hj : j < 5) (hq : yXq I J B n ps.1) (hi : yPi n ps) (hd : yXD I J u ps) (hk : (ytok B n ps.1).1 = 7 + j) : f_T_isFirst (zs I J (zPt t u u f s 1)) 24 = some (if ps.2.2.2.2.2.2.2.2.2.2.2.1.testBit j = false then 1 else 0, zs (zup I 24 9 (nI (128 * (ps.2.2.2.2.2.2.2.2.2.2.2.1 ||| 2 ^ j)))) J (zPt t u u f s 1)) := by
  have h0 := hq.2.1.1
  rw [hk] at h0
  have h9 := hd.1.2.2.2.2.2.2.2.1
  have ho := yonc ps.2.2.2.2.2.2.2.2.2.2.2.1 hi.2.2.2.2.2.2.2.1 j hj
  cases hb : ps.2.2.2.2.2.2.2.2.2.2.2.1.testBit j with
  | false =>
    rw [hb] at ho
    have hz : nI (128 * ps.2.2.2.2.2.2.2.2.2.2.2.1) &&& (1 <<< (nI (7 + j) &&& 31)) = 0 := by simpa using ho.1
    simp (disch := (first | omega | assumption)) only [f_T_isFirst, f_T_isFirst_24, zg_9, gi_7, gi_9, gp_9_2, si_9, zbs, nI_add, pk_mul, znI_add1, znI_sub1, znI_subm, zle_nI, zlt_nI, zeq_nI, zle_0, zeq_0, zlt_0, zeq_m, zeq_1, zge_0, zbt0, zbt1, zB_0, zB_1, zB_b, zbool_0, zbool_1, ↓reduceIte, h0, h9, hz, ho.2]
  | true =>
    rw [hb] at ho
    have hz : ¬ nI (128 * ps.2.2.2.2.2.2.2.2.2.2.2.1) &&& (1 <<< (nI (7 + j) &&& 31)) = 0 := by simpa using ho.1
    simp (disch := (first | omega | assumption)) only [f_T_isFirst, f_T_isFirst_24, zg_9, gi_7, gi_9, gp_9_2, si_9, zbs, nI_add, pk_mul, znI_add1, znI_sub1, znI_subm, zle_nI, zlt_nI, zeq_nI, zle_0, zeq_0, zlt_0, zeq_m, zeq_1, zge_0, zbt0, zbt1, zB_0, zB_1, zB_b, zbool_0, zbool_1, ↓reduceIte, h0, h9, hz, ho.2, Bool.true_eq_false]
theorem yXD_once {o p : Nat} (hu : u = 2 ∨ u = 13) (hd : yXD I J u ps) : yXD (zup I 24 9 (nI (128 * o))) J u (p, ps.2.1, ps.2.2.1, ps.2.2.2.1, ps.2.2.2.2.1, ps.2.2.2.2.2.1, ps.2.2.2.2.2.2.1, ps.2.2.2.2.2.2.2.1, ps.2.2.2.2.2.2.2.2.1, ps.2.2.2.2.2.2.2.2.2.1, ps.2.2.2.2.2.2.2.2.2.2.1, o, ps.2.2.2.2.2.2.2.2.2.2.2.2.1, ps.2.2.2.2.2.2.2.2.2.2.2.2.2.1, ps.2.2.2.2.2.2.2.2.2.2.2.2.2.2) := by
  obtain ⟨⟨k0, k1, k2, k3, k4, k5, k6, k9⟩, ⟨r1, r2, r3, r4⟩, ⟨l1, l2⟩, m1, m2, m3⟩ := hd
  unfold yXD yFm yNa
  rw [zup_ne _ _ _ (show u ≠ 24 by omega), zup_ne _ _ _ (show u + 1 ≠ 24 by omega), zup_ne _ _ _ (show u + 2 ≠ 24 by omega), zup_ne _ _ _ (show u + 3 ≠ 24 by omega), zup_ne _ _ _ (show u + 4 ≠ 24 by omega), zup_ne _ _ _ (show u + 5 ≠ 24 by omega), zup_ne _ _ _ (show u + 5 + 1 ≠ 24 by omega), zup_ne _ _ _ (show u + 8 ≠ 24 by omega), zup_ne _ _ _ (show u + 8 + 1 ≠ 24 by omega), zup_s, zup_k _ _ (show 0 ≠ 9 by decide), zup_k _ _ (show 1 ≠ 9 by decide)]
  exact ⟨⟨k0, k1, k2, k3, k4, k5, k6, rfl, k9.2⟩, ⟨r1, r2, r3, r4⟩, ⟨l1, l2⟩, m1, m2, m3⟩
/-- a line -/
theorem x_line (hu : u = 2 ∨ u = 13) (hn : n ≤ 1600) (hq : yXq I J B n ps.1) (hi : yPi n ps) (hd : yXD I J u ps) (h00 : ¬ (ytok B n ps.1).1 = 0) : ∃ res, (∀ (k42 : zSt → Nat → Int32 → Int32 → Int32 → Option (Int32 × zSt)) (i : Nat), i ≤ n → f_T_tell_42 k42 (zs I J (zPt t u u f s 1)) 24 (nI n) 1 (nI i) = res.bind fun q => k42 q.2 24 (nI n) q.1 (nI (i + 1))) ∧ yLR B n u t s I J res (yline (ytok B n) ps) := by
  have h0 := hq.2.1.1
  have hkb := (ytok_To (B := B) hq.2.2).1
  have n1 : ¬ (1 : Int32) = 0 := by decide
  have cn : ∀ i, i ≤ n → ¬ nI n < nI i := fun i hi => by rw [zlt_nI (by omega) (by omega)]; omega
  rw [yline_fin]
  by_cases h4 : (ytok B n ps.1).1 = 4
  · rw [yline1_4 h4]
    rw [h4] at h0
    have e0 : I u 0 = nI ps.2.1.length := hd.1.1
    by_cases hl : ps.2.1.length < 4
    · rw [if_pos hl]
      have cl : ¬ (4 : Int32) ≤ nI ps.2.1.length := by rw [show (4 : Int32) = nI 4 from rfl, zle_nI (by decide) (by omega)]; omega
      refine ⟨f_T_topicLine (zs I J (zPt t u u f s 1)) 24, fun k42 i hin => ?_, ?_⟩
      · have hc := cn i hin
        rw [f_T_tell_42, znI_add1, if_neg hc, if_neg n1, gp_9_2, zbs, gi_7, zbs, h0, if_neg (show ¬ (nI 4 : Int32) = 0 by decide), zbs, gi_7, zbs, h0, if_pos (show (nI 4 : Int32) = 4 from rfl), gp_9_6, zbs, gi_10 hu, zbs, e0, if_neg cl]
      · have := x_topicLine (t := t) (f := f) (s := s) hu hq hi hd (by omega) hl
        simp only [ybd_bd]
        exact this
    · rw [if_neg hl]
      have cl : (4 : Int32) ≤ nI ps.2.1.length := by
        have := hi.2.1
        rw [show (4 : Int32) = nI 4 from rfl, zle_nI (by decide) (by omega)]; omega
      refine ⟨f_T_refuse (zs I J (zPt t u u f s 1)) 24, fun k42 i hin => ?_, x_refL (t := t) (f := f) (s := s) hq⟩
      have hc := cn i hin
      rw [f_T_tell_42, znI_add1, if_neg hc, if_neg n1, gp_9_2, zbs, gi_7, zbs, h0, if_neg (show ¬ (nI 4 : Int32) = 0 by decide), zbs, gi_7, zbs, h0, if_pos (show (nI 4 : Int32) = 4 from rfl), gp_9_6, zbs, gi_10 hu, zbs, e0, if_pos cl]
  by_cases h5 : (ytok B n ps.1).1 = 5
  · rw [yline1_5 h5]
    rw [h5] at h0
    have e0 : I u 1 = nI ps.2.2.1.length := hd.1.2.1
    by_cases hl : ps.2.2.1.length < 10
    · rw [if_pos hl]
      have cl : ¬ (10 : Int32) ≤ nI ps.2.2.1.length := by rw [show (10 : Int32) = nI 10 from rfl, zle_nI (by decide) (by omega)]; omega
      refine ⟨f_T_bookLine (zs I J (zPt t u u f s 1)) 24, fun k42 i hin => ?_, ?_⟩
      · have hc := cn i hin
        rw [f_T_tell_42, znI_add1, if_neg hc, if_neg n1, gp_9_2, zbs, gi_7, zbs, h0, if_neg (show ¬ (nI 5 : Int32) = 0 by decide), zbs, gi_7, zbs, h0, if_neg (show ¬ (nI 5 : Int32) = 4 by decide), if_pos (show (nI 5 : Int32) = 5 from rfl), gp_9_6, zbs, gi_10 hu, zbs, e0, if_neg cl]
      · have := x_bookLine (t := t) (f := f) (s := s) hu hq hi hd (by omega) hl
        simp only [ybd_bd]
        exact this
    · rw [if_neg hl]
      have cl : (10 : Int32) ≤ nI ps.2.2.1.length := by
        have := hi.2.2.1
        rw [show (10 : Int32) = nI 10 from rfl, zle_nI (by decide) (by omega)]; omega
      refine ⟨f_T_refuse (zs I J (zPt t u u f s 1)) 24, fun k42 i hin => ?_, x_refL (t := t) (f := f) (s := s) hq⟩
      have hc := cn i hin
      rw [f_T_tell_42, znI_add1, if_neg hc, if_neg n1, gp_9_2, zbs, gi_7, zbs, h0, if_neg (show ¬ (nI 5 : Int32) = 0 by decide), zbs, gi_7, zbs, h0, if_neg (show ¬ (nI 5 : Int32) = 4 by decide), if_pos (show (nI 5 : Int32) = 5 from rfl), gp_9_6, zbs, gi_10 hu, zbs, e0, if_pos cl]
  by_cases h6 : (ytok B n ps.1).1 = 6
  · rw [yline1_6 h6]
    rw [h6] at h0
    have e0 : I u 2 = nI ps.2.2.2.1.length := hd.1.2.2.1
    by_cases hl : ps.2.2.2.1.length < 6
    · rw [if_pos hl]
      have cl : ¬ (6 : Int32) ≤ nI ps.2.2.2.1.length := by rw [show (6 : Int32) = nI 6 from rfl, zle_nI (by decide) (by omega)]; omega
      refine ⟨f_T_readerLine (zs I J (zPt t u u f s 1)) 24, fun k42 i hin => ?_, ?_⟩
      · have hc := cn i hin
        rw [f_T_tell_42, znI_add1, if_neg hc, if_neg n1, gp_9_2, zbs, gi_7, zbs, h0, if_neg (show ¬ (nI 6 : Int32) = 0 by decide), zbs, gi_7, zbs, h0, if_neg (show ¬ (nI 6 : Int32) = 4 by decide), if_neg (show ¬ (nI 6 : Int32) = 5 by decide), if_pos (show (nI 6 : Int32) = 6 from rfl), gp_9_6, zbs, gi_10 hu, zbs, e0, if_neg cl]
      · have := x_readerLine (t := t) (f := f) (s := s) hu hq hi hd (by omega) hl
        simp only [ybd_bd]
        exact this
    · rw [if_neg hl]
      have cl : (6 : Int32) ≤ nI ps.2.2.2.1.length := by
        have := hi.2.2.2.1
        rw [show (6 : Int32) = nI 6 from rfl, zle_nI (by decide) (by omega)]; omega
      refine ⟨f_T_refuse (zs I J (zPt t u u f s 1)) 24, fun k42 i hin => ?_, x_refL (t := t) (f := f) (s := s) hq⟩
      have hc := cn i hin
      rw [f_T_tell_42, znI_add1, if_neg hc, if_neg n1, gp_9_2, zbs, gi_7, zbs, h0, if_neg (show ¬ (nI 6 : Int32) = 0 by decide), zbs, gi_7, zbs, h0, if_neg (show ¬ (nI 6 : Int32) = 4 by decide), if_neg (show ¬ (nI 6 : Int32) = 5 by decide), if_pos (show (nI 6 : Int32) = 6 from rfl), gp_9_6, zbs, gi_10 hu, zbs, e0, if_pos cl]
  by_cases h7 : (ytok B n ps.1).1 = 7
  · rw [yline1_7 h7]
    rw [h7] at h0
    have hf := x_isFirst (t := t) (f := f) (s := s) (j := 0) (by decide) hq hi hd h7
    have hq1 : yXq (zup I 24 9 (nI (128 * (ps.2.2.2.2.2.2.2.2.2.2.2.1 ||| 1)))) J B n ((ps.1, ps.2.1, ps.2.2.1, ps.2.2.2.1, ps.2.2.2.2.1, ps.2.2.2.2.2.1, ps.2.2.2.2.2.2.1, ps.2.2.2.2.2.2.2.1, ps.2.2.2.2.2.2.2.2.1, ps.2.2.2.2.2.2.2.2.2.1, ps.2.2.2.2.2.2.2.2.2.2.1, ps.2.2.2.2.2.2.2.2.2.2.2.1 ||| 1, ps.2.2.2.2.2.2.2.2.2.2.2.2.1, ps.2.2.2.2.2.2.2.2.2.2.2.2.2.1, ps.2.2.2.2.2.2.2.2.2.2.2.2.2.2) : yPs).1 := yXq_fr hq (zup_ne _ _ _ (by decide)) (zup_ne _ _ _ (by decide)) rfl
    have hd1 : yXD (zup I 24 9 (nI (128 * (ps.2.2.2.2.2.2.2.2.2.2.2.1 ||| 1)))) J u (ps.1, ps.2.1, ps.2.2.1, ps.2.2.2.1, ps.2.2.2.2.1, ps.2.2.2.2.2.1, ps.2.2.2.2.2.2.1, ps.2.2.2.2.2.2.2.1, ps.2.2.2.2.2.2.2.2.1, ps.2.2.2.2.2.2.2.2.2.1, ps.2.2.2.2.2.2.2.2.2.2.1, ps.2.2.2.2.2.2.2.2.2.2.2.1 ||| 1, ps.2.2.2.2.2.2.2.2.2.2.2.2.1, ps.2.2.2.2.2.2.2.2.2.2.2.2.2.1, ps.2.2.2.2.2.2.2.2.2.2.2.2.2.2) := yXD_once (p := ps.1) hu hd
    have f1 : yfX u I J (zup I 24 9 (nI (128 * (ps.2.2.2.2.2.2.2.2.2.2.2.1 ||| 1)))) J := yfX_24 (yfX_refl u I J)
    by_cases hb : ps.2.2.2.2.2.2.2.2.2.2.2.1.testBit 0 = false
    · rw [if_pos hb] at hf ⊢
      have hf : f_T_isFirst (zs I J (zPt t u u f s 1)) 24 = some (1, zs (zup I 24 9 (nI (128 * (ps.2.2.2.2.2.2.2.2.2.2.2.1 ||| 1)))) J (zPt t u u f s 1)) := hf
      refine ⟨f_T_formulaLine (zs (zup I 24 9 (nI (128 * (ps.2.2.2.2.2.2.2.2.2.2.2.1 ||| 1)))) J (zPt t u u f s 1)) 24 (u + 5), fun k42 i hin => ?_, ?_⟩
      · have hc := cn i hin
        rw [f_T_tell_42, znI_add1, if_neg hc, if_neg n1, gp_9_2, zbs, gi_7, zbs, h0, if_neg (show ¬ (nI 7 : Int32) = 0 by decide), zbs, gi_7, zbs, h0, if_neg (show ¬ (nI 7 : Int32) = 4 by decide), if_neg (show ¬ (nI 7 : Int32) = 5 by decide), if_neg (show ¬ (nI 7 : Int32) = 6 by decide), if_pos (show (nI 7 : Int32) = 7 from rfl), hf, zbs, if_neg n1, gp_9_6, zbs, gp_10_11 hu, zbs]
      · have := x_formulaLine_law (t := t) (f := f) (s := s) hu hq1 hd1 (by simp only; omega)
        refine yLR_fr f1 ?_
        simp only [ybd_bd]
        exact this
    · rw [if_neg hb] at hf ⊢
      have hf : f_T_isFirst (zs I J (zPt t u u f s 1)) 24 = some (0, zs (zup I 24 9 (nI (128 * (ps.2.2.2.2.2.2.2.2.2.2.2.1 ||| 1)))) J (zPt t u u f s 1)) := hf
      refine ⟨f_T_refuse (zs (zup I 24 9 (nI (128 * (ps.2.2.2.2.2.2.2.2.2.2.2.1 ||| 1)))) J (zPt t u u f s 1)) 24, fun k42 i hin => ?_, yLR_fr f1 (x_refL (t := t) (f := f) (s := s) (ps := (ps.1, ps.2.1, ps.2.2.1, ps.2.2.2.1, ps.2.2.2.2.1, ps.2.2.2.2.2.1, ps.2.2.2.2.2.2.1, ps.2.2.2.2.2.2.2.1, ps.2.2.2.2.2.2.2.2.1, ps.2.2.2.2.2.2.2.2.2.1, ps.2.2.2.2.2.2.2.2.2.2.1, ps.2.2.2.2.2.2.2.2.2.2.2.1 ||| 1, ps.2.2.2.2.2.2.2.2.2.2.2.2.1, ps.2.2.2.2.2.2.2.2.2.2.2.2.2.1, ps.2.2.2.2.2.2.2.2.2.2.2.2.2.2)) hq1)⟩
      have hc := cn i hin
      rw [f_T_tell_42, znI_add1, if_neg hc, if_neg n1, gp_9_2, zbs, gi_7, zbs, h0, if_neg (show ¬ (nI 7 : Int32) = 0 by decide), zbs, gi_7, zbs, h0, if_neg (show ¬ (nI 7 : Int32) = 4 by decide), if_neg (show ¬ (nI 7 : Int32) = 5 by decide), if_neg (show ¬ (nI 7 : Int32) = 6 by decide), if_pos (show (nI 7 : Int32) = 7 from rfl), hf, zbs, if_pos rfl]
  by_cases h8 : (ytok B n ps.1).1 = 8
  · rw [yline1_8 h8]
    rw [h8] at h0
    have hf := x_isFirst (t := t) (f := f) (s := s) (j := 1) (by decide) hq hi hd h8
    have hq1 : yXq (zup I 24 9 (nI (128 * (ps.2.2.2.2.2.2.2.2.2.2.2.1 ||| 2)))) J B n ((ps.1, ps.2.1, ps.2.2.1, ps.2.2.2.1, ps.2.2.2.2.1, ps.2.2.2.2.2.1, ps.2.2.2.2.2.2.1, ps.2.2.2.2.2.2.2.1, ps.2.2.2.2.2.2.2.2.1, ps.2.2.2.2.2.2.2.2.2.1, ps.2.2.2.2.2.2.2.2.2.2.1, ps.2.2.2.2.2.2.2.2.2.2.2.1 ||| 2, ps.2.2.2.2.2.2.2.2.2.2.2.2.1, ps.2.2.2.2.2.2.2.2.2.2.2.2.2.1, ps.2.2.2.2.2.2.2.2.2.2.2.2.2.2) : yPs).1 := yXq_fr hq (zup_ne _ _ _ (by decide)) (zup_ne _ _ _ (by decide)) rfl
    have hd1 : yXD (zup I 24 9 (nI (128 * (ps.2.2.2.2.2.2.2.2.2.2.2.1 ||| 2)))) J u (ps.1, ps.2.1, ps.2.2.1, ps.2.2.2.1, ps.2.2.2.2.1, ps.2.2.2.2.2.1, ps.2.2.2.2.2.2.1, ps.2.2.2.2.2.2.2.1, ps.2.2.2.2.2.2.2.2.1, ps.2.2.2.2.2.2.2.2.2.1, ps.2.2.2.2.2.2.2.2.2.2.1, ps.2.2.2.2.2.2.2.2.2.2.2.1 ||| 2, ps.2.2.2.2.2.2.2.2.2.2.2.2.1, ps.2.2.2.2.2.2.2.2.2.2.2.2.2.1, ps.2.2.2.2.2.2.2.2.2.2.2.2.2.2) := yXD_once (p := ps.1) hu hd
    have f1 : yfX u I J (zup I 24 9 (nI (128 * (ps.2.2.2.2.2.2.2.2.2.2.2.1 ||| 2)))) J := yfX_24 (yfX_refl u I J)
    by_cases hb : ps.2.2.2.2.2.2.2.2.2.2.2.1.testBit 1 = false
    · rw [if_pos hb] at hf ⊢
      have hf : f_T_isFirst (zs I J (zPt t u u f s 1)) 24 = some (1, zs (zup I 24 9 (nI (128 * (ps.2.2.2.2.2.2.2.2.2.2.2.1 ||| 2)))) J (zPt t u u f s 1)) := hf
      refine ⟨f_T_formulaLine (zs (zup I 24 9 (nI (128 * (ps.2.2.2.2.2.2.2.2.2.2.2.1 ||| 2)))) J (zPt t u u f s 1)) 24 (u + 8), fun k42 i hin => ?_, ?_⟩
      · have hc := cn i hin
        rw [f_T_tell_42, znI_add1, if_neg hc, if_neg n1, gp_9_2, zbs, gi_7, zbs, h0, if_neg (show ¬ (nI 8 : Int32) = 0 by decide), zbs, gi_7, zbs, h0, if_neg (show ¬ (nI 8 : Int32) = 4 by decide), if_neg (show ¬ (nI 8 : Int32) = 5 by decide), if_neg (show ¬ (nI 8 : Int32) = 6 by decide), if_neg (show ¬ (nI 8 : Int32) = 7 by decide), if_pos (show (nI 8 : Int32) = 8 from rfl), hf, zbs, if_neg n1, gp_9_6, zbs, gp_10_12 hu, zbs]
      · have := x_formulaLine_bend (t := t) (f := f) (s := s) hu hq1 hd1 (by simp only; omega)
        refine yLR_fr f1 ?_
        simp only [ybd_bd]
        exact this
    · rw [if_neg hb] at hf ⊢
      have hf : f_T_isFirst (zs I J (zPt t u u f s 1)) 24 = some (0, zs (zup I 24 9 (nI (128 * (ps.2.2.2.2.2.2.2.2.2.2.2.1 ||| 2)))) J (zPt t u u f s 1)) := hf
      refine ⟨f_T_refuse (zs (zup I 24 9 (nI (128 * (ps.2.2.2.2.2.2.2.2.2.2.2.1 ||| 2)))) J (zPt t u u f s 1)) 24, fun k42 i hin => ?_, yLR_fr f1 (x_refL (t := t) (f := f) (s := s) (ps := (ps.1, ps.2.1, ps.2.2.1, ps.2.2.2.1, ps.2.2.2.2.1, ps.2.2.2.2.2.1, ps.2.2.2.2.2.2.1, ps.2.2.2.2.2.2.2.1, ps.2.2.2.2.2.2.2.2.1, ps.2.2.2.2.2.2.2.2.2.1, ps.2.2.2.2.2.2.2.2.2.2.1, ps.2.2.2.2.2.2.2.2.2.2.2.1 ||| 2, ps.2.2.2.2.2.2.2.2.2.2.2.2.1, ps.2.2.2.2.2.2.2.2.2.2.2.2.2.1, ps.2.2.2.2.2.2.2.2.2.2.2.2.2.2)) hq1)⟩
      have hc := cn i hin
      rw [f_T_tell_42, znI_add1, if_neg hc, if_neg n1, gp_9_2, zbs, gi_7, zbs, h0, if_neg (show ¬ (nI 8 : Int32) = 0 by decide), zbs, gi_7, zbs, h0, if_neg (show ¬ (nI 8 : Int32) = 4 by decide), if_neg (show ¬ (nI 8 : Int32) = 5 by decide), if_neg (show ¬ (nI 8 : Int32) = 6 by decide), if_neg (show ¬ (nI 8 : Int32) = 7 by decide), if_pos (show (nI 8 : Int32) = 8 from rfl), hf, zbs, if_pos rfl]
  by_cases h9 : (ytok B n ps.1).1 = 9
  · rw [yline1_9 h9]
    rw [h9] at h0
    have hf := x_isFirst (t := t) (f := f) (s := s) (j := 2) (by decide) hq hi hd h9
    have hq1 : yXq (zup I 24 9 (nI (128 * (ps.2.2.2.2.2.2.2.2.2.2.2.1 ||| 4)))) J B n ((ps.1, ps.2.1, ps.2.2.1, ps.2.2.2.1, ps.2.2.2.2.1, ps.2.2.2.2.2.1, ps.2.2.2.2.2.2.1, ps.2.2.2.2.2.2.2.1, ps.2.2.2.2.2.2.2.2.1, ps.2.2.2.2.2.2.2.2.2.1, ps.2.2.2.2.2.2.2.2.2.2.1, ps.2.2.2.2.2.2.2.2.2.2.2.1 ||| 4, ps.2.2.2.2.2.2.2.2.2.2.2.2.1, ps.2.2.2.2.2.2.2.2.2.2.2.2.2.1, ps.2.2.2.2.2.2.2.2.2.2.2.2.2.2) : yPs).1 := yXq_fr hq (zup_ne _ _ _ (by decide)) (zup_ne _ _ _ (by decide)) rfl
    have hd1 : yXD (zup I 24 9 (nI (128 * (ps.2.2.2.2.2.2.2.2.2.2.2.1 ||| 4)))) J u (ps.1, ps.2.1, ps.2.2.1, ps.2.2.2.1, ps.2.2.2.2.1, ps.2.2.2.2.2.1, ps.2.2.2.2.2.2.1, ps.2.2.2.2.2.2.2.1, ps.2.2.2.2.2.2.2.2.1, ps.2.2.2.2.2.2.2.2.2.1, ps.2.2.2.2.2.2.2.2.2.2.1, ps.2.2.2.2.2.2.2.2.2.2.2.1 ||| 4, ps.2.2.2.2.2.2.2.2.2.2.2.2.1, ps.2.2.2.2.2.2.2.2.2.2.2.2.2.1, ps.2.2.2.2.2.2.2.2.2.2.2.2.2.2) := yXD_once (p := ps.1) hu hd
    have f1 : yfX u I J (zup I 24 9 (nI (128 * (ps.2.2.2.2.2.2.2.2.2.2.2.1 ||| 4)))) J := yfX_24 (yfX_refl u I J)
    by_cases hb : ps.2.2.2.2.2.2.2.2.2.2.2.1.testBit 2 = false
    · rw [if_pos hb] at hf ⊢
      have hf : f_T_isFirst (zs I J (zPt t u u f s 1)) 24 = some (1, zs (zup I 24 9 (nI (128 * (ps.2.2.2.2.2.2.2.2.2.2.2.1 ||| 4)))) J (zPt t u u f s 1)) := hf
      refine ⟨f_T_quarrelLine (zs (zup I 24 9 (nI (128 * (ps.2.2.2.2.2.2.2.2.2.2.2.1 ||| 4)))) J (zPt t u u f s 1)) 24, fun k42 i hin => ?_, ?_⟩
      · have hc := cn i hin
        rw [f_T_tell_42, znI_add1, if_neg hc, if_neg n1, gp_9_2, zbs, gi_7, zbs, h0, if_neg (show ¬ (nI 9 : Int32) = 0 by decide), zbs, gi_7, zbs, h0, if_neg (show ¬ (nI 9 : Int32) = 4 by decide), if_neg (show ¬ (nI 9 : Int32) = 5 by decide), if_neg (show ¬ (nI 9 : Int32) = 6 by decide), if_neg (show ¬ (nI 9 : Int32) = 7 by decide), if_neg (show ¬ (nI 9 : Int32) = 8 by decide), if_pos (show (nI 9 : Int32) = 9 from rfl), hf, zbs, if_neg n1]
      · have := x_quarrelLine (t := t) (f := f) (s := s) hu hq1 hd1 (by simp only; omega)
        refine yLR_fr f1 ?_
        rw [apply_ite (fun r => yRs.bd r (yfin (ytok B n)))]
        exact this
    · rw [if_neg hb] at hf ⊢
      have hf : f_T_isFirst (zs I J (zPt t u u f s 1)) 24 = some (0, zs (zup I 24 9 (nI (128 * (ps.2.2.2.2.2.2.2.2.2.2.2.1 ||| 4)))) J (zPt t u u f s 1)) := hf
      refine ⟨f_T_refuse (zs (zup I 24 9 (nI (128 * (ps.2.2.2.2.2.2.2.2.2.2.2.1 ||| 4)))) J (zPt t u u f s 1)) 24, fun k42 i hin => ?_, yLR_fr f1 (x_refL (t := t) (f := f) (s := s) (ps := (ps.1, ps.2.1, ps.2.2.1, ps.2.2.2.1, ps.2.2.2.2.1, ps.2.2.2.2.2.1, ps.2.2.2.2.2.2.1, ps.2.2.2.2.2.2.2.1, ps.2.2.2.2.2.2.2.2.1, ps.2.2.2.2.2.2.2.2.2.1, ps.2.2.2.2.2.2.2.2.2.2.1, ps.2.2.2.2.2.2.2.2.2.2.2.1 ||| 4, ps.2.2.2.2.2.2.2.2.2.2.2.2.1, ps.2.2.2.2.2.2.2.2.2.2.2.2.2.1, ps.2.2.2.2.2.2.2.2.2.2.2.2.2.2)) hq1)⟩
      have hc := cn i hin
      rw [f_T_tell_42, znI_add1, if_neg hc, if_neg n1, gp_9_2, zbs, gi_7, zbs, h0, if_neg (show ¬ (nI 9 : Int32) = 0 by decide), zbs, gi_7, zbs, h0, if_neg (show ¬ (nI 9 : Int32) = 4 by decide), if_neg (show ¬ (nI 9 : Int32) = 5 by decide), if_neg (show ¬ (nI 9 : Int32) = 6 by decide), if_neg (show ¬ (nI 9 : Int32) = 7 by decide), if_neg (show ¬ (nI 9 : Int32) = 8 by decide), if_pos (show (nI 9 : Int32) = 9 from rfl), hf, zbs, if_pos rfl]
  by_cases h10 : (ytok B n ps.1).1 = 10
  · rw [yline1_10 h10]
    rw [h10] at h0
    have hf := x_isFirst (t := t) (f := f) (s := s) (j := 3) (by decide) hq hi hd h10
    have hq1 : yXq (zup I 24 9 (nI (128 * (ps.2.2.2.2.2.2.2.2.2.2.2.1 ||| 8)))) J B n ((ps.1, ps.2.1, ps.2.2.1, ps.2.2.2.1, ps.2.2.2.2.1, ps.2.2.2.2.2.1, ps.2.2.2.2.2.2.1, ps.2.2.2.2.2.2.2.1, ps.2.2.2.2.2.2.2.2.1, ps.2.2.2.2.2.2.2.2.2.1, ps.2.2.2.2.2.2.2.2.2.2.1, ps.2.2.2.2.2.2.2.2.2.2.2.1 ||| 8, ps.2.2.2.2.2.2.2.2.2.2.2.2.1, ps.2.2.2.2.2.2.2.2.2.2.2.2.2.1, ps.2.2.2.2.2.2.2.2.2.2.2.2.2.2) : yPs).1 := yXq_fr hq (zup_ne _ _ _ (by decide)) (zup_ne _ _ _ (by decide)) rfl
    have hd1 : yXD (zup I 24 9 (nI (128 * (ps.2.2.2.2.2.2.2.2.2.2.2.1 ||| 8)))) J u (ps.1, ps.2.1, ps.2.2.1, ps.2.2.2.1, ps.2.2.2.2.1, ps.2.2.2.2.2.1, ps.2.2.2.2.2.2.1, ps.2.2.2.2.2.2.2.1, ps.2.2.2.2.2.2.2.2.1, ps.2.2.2.2.2.2.2.2.2.1, ps.2.2.2.2.2.2.2.2.2.2.1, ps.2.2.2.2.2.2.2.2.2.2.2.1 ||| 8, ps.2.2.2.2.2.2.2.2.2.2.2.2.1, ps.2.2.2.2.2.2.2.2.2.2.2.2.2.1, ps.2.2.2.2.2.2.2.2.2.2.2.2.2.2) := yXD_once (p := ps.1) hu hd
    have f1 : yfX u I J (zup I 24 9 (nI (128 * (ps.2.2.2.2.2.2.2.2.2.2.2.1 ||| 8)))) J := yfX_24 (yfX_refl u I J)
    by_cases hb : ps.2.2.2.2.2.2.2.2.2.2.2.1.testBit 3 = false
    · rw [if_pos hb] at hf ⊢
      have hf : f_T_isFirst (zs I J (zPt t u u f s 1)) 24 = some (1, zs (zup I 24 9 (nI (128 * (ps.2.2.2.2.2.2.2.2.2.2.2.1 ||| 8)))) J (zPt t u u f s 1)) := hf
      refine ⟨f_T_shelfLine (zs (zup I 24 9 (nI (128 * (ps.2.2.2.2.2.2.2.2.2.2.2.1 ||| 8)))) J (zPt t u u f s 1)) 24, fun k42 i hin => ?_, ?_⟩
      · have hc := cn i hin
        rw [f_T_tell_42, znI_add1, if_neg hc, if_neg n1, gp_9_2, zbs, gi_7, zbs, h0, if_neg (show ¬ (nI 10 : Int32) = 0 by decide), zbs, gi_7, zbs, h0, if_neg (show ¬ (nI 10 : Int32) = 4 by decide), if_neg (show ¬ (nI 10 : Int32) = 5 by decide), if_neg (show ¬ (nI 10 : Int32) = 6 by decide), if_neg (show ¬ (nI 10 : Int32) = 7 by decide), if_neg (show ¬ (nI 10 : Int32) = 8 by decide), if_neg (show ¬ (nI 10 : Int32) = 9 by decide), if_pos (show (nI 10 : Int32) = 10 from rfl), hf, zbs, if_neg n1]
      · have := x_shelfLine (t := t) (f := f) (s := s) hu hq1 hd1 (by simp only; omega)
        refine yLR_fr f1 ?_
        simp only [ybd_bd]
        exact this
    · rw [if_neg hb] at hf ⊢
      have hf : f_T_isFirst (zs I J (zPt t u u f s 1)) 24 = some (0, zs (zup I 24 9 (nI (128 * (ps.2.2.2.2.2.2.2.2.2.2.2.1 ||| 8)))) J (zPt t u u f s 1)) := hf
      refine ⟨f_T_refuse (zs (zup I 24 9 (nI (128 * (ps.2.2.2.2.2.2.2.2.2.2.2.1 ||| 8)))) J (zPt t u u f s 1)) 24, fun k42 i hin => ?_, yLR_fr f1 (x_refL (t := t) (f := f) (s := s) (ps := (ps.1, ps.2.1, ps.2.2.1, ps.2.2.2.1, ps.2.2.2.2.1, ps.2.2.2.2.2.1, ps.2.2.2.2.2.2.1, ps.2.2.2.2.2.2.2.1, ps.2.2.2.2.2.2.2.2.1, ps.2.2.2.2.2.2.2.2.2.1, ps.2.2.2.2.2.2.2.2.2.2.1, ps.2.2.2.2.2.2.2.2.2.2.2.1 ||| 8, ps.2.2.2.2.2.2.2.2.2.2.2.2.1, ps.2.2.2.2.2.2.2.2.2.2.2.2.2.1, ps.2.2.2.2.2.2.2.2.2.2.2.2.2.2)) hq1)⟩
      have hc := cn i hin
      rw [f_T_tell_42, znI_add1, if_neg hc, if_neg n1, gp_9_2, zbs, gi_7, zbs, h0, if_neg (show ¬ (nI 10 : Int32) = 0 by decide), zbs, gi_7, zbs, h0, if_neg (show ¬ (nI 10 : Int32) = 4 by decide), if_neg (show ¬ (nI 10 : Int32) = 5 by decide), if_neg (show ¬ (nI 10 : Int32) = 6 by decide), if_neg (show ¬ (nI 10 : Int32) = 7 by decide), if_neg (show ¬ (nI 10 : Int32) = 8 by decide), if_neg (show ¬ (nI 10 : Int32) = 9 by decide), if_pos (show (nI 10 : Int32) = 10 from rfl), hf, zbs, if_pos rfl]
  by_cases h11 : (ytok B n ps.1).1 = 11
  · rw [yline1_11 h11]
    rw [h11] at h0
    have hf := x_isFirst (t := t) (f := f) (s := s) (j := 4) (by decide) hq hi hd h11
    have hq1 : yXq (zup I 24 9 (nI (128 * (ps.2.2.2.2.2.2.2.2.2.2.2.1 ||| 16)))) J B n ((ps.1, ps.2.1, ps.2.2.1, ps.2.2.2.1, ps.2.2.2.2.1, ps.2.2.2.2.2.1, ps.2.2.2.2.2.2.1, ps.2.2.2.2.2.2.2.1, ps.2.2.2.2.2.2.2.2.1, ps.2.2.2.2.2.2.2.2.2.1, ps.2.2.2.2.2.2.2.2.2.2.1, ps.2.2.2.2.2.2.2.2.2.2.2.1 ||| 16, ps.2.2.2.2.2.2.2.2.2.2.2.2.1, ps.2.2.2.2.2.2.2.2.2.2.2.2.2.1, ps.2.2.2.2.2.2.2.2.2.2.2.2.2.2) : yPs).1 := yXq_fr hq (zup_ne _ _ _ (by decide)) (zup_ne _ _ _ (by decide)) rfl
    have hd1 : yXD (zup I 24 9 (nI (128 * (ps.2.2.2.2.2.2.2.2.2.2.2.1 ||| 16)))) J u (ps.1, ps.2.1, ps.2.2.1, ps.2.2.2.1, ps.2.2.2.2.1, ps.2.2.2.2.2.1, ps.2.2.2.2.2.2.1, ps.2.2.2.2.2.2.2.1, ps.2.2.2.2.2.2.2.2.1, ps.2.2.2.2.2.2.2.2.2.1, ps.2.2.2.2.2.2.2.2.2.2.1, ps.2.2.2.2.2.2.2.2.2.2.2.1 ||| 16, ps.2.2.2.2.2.2.2.2.2.2.2.2.1, ps.2.2.2.2.2.2.2.2.2.2.2.2.2.1, ps.2.2.2.2.2.2.2.2.2.2.2.2.2.2) := yXD_once (p := ps.1) hu hd
    have f1 : yfX u I J (zup I 24 9 (nI (128 * (ps.2.2.2.2.2.2.2.2.2.2.2.1 ||| 16)))) J := yfX_24 (yfX_refl u I J)
    by_cases hb : ps.2.2.2.2.2.2.2.2.2.2.2.1.testBit 4 = false
    · rw [if_pos hb] at hf ⊢
      have hf : f_T_isFirst (zs I J (zPt t u u f s 1)) 24 = some (1, zs (zup I 24 9 (nI (128 * (ps.2.2.2.2.2.2.2.2.2.2.2.1 ||| 16)))) J (zPt t u u f s 1)) := hf
      refine ⟨f_T_moodLine (zs (zup I 24 9 (nI (128 * (ps.2.2.2.2.2.2.2.2.2.2.2.1 ||| 16)))) J (zPt t u u f s 1)) 24, fun k42 i hin => ?_, ?_⟩
      · have hc := cn i hin
        rw [f_T_tell_42, znI_add1, if_neg hc, if_neg n1, gp_9_2, zbs, gi_7, zbs, h0, if_neg (show ¬ (nI 11 : Int32) = 0 by decide), zbs, gi_7, zbs, h0, if_neg (show ¬ (nI 11 : Int32) = 4 by decide), if_neg (show ¬ (nI 11 : Int32) = 5 by decide), if_neg (show ¬ (nI 11 : Int32) = 6 by decide), if_neg (show ¬ (nI 11 : Int32) = 7 by decide), if_neg (show ¬ (nI 11 : Int32) = 8 by decide), if_neg (show ¬ (nI 11 : Int32) = 9 by decide), if_neg (show ¬ (nI 11 : Int32) = 10 by decide), if_pos (show (nI 11 : Int32) = 11 from rfl), hf, zbs, if_neg n1]
      · have := x_moodLine (t := t) (f := f) (s := s) hu hq1 hd1 (by simp only; omega)
        refine yLR_fr f1 ?_
        simp only [ybd_bd]
        exact this
    · rw [if_neg hb] at hf ⊢
      have hf : f_T_isFirst (zs I J (zPt t u u f s 1)) 24 = some (0, zs (zup I 24 9 (nI (128 * (ps.2.2.2.2.2.2.2.2.2.2.2.1 ||| 16)))) J (zPt t u u f s 1)) := hf
      refine ⟨f_T_refuse (zs (zup I 24 9 (nI (128 * (ps.2.2.2.2.2.2.2.2.2.2.2.1 ||| 16)))) J (zPt t u u f s 1)) 24, fun k42 i hin => ?_, yLR_fr f1 (x_refL (t := t) (f := f) (s := s) (ps := (ps.1, ps.2.1, ps.2.2.1, ps.2.2.2.1, ps.2.2.2.2.1, ps.2.2.2.2.2.1, ps.2.2.2.2.2.2.1, ps.2.2.2.2.2.2.2.1, ps.2.2.2.2.2.2.2.2.1, ps.2.2.2.2.2.2.2.2.2.1, ps.2.2.2.2.2.2.2.2.2.2.1, ps.2.2.2.2.2.2.2.2.2.2.2.1 ||| 16, ps.2.2.2.2.2.2.2.2.2.2.2.2.1, ps.2.2.2.2.2.2.2.2.2.2.2.2.2.1, ps.2.2.2.2.2.2.2.2.2.2.2.2.2.2)) hq1)⟩
      have hc := cn i hin
      rw [f_T_tell_42, znI_add1, if_neg hc, if_neg n1, gp_9_2, zbs, gi_7, zbs, h0, if_neg (show ¬ (nI 11 : Int32) = 0 by decide), zbs, gi_7, zbs, h0, if_neg (show ¬ (nI 11 : Int32) = 4 by decide), if_neg (show ¬ (nI 11 : Int32) = 5 by decide), if_neg (show ¬ (nI 11 : Int32) = 6 by decide), if_neg (show ¬ (nI 11 : Int32) = 7 by decide), if_neg (show ¬ (nI 11 : Int32) = 8 by decide), if_neg (show ¬ (nI 11 : Int32) = 9 by decide), if_neg (show ¬ (nI 11 : Int32) = 10 by decide), if_pos (show (nI 11 : Int32) = 11 from rfl), hf, zbs, if_pos rfl]
  rw [yline1_d (by omega)]
  have en : ∀ c, c ≤ 11 → c = 0 ∨ 4 ≤ c → ¬ nI (ytok B n ps.1).1 = nI c := fun c h1 h2 => by rw [zeq_nI (by omega) (by omega)]; omega
  refine ⟨f_T_refuse (zs I J (zPt t u u f s 1)) 24, fun k42 i hin => ?_, x_refL (t := t) (f := f) (s := s) hq⟩
  have hc := cn i hin
  have w0 : ¬ nI (ytok B n ps.1).1 = 0 := en 0 (by decide) (by decide)
  have w4 : ¬ nI (ytok B n ps.1).1 = 4 := en 4 (by decide) (by decide)
  have w5 : ¬ nI (ytok B n ps.1).1 = 5 := en 5 (by decide) (by decide)
  have w6 : ¬ nI (ytok B n ps.1).1 = 6 := en 6 (by decide) (by decide)
  have w7 : ¬ nI (ytok B n ps.1).1 = 7 := en 7 (by decide) (by decide)
  have w8 : ¬ nI (ytok B n ps.1).1 = 8 := en 8 (by decide) (by decide)
  have w9 : ¬ nI (ytok B n ps.1).1 = 9 := en 9 (by decide) (by decide)
  have w10 : ¬ nI (ytok B n ps.1).1 = 10 := en 10 (by decide) (by decide)
  have w11 : ¬ nI (ytok B n ps.1).1 = 11 := en 11 (by decide) (by decide)
  rw [f_T_tell_42, znI_add1, if_neg hc, if_neg n1, gp_9_2, zbs, gi_7, zbs, h0, if_neg w0, zbs, gi_7, zbs, h0, if_neg w4, if_neg w5, if_neg w6, if_neg w7, if_neg w8, if_neg w9, if_neg w10, if_neg w11]
theorem x_tellLoop (hu : u = 2 ∨ u = 13) (hn : n ≤ 1600) : ∀ (d i fuel : Nat), i + d = n + 1 → d < fuel → ∀ (I : Nat → Nat → Int32) (J : Nat → Nat → Int64) (f : Nat) (ps : yPs), yXq I J B n ps.1 → yPi n ps → yXD I J u ps → yLR B n u t s I J (f_T_tell_42L fuel (zs I J (zPt t u u f s 1)) 24 (nI n) 1 (nI i)) (yall (ytok B n) d ps) := by
  intro d
  induction d with
  | zero =>
    intro i fuel hi hf I J f ps hq hp hd
    obtain ⟨m, rfl⟩ : ∃ m, fuel = m + 1 := ⟨fuel - 1, by omega⟩
    have c : nI n < nI i := by rw [zlt_nI (by omega) (by omega)]; omega
    rw [f_T_tell_42L, f_T_tell_42, if_pos c]
    exact ⟨I, J, f, rfl, yfX_refl u I J, hq, hd⟩
  | succ d ih =>
    intro i fuel hi hf I J f ps hq hp hd
    obtain ⟨m, rfl⟩ : ∃ m, fuel = m + 1 := ⟨fuel - 1, by omega⟩
    have c : ¬ nI n < nI i := by rw [zlt_nI (by omega) (by omega)]; omega
    have n1 : ¬ (1 : Int32) = 0 := by decide
    rw [f_T_tell_42L]
    unfold yall
    by_cases h00 : (ytok B n ps.1).1 = 0
    · rw [if_pos h00]
      have h0 := hq.2.1.1
      rw [h00] at h0
      refine ⟨I, J, f, ?_, yfX_refl u I J, hq, hd⟩
      rw [f_T_tell_42, if_neg c, if_neg n1, gp_9_2, zbs, gi_7, zbs, h0, if_pos (show (nI 0 : Int32) = 0 from rfl)]
    · rw [if_neg h00]
      obtain ⟨res, e1, e2⟩ := x_line (t := t) (f := f) (s := s) hu hn hq hp hd h00
      rw [e1 _ i (by omega)]
      cases hy : yline (ytok B n) ps with
      | error cp_ =>
        obtain ⟨c, pl⟩ := cp_
        rw [hy] at e2
        obtain ⟨σ', g1, g2⟩ := e2
        refine ⟨σ', ?_, g2⟩
        obtain ⟨m2, rfl⟩ : ∃ m2, m = m2 + 1 := ⟨m - 1, by omega⟩
        rw [g1, zbs, f_T_tell_42L, f_T_tell_42]
        by_cases c2 : nI n < nI (i + 1)
        · rw [if_pos c2]
        · rw [if_neg c2, if_pos rfl]
      | ok s' =>
        rw [hy] at e2
        obtain ⟨I', J', f', g1, g2, g3, g4⟩ := e2
        rw [g1, zbs]
        exact yLR_fr g2 (ih (i + 1) m (by omega) (by omega) I' J' f' s' g3 (yline_ok hp hy).1 g4)
/-- a formula of one word -/
theorem x_word {F : Nat} {w : Int32} (hF : F = 7 ∨ F = 10 ∨ F = 18 ∨ F = 21) : ∃ I', ((f_F_clear (zs I J (zPt t u i f s x)) F).bind fun σ => f_F_addWord σ F w) = some (zs I' J (zPt t u i f s x)) ∧ (∀ a, a ≠ F → a ≠ F + 1 → I' a = I a) ∧ yFm I' F [(-1) - w] := by
  have h0 : yFm (zup I F 2 0) F [] := ⟨by rw [zup_s]; rfl, fun k hk => absurd hk (Nat.not_lt_zero _)⟩
  have g := g_F_add (J := J) (t := t) (u := u) (i := i) (f := f) (s := s) (x := x) hF h0 (by decide) ((-1) - w)
  refine ⟨_, ?_, fun a h1 h2 => ?_, yfm_app (v := (-1) - w) h0⟩
  · simp (disch := (first | omega | assumption)) only [f_F_clear, f_F_addWord, zg_2, si_2, zbs, nI_add, pk_mul, znI_add1, znI_sub1, znI_subm, zle_nI, zlt_nI, zeq_nI, zle_0, zeq_0, zlt_0, zeq_m, zeq_1, zge_0, zbt0, zbt1, zB_0, zB_1, zB_b, zbool_0, zbool_1, ↓reduceIte, hF, g]
  · rw [zup_ne _ _ _ h1, zup_ne _ _ _ h2, zup_ne _ _ _ h1]
/-- nothing is told -/
theorem x_forget (hu : u = 2 ∨ u = 13) {a : Nat} : ∃ I', f_D_forget (zs I J (zPt t a i f s x)) u = some (zs I' J (zPt t a i f s x)) ∧ (∀ b, b < u ∨ u + 10 < b → I' b = I b) ∧ (I' u 0 = 0 ∧ I' u 1 = 0 ∧ I' u 2 = 0 ∧ I' u 3 = 0 ∧ I' u 4 = 5 ∧ I' u 5 = 3 ∧ I' u 6 = 0) ∧ ((∀ k, k < 40 → I' (u + 1) k = 0) ∧ (∀ k, k < 24 → I' (u + 2) k = 0) ∧ (∀ k, k < 24 → I' (u + 3) k = 0) ∧ (∀ k, k < 6 → I' (u + 4) k = 0)) ∧ yFm I' (u + 5) [-1] ∧ yFm I' (u + 8) [-3] := by
  have z1 : zLAY[u + 1]? = some (1, 40) := by rcases hu with rfl | rfl; exact zl_3; exact zl_14
  have z2 : zLAY[u + 2]? = some (1, 24) := by rcases hu with rfl | rfl; exact zl_4; exact zl_15
  have z3 : zLAY[u + 3]? = some (1, 24) := by rcases hu with rfl | rfl; exact zl_5; exact zl_16
  have z4 : zLAY[u + 4]? = some (1, 6) := by rcases hu with rfl | rfl; exact zl_6; exact zl_17
  obtain ⟨I1, a1, a2, a3⟩ := g_J_fill (I := zup (zup (zup (zup (zup (zup (zup I u 0 0) u 1 0) u 2 0) u 3 0) u 4 5) u 5 3) u 6 0) (J := J) (P := zPt t a i f s x) z1 (by decide) 0
  obtain ⟨I2, b1, b2, b3⟩ := g_J_fill (I := I1) (J := J) (P := zPt t a i f s x) z2 (by decide) 0
  obtain ⟨I3, c1, c2, c3⟩ := g_J_fill (I := I2) (J := J) (P := zPt t a i f s x) z3 (by decide) 0
  obtain ⟨I4, d1, d2, d3⟩ := g_J_fill (I := I3) (J := J) (P := zPt t a i f s x) z4 (by decide) 0
  obtain ⟨I5, e1, e2, e3⟩ := x_word (I := I4) (J := J) (t := t) (u := a) (i := i) (f := f) (s := s) (x := x) (F := u + 5) (w := 0) (by omega)
  obtain ⟨I6, g1, g2, g3⟩ := x_word (I := I5) (J := J) (t := t) (u := a) (i := i) (f := f) (s := s) (x := x) (F := u + 8) (w := 2) (by omega)
  have q1 : ∀ b, b ≠ u + 1 → I1 b = zup (zup (zup (zup (zup (zup (zup I u 0 0) u 1 0) u 2 0) u 3 0) u 4 5) u 5 3) u 6 0 b := fun b hb => zfr_sl a2 b (by simp [hb])
  have q2 : ∀ b, b ≠ u + 2 → I2 b = I1 b := fun b hb => zfr_sl b2 b (by simp [hb])
  have q3 : ∀ b, b ≠ u + 3 → I3 b = I2 b := fun b hb => zfr_sl c2 b (by simp [hb])
  have q4 : ∀ b, b ≠ u + 4 → I4 b = I3 b := fun b hb => zfr_sl d2 b (by simp [hb])
  have q6 : ∀ b, b ≠ u + 5 → b ≠ u + 6 → b ≠ u + 8 → b ≠ u + 9 → I6 b = I4 b := fun b h1 h2 h3 h4 => (g2 b h3 h4).trans (e2 b h1 h2)
  have r0 : I6 u = zup (zup (zup (zup (zup (zup (zup I u 0 0) u 1 0) u 2 0) u 3 0) u 4 5) u 5 3) u 6 0 u := by rw [q6 u (by omega) (by omega) (by omega) (by omega), q4 u (by omega), q3 u (by omega), q2 u (by omega), q1 u (by omega)]
  refine ⟨I6, ?_, fun b hb => ?_, ?_, ⟨fun k hk => ?_, fun k hk => ?_, fun k hk => ?_, fun k hk => ?_⟩, ?_, ?_⟩
  · have e1' : ∀ (k : zSt → Option zSt), ((f_F_clear (zs I4 J (zPt t a i f s x)) (u + 5)).bind fun σ17 => (f_F_addWord σ17 (u + 5) 0).bind k) = k (zs I5 J (zPt t a i f s x)) := fun k => by
      have : ((f_F_clear (zs I4 J (zPt t a i f s x)) (u + 5)).bind fun σ17 => (f_F_addWord σ17 (u + 5) 0).bind k) = ((f_F_clear (zs I4 J (zPt t a i f s x)) (u + 5)).bind fun σ17 => f_F_addWord σ17 (u + 5) 0).bind k := by
        cases f_F_clear (zs I4 J (zPt t a i f s x)) (u + 5) <;> rfl
      rw [this, e1]
      rfl
    have g1' : ∀ (k : zSt → Option zSt), ((f_F_clear (zs I5 J (zPt t a i f s x)) (u + 8)).bind fun σ17 => (f_F_addWord σ17 (u + 8) 2).bind k) = k (zs I6 J (zPt t a i f s x)) := fun k => by
      have : ((f_F_clear (zs I5 J (zPt t a i f s x)) (u + 8)).bind fun σ17 => (f_F_addWord σ17 (u + 8) 2).bind k) = ((f_F_clear (zs I5 J (zPt t a i f s x)) (u + 8)).bind fun σ17 => f_F_addWord σ17 (u + 8) 2).bind k := by
        cases f_F_clear (zs I5 J (zPt t a i f s x)) (u + 8) <;> rfl
      rw [this, g1]
      rfl
    have f1 : ∀ (w : Int32) (I : Nat → Nat → Int32), f_F_clear (zs I J (zPt t a i f s x)) (u + 5) = some (zs (zup I (u + 5) 2 0) J (zPt t a i f s x)) := fun w I => by
      have hF : u + 5 = 7 ∨ u + 5 = 10 ∨ u + 5 = 18 ∨ u + 5 = 21 := by omega
      simp (disch := (first | omega | assumption)) only [f_F_clear, zg_2, si_2, zbs, nI_add, pk_mul, znI_add1, znI_sub1, znI_subm, zle_nI, zlt_nI, zeq_nI, zle_0, zeq_0, zlt_0, zeq_m, zeq_1, zge_0, zbt0, zbt1, zB_0, zB_1, zB_b, zbool_0, zbool_1, ↓reduceIte, hF]
    have f2 : ∀ (w : Int32) (I : Nat → Nat → Int32), f_F_clear (zs I J (zPt t a i f s x)) (u + 8) = some (zs (zup I (u + 8) 2 0) J (zPt t a i f s x)) := fun w I => by
      have hF : u + 8 = 7 ∨ u + 8 = 10 ∨ u + 8 = 18 ∨ u + 8 = 21 := by omega
      simp (disch := (first | omega | assumption)) only [f_F_clear, zg_2, si_2, zbs, nI_add, pk_mul, znI_add1, znI_sub1, znI_subm, zle_nI, zlt_nI, zeq_nI, zle_0, zeq_0, zlt_0, zeq_m, zeq_1, zge_0, zbt0, zbt1, zB_0, zB_1, zB_b, zbool_0, zbool_1, ↓reduceIte, hF]
    rw [f1 0, zbs] at e1
    rw [f2 0, zbs] at g1
    simp (disch := (first | omega | assumption)) only [f_D_forget, zg_10, si_10, gp_10_7, gp_10_8, gp_10_9, gp_10_10, gp_10_11, gp_10_12, zbs, nI_add, pk_mul, znI_add1, znI_sub1, znI_subm, zle_nI, zlt_nI, zeq_nI, zle_0, zeq_0, zlt_0, zeq_m, zeq_1, zge_0, zbt0, zbt1, zB_0, zB_1, zB_b, zbool_0, zbool_1, ↓reduceIte, hu, a1, b1, c1, d1, f1 0, f2 0, e1, g1]
  · rw [q6 b (by omega) (by omega) (by omega) (by omega), q4 b (by omega), q3 b (by omega), q2 b (by omega), q1 b (by omega)]
    iterate 7 rw [zup_ne _ _ _ (show b ≠ u by omega)]
  · rw [r0]
    simp [zup_at]
  · rw [q6 _ (by omega) (by omega) (by omega) (by omega), q4 _ (by omega), q3 _ (by omega), q2 _ (by omega)]; exact a3 k hk
  · rw [q6 _ (by omega) (by omega) (by omega) (by omega), q4 _ (by omega), q3 _ (by omega)]; exact b3 k hk
  · rw [q6 _ (by omega) (by omega) (by omega) (by omega), q4 _ (by omega)]; exact c3 k hk
  · rw [q6 _ (by omega) (by omega) (by omega) (by omega)]; exact d3 k hk
  · unfold yFm
    rw [g2 (u + 5) (by omega) (by omega), g2 (u + 5 + 1) (by omega) (by omega)]
    exact e3
  · exact g3
/-- the class's teller: what it makes of a text -/
theorem x_tell (hu : u = 2 ∨ u = 13) (hT : yTp I B n) : match ytext B n with
    | .error (c, pl) => ∃ I' J' f', f_T_tell (zs I J (zPt t u i f s x)) 24 1 (nI n) u = some (0, zs I' J' (zPt t u u f' s 1)) ∧ yfX u I J I' J' ∧ I' 24 0 = nI c ∧ I' 24 1 = nI pl
    | .ok ps => ∃ I' J' f', f_T_tell (zs I J (zPt t u i f s x)) 24 1 (nI n) u = some (1, zs I' J' (zPt t u u f' s 1)) ∧ yfX u I J I' J' ∧ yPi n ps ∧ yXD I' J' u ps := by
  have hn := hT.1
  obtain ⟨I1, a1, a2, a3, a4, a5, a6⟩ := x_forget (I := I) (J := J) (t := t) (i := u) (f := f) (s := s) (x := x) (a := u) hu
  have hT1 : yTp (zup (zup (zup (zup (zup I1 24 9 0) 24 0 0) 24 1 (-1)) 25 5 (nI n)) 25 6 0) B n := ⟨hT.1, hT.2.1, fun k hk => by
    rw [zup_ne _ _ _ (by decide), zup_ne _ _ _ (by decide), zup_ne _ _ _ (by decide), zup_ne _ _ _ (by decide), zup_ne _ _ _ (by decide), a2 1 (by omega)]
    exact hT.2.2 k hk⟩
  obtain ⟨I2, J2, b1, b2, b3⟩ := x_advance (I := zup (zup (zup (zup (zup I1 24 9 0) 24 0 0) 24 1 (-1)) 25 5 (nI n)) 25 6 0) (J := J) (t := t) (u := u) (i := u) (f := f) (s := s) (p := 0) hT1 ⟨by rw [zup_k _ _ (by decide), zup_s], by rw [zup_s]; rfl⟩ (Nat.zero_le _)
  have f2 : yfX u I J I2 J2 := by
    refine yfX_trans (I' := I1) (J' := J) ⟨fun a _ _ h => a2 a h, fun _ _ _ _ _ => rfl⟩ (yfX_trans (yfX_24 (yfX_24 (yfX_24 (yfX_refl u I1 J)))) (yfX_fs (yfs_trans (yfs_I (yfs_I (yfs_refl _ _))) b2)))
  have hq : yXq I2 J2 B n yps0.1 := ⟨yTp_fs hT1 b2, b3, Nat.zero_le _⟩
  have hd : yXD I2 J2 u yps0 := by
    have hz : ∀ a, a ≠ 24 → a ≠ 25 → I2 a = I1 a := fun a h1 h2 => (b2.1 a h2).trans ((zup_ne _ _ _ h2).trans ((zup_ne _ _ _ h2).trans ((zup_ne _ _ _ h1).trans ((zup_ne _ _ _ h1).trans (zup_ne _ _ _ h1)))))
    have h24 : I2 24 = zup (zup (zup I1 24 9 0) 24 0 0) 24 1 (-1) 24 := by rw [b2.1 24 (by decide), zup_ne _ _ _ (by decide), zup_ne _ _ _ (by decide)]
    unfold yXD
    rw [h24, hz u (by omega) (by omega), hz (u + 1) (by omega) (by omega), hz (u + 2) (by omega) (by omega), hz (u + 3) (by omega) (by omega), hz (u + 4) (by omega) (by omega)]
    refine ⟨⟨a3.1, a3.2.1, a3.2.2.1, a3.2.2.2.1, a3.2.2.2.2.1, a3.2.2.2.2.2.1, a3.2.2.2.2.2.2, ?_, ?_, ?_⟩, a4, ⟨?_, ?_⟩, ?_, ?_, ?_⟩
    · rw [zup_k _ _ (by decide), zup_k _ _ (by decide), zup_s]; rfl
    · rw [zup_k _ _ (by decide), zup_s]
    · rw [zup_s]
    · unfold yFm
      rw [hz (u + 5) (by omega) (by omega), hz (u + 5 + 1) (by omega) (by omega)]
      exact a5
    · unfold yFm
      rw [hz (u + 8) (by omega) (by omega), hz (u + 8 + 1) (by omega) (by omega)]
      exact a6
    · intro k w h; cases h
    · intro k w h; cases h
    · intro k w h; cases h
  have L := x_tellLoop (t := t) (s := s) (B := B) hu hn (n + 1) 0 zfu (by omega) (zfu_lt (by omega)) I2 J2 f yps0 hq yps0_ok hd
  have hlen : zlen (zs (zup (zup (zup I1 24 9 0) 24 0 0) 24 1 (-1)) J (zPt t u u f s 1)) 2 1 = some 1600 := zs_len zl_1
  have hmin : zmin (nI n) 1600 = nI n := by
    unfold zmin
    have : ¬ (1600 : Int32) < nI n := by rw [show (1600 : Int32) = nI 1600 from rfl, zlt_nI (by decide) (by omega)]; omega
    rw [if_neg this]
  have hres : f_T_tell (zs I J (zPt t u i f s x)) 24 1 (nI n) u = (f_T_tell_42L zfu (zs I2 J2 (zPt t u u f s 1)) 24 (nI n) 1 (nI 0)).bind fun q => (zbool q.1).bind fun x => some (x, q.2) := by
    simp (disch := (first | omega | assumption)) only [f_T_tell, f_C_begin, zg_9, si_9, sp_9, gp_9_6, gp_9_2, zg_7, si_7, sp_7, zbs, nI_add, pk_mul, znI_add1, znI_sub1, znI_subm, zle_nI, zlt_nI, zeq_nI, zle_0, zeq_0, zlt_0, zeq_m, zeq_1, zge_0, zbt0, zbt1, zB_0, zB_1, zB_b, zbool_0, zbool_1, ↓reduceIte, zput_i, zput_x, a1, hlen, hmin, b1]
    rfl
  have L2 := yLR_zb L
  rw [← hres] at L2
  unfold ytext
  cases hy : yall (ytok B n) (n + 1) yps0 with
  | error cp_ =>
    obtain ⟨c, pl⟩ := cp_
    rw [hy] at L2
    obtain ⟨σ', g1, I', J', f', g2, g3, g4⟩ := L2
    exact ⟨I', J', f', by rw [g1, g2], yfX_trans f2 g3, g4⟩
  | ok ps =>
    rw [hy] at L2
    obtain ⟨I', J', f', g1, g2, g3, g4⟩ := L2
    exact ⟨I', J', f', g1, yfX_trans f2 g2, yall_ok _ _ _ yps0_ok hy, g4⟩
end ZXt
