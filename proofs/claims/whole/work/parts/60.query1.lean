/-! queries: key, place, book, steps -/
/-- class and reference answer alike, and only what is scratch is otherwise -/
def zOK2 (I : Nat → Nat → Int32) (J : Nat → Nat → Int64) (t u i f s x : Nat) (fx fm : zSt → Option (Int32 × zSt)) : Prop := ∃ (v : Int32) (I1 : Nat → Nat → Int32) (J1 : Nat → Nat → Int64) (s1 : Nat) (I2 : Nat → Nat → Int32) (J2 : Nat → Nat → Int64),
  fx (zs I J (zPt t u i f s x)) = some (v, zs I1 J1 (zPt t u i f s1 x)) ∧ fm (zs I1 J1 (zPt t u i f s1 x)) = some (v, zs I2 J2 (zPt t u i f s1 x)) ∧ zfr zSg I I2 ∧ (s1 = s ∨ s1 = t)
section ZQ1
variable {I : Nat → Nat → Int32} {J : Nat → Nat → Int64} {t u i f s x : Nat} {nt nb nr q sh md om im : Nat} {LW BW : List Int32}
theorem z31 {n : Nat} (h : n ≤ 10) : n < 2 ^ 31 := by omega
theorem zp2 {n : Nat} (h : n ≤ 10) : 2 ^ n < 2 ^ 30 := Nat.lt_of_le_of_lt (Nat.pow_le_pow_right (by decide) h) (by decide)
theorem g_M_isReader (h : I 91 43 = nI nr) (hn : nr ≤ 6) (p : Int32) : f_M_isReader (zs I J (zPt t u i f s x)) 91 p = some (zB (zlt p nr)) := by
  simp (disch := (first | omega | assumption)) only [f_M_isReader, zg_12, gi_12, zbs, nI_add, pk_mul, znI_add1, znI_sub1, znI_subm, zle_nI, zlt_nI, zeq_nI, zle_0, zeq_0, zlt_0, zeq_m, zeq_1, zge_0, zbt0, zbt1, zB_0, zB_1, zB_b, zbool_0, zbool_1, ↓reduceIte, h, g_M_isIn p (show nr < 2 ^ 30 by omega)]
theorem g_M_isBook (h : I 91 42 = nI nb) (hn : nb ≤ 10) (p : Int32) : f_M_isBook (zs I J (zPt t u i f s x)) 91 p = some (zB (zlt p nb)) := by
  simp (disch := (first | omega | assumption)) only [f_M_isBook, zg_12, gi_12, zbs, nI_add, pk_mul, znI_add1, znI_sub1, znI_subm, zle_nI, zlt_nI, zeq_nI, zle_0, zeq_0, zlt_0, zeq_m, zeq_1, zge_0, zbt0, zbt1, zB_0, zB_1, zB_b, zbool_0, zbool_1, ↓reduceIte, h, g_M_isIn p (show nb < 2 ^ 30 by omega)]
theorem g_M_isTopic (h : I 91 41 = nI nt) (hn : nt ≤ 4) (p : Int32) : f_M_isTopic (zs I J (zPt t u i f s x)) 91 p = some (zB (zlt p nt)) := by
  simp (disch := (first | omega | assumption)) only [f_M_isTopic, zg_12, gi_12, zbs, nI_add, pk_mul, znI_add1, znI_sub1, znI_subm, zle_nI, zlt_nI, zeq_nI, zle_0, zeq_0, zlt_0, zeq_m, zeq_1, zge_0, zbt0, zbt1, zB_0, zB_1, zB_b, zbool_0, zbool_1, ↓reduceIte, h, g_M_isIn p (show nt < 2 ^ 30 by omega)]
theorem g_M_isParty (h : I 91 43 = nI nr) (hn : nr ≤ 6) (p : Int32) : f_M_isParty (zs I J (zPt t u i f s x)) 91 p = some (zB (zlt p (2 ^ nr))) := by
  simp (disch := (first | omega | assumption)) only [f_M_isParty, zg_12, gi_12, zbs, nI_add, pk_mul, znI_add1, znI_sub1, znI_subm, zle_nI, zlt_nI, zeq_nI, zle_0, zeq_0, zlt_0, zeq_m, zeq_1, zge_0, zbt0, zbt1, zB_0, zB_1, zB_b, zbool_0, zbool_1, ↓reduceIte, h, zshl1 nr (by omega), g_M_isIn p (zp2 (show nr ≤ 10 by omega))]
theorem zltW (p : Int32) (n : Nat) : (if p < 0 then some 0 else if nI n ≤ p then some 0 else some (1 : Int32)).bind zbool = some (zB (zlt p n)) := by
  unfold zlt
  by_cases h0 : p < 0
  · simp [h0, zB, zbool]
  · by_cases h1 : nI n ≤ p
    · simp [h0, h1, zB, zbool]
    · simp [h0, h1, zB, zbool]
theorem g_W_isReader (ht : t = 2 ∨ t = 13) (h : I t 2 = nI nr) (p : Int32) : f_W_isReader (zs I J (zPt t u i f s x)) 0 p = some (zB (zlt p nr)) := by
  have := zltW p nr
  simp (disch := (first | omega | assumption)) only [f_W_isReader, zg_11, gi_10, gp_11_2, zbs, h]
  exact this
theorem g_W_isBook (ht : t = 2 ∨ t = 13) (h : I t 1 = nI nb) (p : Int32) : f_W_isBook (zs I J (zPt t u i f s x)) 0 p = some (zB (zlt p nb)) := by
  have := zltW p nb
  simp (disch := (first | omega | assumption)) only [f_W_isBook, zg_11, gi_10, gp_11_2, zbs, h]
  exact this
theorem g_W_isTopic (ht : t = 2 ∨ t = 13) (h : I t 0 = nI nt) (p : Int32) : f_W_isTopic (zs I J (zPt t u i f s x)) 0 p = some (zB (zlt p nt)) := by
  have := zltW p nt
  simp (disch := (first | omega | assumption)) only [f_W_isTopic, zg_11, gi_10, gp_11_2, zbs, h]
  exact this
theorem g_W_isParty (ht : t = 2 ∨ t = 13) (h : I t 2 = nI nr) (hn : nr ≤ 6) (p : Int32) : f_W_isParty (zs I J (zPt t u i f s x)) 0 p = some (zB (zlt p (2 ^ nr))) := by
  have := zltW p (2 ^ nr)
  simp (disch := (first | omega | assumption)) only [f_W_isParty, zg_11, gi_10, gp_11_2, zbs, h, zshl1 nr (by omega)]
  exact this
theorem g_W_isHere0 (ht : t = 2 ∨ t = 13) (h : I t 1 = nI nb) {p : Int32} (hp : zlt p nb = false) : f_W_isHere (zs I J (zPt t u i f s x)) 0 p = some (zB false) := by
  have h1 := g_W_isBook (J := J) (t := t) (u := u) (i := i) (f := f) (s := s) (x := x) ht h p
  rw [hp] at h1
  simp (disch := (first | omega | assumption)) only [f_W_isHere, zg_11, gi_4, gp_11_5, zbs, nI_add, pk_mul, znI_add1, znI_sub1, znI_subm, zle_nI, zlt_nI, zeq_nI, zle_0, zeq_0, zlt_0, zeq_m, zeq_1, zge_0, zbt0, zbt1, zB_0, zB_1, zB_b, zbool_0, zbool_1, ↓reduceIte, h1]
  rfl
theorem g_W_isHere1 (ht : t = 2 ∨ t = 13) (h : I t 1 = nI nb) (hn : nb ≤ 10) (h4 : I 30 4 = nI om) (ho : om < 1024) {b : Nat} (hb : b < nb) : f_W_isHere (zs I J (zPt t u i f s x)) 0 (nI b) = some (zB (!om.testBit b)) := by
  have h1 := g_W_isBook (J := J) (t := t) (u := u) (i := i) (f := f) (s := s) (x := x) ht h (nI b)
  rw [zlt_t hb (by omega)] at h1
  cases hq : om.testBit b with
  | false => simp (disch := (first | omega | assumption)) only [f_W_isHere, zg_11, gi_4, gp_11_5, zbs, nI_add, pk_mul, znI_add1, znI_sub1, znI_subm, zle_nI, zlt_nI, zeq_nI, zle_0, zeq_0, zlt_0, zeq_m, zeq_1, zge_0, zbt0, zbt1, zB_0, zB_1, zB_b, zbool_0, zbool_1, ↓reduceIte, h1, h4, hq, Bool.true_eq_false]; rfl
  | true => simp (disch := (first | omega | assumption)) only [f_W_isHere, zg_11, gi_4, gp_11_5, zbs, nI_add, pk_mul, znI_add1, znI_sub1, znI_subm, zle_nI, zlt_nI, zeq_nI, zle_0, zeq_0, zlt_0, zeq_m, zeq_1, zge_0, zbt0, zbt1, zB_0, zB_1, zB_b, zbool_0, zbool_1, ↓reduceIte, h1, h4, hq, Bool.true_eq_false]; rfl
theorem g_M_stepsTo {p : Nat} (h : I 91 45 = nI sh) (h1 : 1 ≤ sh) (h9 : sh ≤ 9) (hp : p < 1000) : f_M_stepsTo (zs I J (zPt t u i f s x)) 91 (nI p) = some (nI (p + 1 + 2 * (p / sh))) := by
  have hz : znz (nI sh) = some (nI sh) := znz_ne (nI_ne0 (by omega) (by omega))
  have hd := pk_div (a := p) (d := sh) (by omega) (by omega) (by omega)
  simp (disch := (first | omega | assumption)) only [f_M_stepsTo, zg_12, gi_12, ml2, zbs, nI_add, pk_mul, znI_add1, znI_sub1, znI_subm, zle_nI, zlt_nI, zeq_nI, zle_0, zeq_0, zlt_0, zeq_m, zeq_1, zge_0, zbt0, zbt1, zB_0, zB_1, zB_b, zbool_0, zbool_1, ↓reduceIte, h, hz, hd]
theorem g_D_stepsTo {p : Nat} (ht : t = 2 ∨ t = 13) (h : I t 4 = nI sh) (h1 : 1 ≤ sh) (h9 : sh ≤ 9) (hp : p < 1000) : f_D_stepsTo (zs I J (zPt t u i f s x)) t (nI p) = some (nI (p + 1 + 2 * (p / sh))) := by
  have hz : znz (nI sh) = some (nI sh) := znz_ne (nI_ne0 (by omega) (by omega))
  have hd := pk_div (a := p) (d := sh) (by omega) (by omega) (by omega)
  have h0 : ¬ sh = 0 := by omega
  simp (disch := (first | omega | assumption)) only [f_D_stepsTo, zg_10, gi_10, ml2, zbs, nI_add, pk_mul, znI_add1, znI_sub1, znI_subm, zle_nI, zlt_nI, zeq_nI, zle_0, zeq_0, zlt_0, zeq_m, zeq_1, zge_0, zbt0, zbt1, zB_0, zB_1, zB_b, zbool_0, zbool_1, ↓reduceIte, h, hz, hd, h0]
theorem q_key (hC : zCo I t nt nb nr q sh md om im LW BW) (p b : Int32) : zOK2 I J t u i f s x (fun σ => f_W_key σ 0 p b) (fun σ => f_M_key σ 91 p b) := by
  have hC2 := hC
  obtain ⟨ht, ⟨hM, hX, -⟩, -⟩ := hC
  have hnb := hM.2.1.2
  have hnr := hM.2.2.1.2
  have x1 := g_W_isReader (J := J) (t := t) (u := u) (i := i) (f := f) (s := s) (x := x) ht hX.2.2.1.1 p
  have x2 := g_W_isBook (J := J) (t := t) (u := u) (i := i) (f := f) (s := s) (x := x) ht hX.2.1.1 b
  have m1 := fun s => g_M_isReader (J := J) (t := t) (u := u) (i := i) (f := f) (s := s) (x := x) hM.2.2.1.1 hM.2.2.1.2 p
  have m2 := fun s => g_M_isBook (J := J) (t := t) (u := u) (i := i) (f := f) (s := s) (x := x) hM.2.1.1 hM.2.1.2 b
  rcases zlt_cases p (n := nr) (by omega) with ⟨hp, r, hr, rfl⟩ | hp
  · rcases zlt_cases b (n := nb) (by omega) with ⟨hb, b, hbn, rfl⟩ | hb
    · rw [hp] at x1 m1
      rw [hb] at x2 m2
      obtain ⟨I1, a1, a2, -, -, a3⟩ := q_open (J := J) (t := t) (u := u) (i := i) (f := f) (s := s) (x := x) hC2
      have hC3 := zCo_fr hC2 a2
      have k1 := g_S_keyFor (I := I1) (J := J) (t := t) (u := u) (i := i) (f := f) (s := t) (x := x) (show r < 6 by omega) (show b < 10 by omega)
      have e1 : I1 48 (10 * r + b) = zKy I nt LW r b := a3 r b hr hbn
      obtain ⟨hM3, -⟩ := hC3.2.1
      obtain ⟨I2, b1, b2, b3, -, -⟩ := g_M_layOwn (J := J) (t := t) (u := u) (i := i) (f := f) (s := t) (x := x) hM3 (show r < 6 by omega)
      have e2 : I2 113 (10 * r + b) = zKy I nt LW r b := by rw [b3 b hbn, ← zKy_fr a2]; rfl
      have m1' := g_M_isReader (J := J) (t := t) (u := u) (i := i) (f := f) (s := t) (x := x) hM3.2.2.1.1 hM3.2.2.1.2 (nI r)
      have m2' := g_M_isBook (J := J) (t := t) (u := u) (i := i) (f := f) (s := t) (x := x) hM3.2.1.1 hM3.2.1.2 (nI b)
      rw [hp] at m1'
      rw [hb] at m2'
      refine ⟨zKy I nt LW r b, I1, J, t, I2, J, ?_, ?_, zfr_trans a2 (zfr_gl b2 (fun a ha k => ?_)), Or.inr rfl⟩
      · show f_W_key _ 0 _ _ = _
        simp (disch := (first | omega | assumption)) only [f_W_key, zg_11, gp_11_9, gp_11_2, gp_11_5, zbs, nI_add, pk_mul, znI_add1, znI_sub1, znI_subm, zle_nI, zlt_nI, zeq_nI, zle_0, zeq_0, zlt_0, zeq_m, zeq_1, zge_0, zbt0, zbt1, zB_0, zB_1, zB_b, zbool_0, zbool_1, ↓reduceIte, x1, x2, a1, k1, e1, Bool.true_eq_false]
      · show f_M_key _ 91 _ _ = _
        simp (disch := (first | omega | assumption)) only [f_M_key, zg_12, gp_12_51, ai_113, ml10, zbs, nI_add, pk_mul, znI_add1, znI_sub1, znI_subm, zle_nI, zlt_nI, zeq_nI, zle_0, zeq_0, zlt_0, zeq_m, zeq_1, zge_0, zbt0, zbt1, zB_0, zB_1, zB_b, zbool_0, zbool_1, ↓reduceIte, m1', m2', b1, e2, Bool.true_eq_false]
      · simp at ha
        rcases ha with rfl | rfl | rfl | rfl <;> rfl
    · rw [hp] at x1 m1
      rw [hb] at x2 m2
      refine ⟨-1000000, I, J, s, I, J, ?_, ?_, zfr_refl _ _, Or.inl rfl⟩
      · show f_W_key _ 0 _ _ = _
        simp (disch := (first | omega | assumption)) only [f_W_key, zg_11, gp_11_9, gp_11_2, gp_11_5, zbs, nI_add, pk_mul, znI_add1, znI_sub1, znI_subm, zle_nI, zlt_nI, zeq_nI, zle_0, zeq_0, zlt_0, zeq_m, zeq_1, zge_0, zbt0, zbt1, zB_0, zB_1, zB_b, zbool_0, zbool_1, ↓reduceIte, x1, x2, Bool.true_eq_false]
      · show f_M_key _ 91 _ _ = _
        simp (disch := (first | omega | assumption)) only [f_M_key, zg_12, gp_12_51, ai_113, ml10, zbs, nI_add, pk_mul, znI_add1, znI_sub1, znI_subm, zle_nI, zlt_nI, zeq_nI, zle_0, zeq_0, zlt_0, zeq_m, zeq_1, zge_0, zbt0, zbt1, zB_0, zB_1, zB_b, zbool_0, zbool_1, ↓reduceIte, m1 s, m2 s, Bool.true_eq_false]
  · rw [hp] at x1 m1
    refine ⟨-1000000, I, J, s, I, J, ?_, ?_, zfr_refl _ _, Or.inl rfl⟩
    · show f_W_key _ 0 _ _ = _
      simp (disch := (first | omega | assumption)) only [f_W_key, zg_11, gp_11_9, gp_11_2, gp_11_5, zbs, nI_add, pk_mul, znI_add1, znI_sub1, znI_subm, zle_nI, zlt_nI, zeq_nI, zle_0, zeq_0, zlt_0, zeq_m, zeq_1, zge_0, zbt0, zbt1, zB_0, zB_1, zB_b, zbool_0, zbool_1, ↓reduceIte, x1]
    · show f_M_key _ 91 _ _ = _
      simp (disch := (first | omega | assumption)) only [f_M_key, zg_12, gp_12_51, ai_113, ml10, zbs, nI_add, pk_mul, znI_add1, znI_sub1, znI_subm, zle_nI, zlt_nI, zeq_nI, zle_0, zeq_0, zlt_0, zeq_m, zeq_1, zge_0, zbt0, zbt1, zB_0, zB_1, zB_b, zbool_0, zbool_1, ↓reduceIte, m1 s]
end ZQ1
