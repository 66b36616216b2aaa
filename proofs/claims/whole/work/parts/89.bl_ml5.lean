/-! the reference reads a text: the lines told once; all of it -/
theorem yFF_out {F a k : Nat} (h : a = 94 ∨ a = 95) (hk : k < 320 * F ∨ 320 * F + 320 ≤ k) : yFF F a k = false := by
  have b : (Nat.ble (320 * F) k && Nat.blt k (320 * F + 320)) = false := by
    rcases hk with hk | hk
    · have : Nat.ble (320 * F) k = false := Bool.eq_false_iff.mpr (fun h => by have := Nat.le_of_ble_eq_true h; omega)
      rw [this]; rfl
    · have : Nat.blt k (320 * F + 320) = false := Bool.eq_false_iff.mpr (fun h => by
        have h2 : Nat.ble (k + 1) (320 * F + 320) = true := h
        have := Nat.le_of_ble_eq_true h2; omega)
      rw [this, Bool.and_false]
  unfold yFF
  rw [b]
  rcases h with rfl | rfl <;> rfl
section ZMo
variable {I : Nat → Nat → Int32} {J : Nat → Nat → Int64} {t u i f s x : Nat} {B : Nat → Nat} {n : Nat} {ps : yPs}
theorem m_formulaLine_law (hq : yMq I J B n ps.1) (hd : yMD I J ps) (hk : ¬ (ytok B n ps.1).1 = 1) (hu : ps.2.2.2.2.2.2.2.2.2.2.2.2.2.2 ≤ 30) (ho : ∀ M, ps.2.2.2.2.2.2.2.2.2.2.2.2.2.1 = some M → M.length ≤ 269) : yML (zPt t u i f s x) B n I J ((f_M_formula (zs I J (zPt t u i f s x)) 91 0).bind fun σ => f_M_readLine_196 σ 91) (((ylv (ytok B n) 7).1 (ytok B n ps.1).2.2.2.2 0).bd fun r => yfin (ytok B n) (r.2.1, ps.2.1, ps.2.2.1, ps.2.2.2.1, ps.2.2.2.2.1, ps.2.2.2.2.2.1, ps.2.2.2.2.2.2.1, ps.2.2.2.2.2.2.2.1, ps.2.2.2.2.2.2.2.2.1, ps.2.2.2.2.2.2.2.2.2.1, ps.2.2.2.2.2.2.2.2.2.2.1, ps.2.2.2.2.2.2.2.2.2.2.2.1, some r.1, ps.2.2.2.2.2.2.2.2.2.2.2.2.2.1, ps.2.2.2.2.2.2.2.2.2.2.2.2.2.2 + r.2.2)) := by
  obtain ⟨⟨k34, k35, k36, k37, k38, k39, k40, k21, k2, k3⟩, ⟨r1, r2, r3, r4⟩, ⟨l1, l2⟩, ⟨m1, m2, m3⟩, hB⟩ := hd
  have hM := m_formula (t := t) (u := u) (i := i) (f := f) (s := s) (x := x) (F := 0) (by decide) hq hk k2 k3 k21 hu hB
  have hM : yMO (zPt t u i f s x) B n 0 ps.2.2.2.2.2.2.2.2.2.2.2.2.2.2 I J (f_M_formula (zs I J (zPt t u i f s x)) 91 0) ((ylv (ytok B n) 7).1 (ytok B n ps.1).2.2.2.2 0) := hM
  cases hx : (ylv (ytok B n) 7).1 (ytok B n ps.1).2.2.2.2 0 with
  | error cp_ =>
    obtain ⟨c, pl⟩ := cp_
    rw [hx] at hM
    obtain ⟨I', J', e1, e2, e3⟩ := hM
    refine ⟨I', J', ?_, yEL_M e2, e3⟩
    rw [e1, zbs, sk_196 e3.1]
  | ok r =>
    rw [hx] at hM
    obtain ⟨I', J', e1, e2, e3, e4, e5, e6, e7, e8, e9, e10⟩ := hM
    refine yML_fr ⟨zfr_mono e2 (fun a k h => yMF_LF a k (yFF_MF a k h)), fun a h _ => e3 a h⟩ ?_
    rw [e1, zbs]
    have hz : ∀ k, k = 3 ∨ 34 ≤ k → k = 3 ∨ k ≤ 40 → k ≠ 3 → I' 91 k = I 91 k := fun k h1 h2 h3 => e2 91 k (by simp [yFF]; omega)
    have hr : ∀ a, a = 103 ∨ a = 104 ∨ a = 105 ∨ a = 106 → I' a = I a := fun a h => zfr_row e2 a (fun k => by simp [yFF]; omega)
    refine m_fin (ps := (r.2.1, ps.2.1, ps.2.2.1, ps.2.2.2.1, ps.2.2.2.2.1, ps.2.2.2.2.2.1, ps.2.2.2.2.2.2.1, ps.2.2.2.2.2.2.2.1, ps.2.2.2.2.2.2.2.2.1, ps.2.2.2.2.2.2.2.2.2.1, ps.2.2.2.2.2.2.2.2.2.2.1, ps.2.2.2.2.2.2.2.2.2.2.2.1, some r.1, ps.2.2.2.2.2.2.2.2.2.2.2.2.2.1, ps.2.2.2.2.2.2.2.2.2.2.2.2.2.2 + r.2.2)) e7 ?_
    unfold yMD
    rw [hr 103 (by decide), hr 104 (by decide), hr 105 (by decide), hr 106 (by decide), hz 34 (by decide) (by decide) (by decide), hz 35 (by decide) (by decide) (by decide), hz 36 (by decide) (by decide) (by decide), hz 37 (by decide) (by decide) (by decide), hz 38 (by decide) (by decide) (by decide), hz 39 (by decide) (by decide) (by decide), hz 40 (by decide) (by decide) (by decide)]
    have hother : ∀ M, ps.2.2.2.2.2.2.2.2.2.2.2.2.2.1 = some M → yMk I' 1 M := fun M hM => yMk_rows (l2 M hM) (e2 96 1 (by simp [yFF])) (fun k hk => by
      have := ho M hM
      exact ⟨e2 94 _ (yFF_out (Or.inl rfl) (by omega)), e2 95 _ (yFF_out (Or.inr rfl) (by omega))⟩)
    have hBm : yBm I' := fun f hf => by
      by_cases hfF : f = 0
      · rw [hfF]; exact ⟨_, e8, e5.1⟩
      · have : f = 1 := by omega
        rw [this]; exact e9
    refine ⟨⟨k34, k35, k36, k37, k38, k39, k40, e6, e4, e10⟩, ⟨r1, r2, r3, r4⟩, ⟨fun M hM => by cases hM; exact e5, hother⟩, ⟨?_, ?_, ?_⟩, hBm⟩
    · unfold yNb; rw [e3 93 (by decide)]; exact m1
    · unfold yNb; rw [e3 93 (by decide)]; exact m2
    · unfold yNb; rw [e3 93 (by decide)]; exact m3
theorem m_formulaLine_bend (hq : yMq I J B n ps.1) (hd : yMD I J ps) (hk : ¬ (ytok B n ps.1).1 = 1) (hu : ps.2.2.2.2.2.2.2.2.2.2.2.2.2.2 ≤ 30) (ho : ∀ M, ps.2.2.2.2.2.2.2.2.2.2.2.2.1 = some M → M.length ≤ 269) : yML (zPt t u i f s x) B n I J ((f_M_formula (zs I J (zPt t u i f s x)) 91 1).bind fun σ => f_M_readLine_196 σ 91) (((ylv (ytok B n) 7).1 (ytok B n ps.1).2.2.2.2 0).bd fun r => yfin (ytok B n) (r.2.1, ps.2.1, ps.2.2.1, ps.2.2.2.1, ps.2.2.2.2.1, ps.2.2.2.2.2.1, ps.2.2.2.2.2.2.1, ps.2.2.2.2.2.2.2.1, ps.2.2.2.2.2.2.2.2.1, ps.2.2.2.2.2.2.2.2.2.1, ps.2.2.2.2.2.2.2.2.2.2.1, ps.2.2.2.2.2.2.2.2.2.2.2.1, ps.2.2.2.2.2.2.2.2.2.2.2.2.1, some r.1, ps.2.2.2.2.2.2.2.2.2.2.2.2.2.2 + r.2.2)) := by
  obtain ⟨⟨k34, k35, k36, k37, k38, k39, k40, k21, k2, k3⟩, ⟨r1, r2, r3, r4⟩, ⟨l1, l2⟩, ⟨m1, m2, m3⟩, hB⟩ := hd
  have hM := m_formula (t := t) (u := u) (i := i) (f := f) (s := s) (x := x) (F := 1) (by decide) hq hk k2 k3 k21 hu hB
  have hM : yMO (zPt t u i f s x) B n 1 ps.2.2.2.2.2.2.2.2.2.2.2.2.2.2 I J (f_M_formula (zs I J (zPt t u i f s x)) 91 1) ((ylv (ytok B n) 7).1 (ytok B n ps.1).2.2.2.2 0) := hM
  cases hx : (ylv (ytok B n) 7).1 (ytok B n ps.1).2.2.2.2 0 with
  | error cp_ =>
    obtain ⟨c, pl⟩ := cp_
    rw [hx] at hM
    obtain ⟨I', J', e1, e2, e3⟩ := hM
    refine ⟨I', J', ?_, yEL_M e2, e3⟩
    rw [e1, zbs, sk_196 e3.1]
  | ok r =>
    rw [hx] at hM
    obtain ⟨I', J', e1, e2, e3, e4, e5, e6, e7, e8, e9, e10⟩ := hM
    refine yML_fr ⟨zfr_mono e2 (fun a k h => yMF_LF a k (yFF_MF a k h)), fun a h _ => e3 a h⟩ ?_
    rw [e1, zbs]
    have hz : ∀ k, k = 3 ∨ 34 ≤ k → k = 3 ∨ k ≤ 40 → k ≠ 3 → I' 91 k = I 91 k := fun k h1 h2 h3 => e2 91 k (by simp [yFF]; omega)
    have hr : ∀ a, a = 103 ∨ a = 104 ∨ a = 105 ∨ a = 106 → I' a = I a := fun a h => zfr_row e2 a (fun k => by simp [yFF]; omega)
    refine m_fin (ps := (r.2.1, ps.2.1, ps.2.2.1, ps.2.2.2.1, ps.2.2.2.2.1, ps.2.2.2.2.2.1, ps.2.2.2.2.2.2.1, ps.2.2.2.2.2.2.2.1, ps.2.2.2.2.2.2.2.2.1, ps.2.2.2.2.2.2.2.2.2.1, ps.2.2.2.2.2.2.2.2.2.2.1, ps.2.2.2.2.2.2.2.2.2.2.2.1, ps.2.2.2.2.2.2.2.2.2.2.2.2.1, some r.1, ps.2.2.2.2.2.2.2.2.2.2.2.2.2.2 + r.2.2)) e7 ?_
    unfold yMD
    rw [hr 103 (by decide), hr 104 (by decide), hr 105 (by decide), hr 106 (by decide), hz 34 (by decide) (by decide) (by decide), hz 35 (by decide) (by decide) (by decide), hz 36 (by decide) (by decide) (by decide), hz 37 (by decide) (by decide) (by decide), hz 38 (by decide) (by decide) (by decide), hz 39 (by decide) (by decide) (by decide), hz 40 (by decide) (by decide) (by decide)]
    have hother : ∀ M, ps.2.2.2.2.2.2.2.2.2.2.2.2.1 = some M → yMk I' 0 M := fun M hM => yMk_rows (l1 M hM) (e2 96 0 (by simp [yFF])) (fun k hk => by
      have := ho M hM
      exact ⟨e2 94 _ (yFF_out (Or.inl rfl) (by omega)), e2 95 _ (yFF_out (Or.inr rfl) (by omega))⟩)
    have hBm : yBm I' := fun f hf => by
      by_cases hfF : f = 1
      · rw [hfF]; exact ⟨_, e8, e5.1⟩
      · have : f = 0 := by omega
        rw [this]; exact e9
    refine ⟨⟨k34, k35, k36, k37, k38, k39, k40, e6, e4, e10⟩, ⟨r1, r2, r3, r4⟩, ⟨hother, fun M hM => by cases hM; exact e5⟩, ⟨?_, ?_, ?_⟩, hBm⟩
    · unfold yNb; rw [e3 93 (by decide)]; exact m1
    · unfold yNb; rw [e3 93 (by decide)]; exact m2
    · unfold yNb; rw [e3 93 (by decide)]; exact m3
theorem yMD_q {I' : Nat → Nat → Int32} {J' : Nat → Nat → Int64} {v p : Nat} (hd : yMD I J ps) (hf : yfm I J I' J') : yMD (zup I' 91 37 (nI v)) J' (p, ps.2.1, ps.2.2.1, ps.2.2.2.1, ps.2.2.2.2.1, ps.2.2.2.2.2.1, ps.2.2.2.2.2.2.1, ps.2.2.2.2.2.2.2.1, v, ps.2.2.2.2.2.2.2.2.2.1, ps.2.2.2.2.2.2.2.2.2.2.1, ps.2.2.2.2.2.2.2.2.2.2.2.1, ps.2.2.2.2.2.2.2.2.2.2.2.2.1, ps.2.2.2.2.2.2.2.2.2.2.2.2.2.1, ps.2.2.2.2.2.2.2.2.2.2.2.2.2.2) := by
  have r : ∀ a, a ≠ 91 → zup I' 91 37 (nI v) a = I a := fun a ha => (zup_ne _ _ _ ha).trans (zfr_row hf.1 a (fun k => by simp [yTm, ha]))
  have z : ∀ k, k ≠ 37 → k ≠ 4 → k ≠ 6 → k ≠ 7 → k ≠ 8 → zup I' 91 37 (nI v) 91 k = I 91 k := fun k g1 g2 g3 g4 g5 => (zup_k _ _ g1).trans (hf.1 91 k (by simp [yTm, g2, g3, g4, g5]))
  obtain ⟨⟨k34, k35, k36, k37, k38, k39, k40, k21, k2, k3⟩, ⟨r1, r2, r3, r4⟩, ⟨l1, l2⟩, ⟨m1, m2, m3⟩, hB⟩ := hd
  unfold yMD yMk yNb yBm
  rw [r 103 (by decide), r 104 (by decide), r 105 (by decide), r 106 (by decide), r 94 (by decide), r 95 (by decide), r 96 (by decide), hf.2 93 (by decide), z 34 (by decide) (by decide) (by decide) (by decide) (by decide), z 35 (by decide) (by decide) (by decide) (by decide) (by decide), z 36 (by decide) (by decide) (by decide) (by decide) (by decide), z 38 (by decide) (by decide) (by decide) (by decide) (by decide), z 39 (by decide) (by decide) (by decide) (by decide) (by decide), z 40 (by decide) (by decide) (by decide) (by decide) (by decide), z 21 (by decide) (by decide) (by decide) (by decide) (by decide), z 2 (by decide) (by decide) (by decide) (by decide) (by decide), z 3 (by decide) (by decide) (by decide) (by decide) (by decide), zup_s]
  exact ⟨⟨k34, k35, k36, rfl, k38, k39, k40, k21, k2, k3⟩, ⟨r1, r2, r3, r4⟩, ⟨l1, l2⟩, ⟨m1, m2, m3⟩, hB⟩
theorem yMD_sh {I' : Nat → Nat → Int32} {J' : Nat → Nat → Int64} {v p : Nat} (hd : yMD I J ps) (hf : yfm I J I' J') : yMD (zup I' 91 38 (nI v)) J' (p, ps.2.1, ps.2.2.1, ps.2.2.2.1, ps.2.2.2.2.1, ps.2.2.2.2.2.1, ps.2.2.2.2.2.2.1, ps.2.2.2.2.2.2.2.1, ps.2.2.2.2.2.2.2.2.1, v, ps.2.2.2.2.2.2.2.2.2.2.1, ps.2.2.2.2.2.2.2.2.2.2.2.1, ps.2.2.2.2.2.2.2.2.2.2.2.2.1, ps.2.2.2.2.2.2.2.2.2.2.2.2.2.1, ps.2.2.2.2.2.2.2.2.2.2.2.2.2.2) := by
  have r : ∀ a, a ≠ 91 → zup I' 91 38 (nI v) a = I a := fun a ha => (zup_ne _ _ _ ha).trans (zfr_row hf.1 a (fun k => by simp [yTm, ha]))
  have z : ∀ k, k ≠ 38 → k ≠ 4 → k ≠ 6 → k ≠ 7 → k ≠ 8 → zup I' 91 38 (nI v) 91 k = I 91 k := fun k g1 g2 g3 g4 g5 => (zup_k _ _ g1).trans (hf.1 91 k (by simp [yTm, g2, g3, g4, g5]))
  obtain ⟨⟨k34, k35, k36, k37, k38, k39, k40, k21, k2, k3⟩, ⟨r1, r2, r3, r4⟩, ⟨l1, l2⟩, ⟨m1, m2, m3⟩, hB⟩ := hd
  unfold yMD yMk yNb yBm
  rw [r 103 (by decide), r 104 (by decide), r 105 (by decide), r 106 (by decide), r 94 (by decide), r 95 (by decide), r 96 (by decide), hf.2 93 (by decide), z 34 (by decide) (by decide) (by decide) (by decide) (by decide), z 35 (by decide) (by decide) (by decide) (by decide) (by decide), z 36 (by decide) (by decide) (by decide) (by decide) (by decide), z 37 (by decide) (by decide) (by decide) (by decide) (by decide), z 39 (by decide) (by decide) (by decide) (by decide) (by decide), z 40 (by decide) (by decide) (by decide) (by decide) (by decide), z 21 (by decide) (by decide) (by decide) (by decide) (by decide), z 2 (by decide) (by decide) (by decide) (by decide) (by decide), z 3 (by decide) (by decide) (by decide) (by decide) (by decide), zup_s]
  exact ⟨⟨k34, k35, k36, k37, rfl, k39, k40, k21, k2, k3⟩, ⟨r1, r2, r3, r4⟩, ⟨l1, l2⟩, ⟨m1, m2, m3⟩, hB⟩
theorem yMD_md {I' : Nat → Nat → Int32} {J' : Nat → Nat → Int64} {v p : Nat} (hd : yMD I J ps) (hf : yfm I J I' J') : yMD (zup I' 91 39 (nI v)) J' (p, ps.2.1, ps.2.2.1, ps.2.2.2.1, ps.2.2.2.2.1, ps.2.2.2.2.2.1, ps.2.2.2.2.2.2.1, ps.2.2.2.2.2.2.2.1, ps.2.2.2.2.2.2.2.2.1, ps.2.2.2.2.2.2.2.2.2.1, v, ps.2.2.2.2.2.2.2.2.2.2.2.1, ps.2.2.2.2.2.2.2.2.2.2.2.2.1, ps.2.2.2.2.2.2.2.2.2.2.2.2.2.1, ps.2.2.2.2.2.2.2.2.2.2.2.2.2.2) := by
  have r : ∀ a, a ≠ 91 → zup I' 91 39 (nI v) a = I a := fun a ha => (zup_ne _ _ _ ha).trans (zfr_row hf.1 a (fun k => by simp [yTm, ha]))
  have z : ∀ k, k ≠ 39 → k ≠ 4 → k ≠ 6 → k ≠ 7 → k ≠ 8 → zup I' 91 39 (nI v) 91 k = I 91 k := fun k g1 g2 g3 g4 g5 => (zup_k _ _ g1).trans (hf.1 91 k (by simp [yTm, g2, g3, g4, g5]))
  obtain ⟨⟨k34, k35, k36, k37, k38, k39, k40, k21, k2, k3⟩, ⟨r1, r2, r3, r4⟩, ⟨l1, l2⟩, ⟨m1, m2, m3⟩, hB⟩ := hd
  unfold yMD yMk yNb yBm
  rw [r 103 (by decide), r 104 (by decide), r 105 (by decide), r 106 (by decide), r 94 (by decide), r 95 (by decide), r 96 (by decide), hf.2 93 (by decide), z 34 (by decide) (by decide) (by decide) (by decide) (by decide), z 35 (by decide) (by decide) (by decide) (by decide) (by decide), z 36 (by decide) (by decide) (by decide) (by decide) (by decide), z 37 (by decide) (by decide) (by decide) (by decide) (by decide), z 38 (by decide) (by decide) (by decide) (by decide) (by decide), z 40 (by decide) (by decide) (by decide) (by decide) (by decide), z 21 (by decide) (by decide) (by decide) (by decide) (by decide), z 2 (by decide) (by decide) (by decide) (by decide) (by decide), z 3 (by decide) (by decide) (by decide) (by decide) (by decide), zup_s]
  exact ⟨⟨k34, k35, k36, k37, k38, rfl, k40, k21, k2, k3⟩, ⟨r1, r2, r3, r4⟩, ⟨l1, l2⟩, ⟨m1, m2, m3⟩, hB⟩
theorem m_shelfLine (hq : yMq I J B n ps.1) (hd : yMD I J ps) (hk : (ytok B n ps.1).1 = 10) : yML (zPt t u i f s x) B n I J ((f_M_told (zs I J (zPt t u i f s x)) 91 495672716390 1 9).bind fun q7 => (zsI q7.2 12 91 38 q7.1).bind fun σ8 => f_M_readLine_196 σ8 91) ((ynum (ytok B n) 1 9 (ytok B n ps.1).2.2.2.2).bd fun v => yfin (ytok B n) (v.2, ps.2.1, ps.2.2.1, ps.2.2.2.1, ps.2.2.2.2.1, ps.2.2.2.2.2.1, ps.2.2.2.2.2.2.1, ps.2.2.2.2.2.2.2.1, ps.2.2.2.2.2.2.2.2.1, v.1, ps.2.2.2.2.2.2.2.2.2.2.1, ps.2.2.2.2.2.2.2.2.2.2.2.1, ps.2.2.2.2.2.2.2.2.2.2.2.2.1, ps.2.2.2.2.2.2.2.2.2.2.2.2.2.1, ps.2.2.2.2.2.2.2.2.2.2.2.2.2.2)) := by
  have hT := m_told (t := t) (u := u) (i := i) (f := f) (s := s) (x := x) (k := 6) (lo := 1) (hi := 9) (c := 495672716390) (by decide) (by decide) (by decide) (by decide) hq hd.1.2.2.2.2.2.2.2.2.1 hd.2.2.2.2
  have ht : ytake (ytok B n) (4 + 6) ps.1 = .ok (ytok B n ps.1).2.2.2.2 := if_pos hk
  rw [ht] at hT
  simp only [yRs.bd] at hT
  cases hx : ynum (ytok B n) 1 9 (ytok B n ps.1).2.2.2.2 with
  | error cp_ =>
    obtain ⟨c, pl⟩ := cp_
    rw [hx] at hT
    obtain ⟨v, I', J', e1, e2, e3⟩ := hT
    have e1 : f_M_told (zs I J (zPt t u i f s x)) 91 495672716390 1 9 = some (v, (zs I' J' (zPt t u i f s x))) := e1
    have g2 : zup I' 91 38 v 91 2 = I' 91 2 := zup_k _ _ (by decide)
    refine ⟨zup I' 91 38 v, J', ?_, yEL_more (yEL_M e2) (zfr_up (zfr_refl _ _) rfl) g2 (zup_k _ _ (by decide)) (zup_ne _ _ _ (by decide)), by rw [g2]; exact e3⟩
    rw [e1, zbs, si_12, zbs, sk_196 (by rw [g2]; exact e3.1)]
  | ok v =>
    rw [hx] at hT
    obtain ⟨I', J', e1, e2, e3⟩ := hT
    have e1 : f_M_told (zs I J (zPt t u i f s x)) 91 495672716390 1 9 = some (nI v.1, (zs I' J' (zPt t u i f s x))) := e1
    refine yML_fr (yfL'_up (a := 91) (k := 38) (v := nI v.1) (yfL'_m e2) rfl) ?_
    rw [e1, zbs, si_12, zbs]
    exact m_fin (ps := (v.2, ps.2.1, ps.2.2.1, ps.2.2.2.1, ps.2.2.2.2.1, ps.2.2.2.2.2.1, ps.2.2.2.2.2.2.1, ps.2.2.2.2.2.2.2.1, ps.2.2.2.2.2.2.2.2.1, v.1, ps.2.2.2.2.2.2.2.2.2.2.1, ps.2.2.2.2.2.2.2.2.2.2.2.1, ps.2.2.2.2.2.2.2.2.2.2.2.2.1, ps.2.2.2.2.2.2.2.2.2.2.2.2.2.1, ps.2.2.2.2.2.2.2.2.2.2.2.2.2.2)) (yMq_fr e3 (zup_ne _ _ _ (by decide)) (fun k _ _ => zup_k _ _ (by omega)) rfl) (yMD_sh (p := v.2) hd e2)
theorem m_moodLine (hq : yMq I J B n ps.1) (hd : yMD I J ps) (hk : (ytok B n ps.1).1 = 11) : yML (zPt t u i f s x) B n I J ((f_M_told (zs I J (zPt t u i f s x)) 91 1836019556 0 9).bind fun q7 => (zsI q7.2 12 91 39 q7.1).bind fun σ8 => f_M_readLine_196 σ8 91) ((ynum (ytok B n) 0 9 (ytok B n ps.1).2.2.2.2).bd fun v => yfin (ytok B n) (v.2, ps.2.1, ps.2.2.1, ps.2.2.2.1, ps.2.2.2.2.1, ps.2.2.2.2.2.1, ps.2.2.2.2.2.2.1, ps.2.2.2.2.2.2.2.1, ps.2.2.2.2.2.2.2.2.1, ps.2.2.2.2.2.2.2.2.2.1, v.1, ps.2.2.2.2.2.2.2.2.2.2.2.1, ps.2.2.2.2.2.2.2.2.2.2.2.2.1, ps.2.2.2.2.2.2.2.2.2.2.2.2.2.1, ps.2.2.2.2.2.2.2.2.2.2.2.2.2.2)) := by
  have hT := m_told (t := t) (u := u) (i := i) (f := f) (s := s) (x := x) (k := 7) (lo := 0) (hi := 9) (c := 1836019556) (by decide) (by decide) (by decide) (by decide) hq hd.1.2.2.2.2.2.2.2.2.1 hd.2.2.2.2
  have ht : ytake (ytok B n) (4 + 7) ps.1 = .ok (ytok B n ps.1).2.2.2.2 := if_pos hk
  rw [ht] at hT
  simp only [yRs.bd] at hT
  cases hx : ynum (ytok B n) 0 9 (ytok B n ps.1).2.2.2.2 with
  | error cp_ =>
    obtain ⟨c, pl⟩ := cp_
    rw [hx] at hT
    obtain ⟨v, I', J', e1, e2, e3⟩ := hT
    have e1 : f_M_told (zs I J (zPt t u i f s x)) 91 1836019556 0 9 = some (v, (zs I' J' (zPt t u i f s x))) := e1
    have g2 : zup I' 91 39 v 91 2 = I' 91 2 := zup_k _ _ (by decide)
    refine ⟨zup I' 91 39 v, J', ?_, yEL_more (yEL_M e2) (zfr_up (zfr_refl _ _) rfl) g2 (zup_k _ _ (by decide)) (zup_ne _ _ _ (by decide)), by rw [g2]; exact e3⟩
    rw [e1, zbs, si_12, zbs, sk_196 (by rw [g2]; exact e3.1)]
  | ok v =>
    rw [hx] at hT
    obtain ⟨I', J', e1, e2, e3⟩ := hT
    have e1 : f_M_told (zs I J (zPt t u i f s x)) 91 1836019556 0 9 = some (nI v.1, (zs I' J' (zPt t u i f s x))) := e1
    refine yML_fr (yfL'_up (a := 91) (k := 39) (v := nI v.1) (yfL'_m e2) rfl) ?_
    rw [e1, zbs, si_12, zbs]
    exact m_fin (ps := (v.2, ps.2.1, ps.2.2.1, ps.2.2.2.1, ps.2.2.2.2.1, ps.2.2.2.2.2.1, ps.2.2.2.2.2.2.1, ps.2.2.2.2.2.2.2.1, ps.2.2.2.2.2.2.2.2.1, ps.2.2.2.2.2.2.2.2.2.1, v.1, ps.2.2.2.2.2.2.2.2.2.2.2.1, ps.2.2.2.2.2.2.2.2.2.2.2.2.1, ps.2.2.2.2.2.2.2.2.2.2.2.2.2.1, ps.2.2.2.2.2.2.2.2.2.2.2.2.2.2)) (yMq_fr e3 (zup_ne _ _ _ (by decide)) (fun k _ _ => zup_k _ _ (by omega)) rfl) (yMD_md (p := v.2) hd e2)
theorem m_quarrelLine (hq : yMq I J B n ps.1) (hd : yMD I J ps) (hk : ¬ (ytok B n ps.1).1 = 1) : yML (zPt t u i f s x) B n I J ((f_M_readQuarrel (zs I J (zPt t u i f s x)) 91).bind fun σ => f_M_readLine_196 σ 91) (if 14 ≤ (ytok B n (ytok B n ps.1).2.2.2.2).1 ∧ (ytok B n (ytok B n ps.1).2.2.2.2).1 ≤ 17 then yfin (ytok B n) ((ytok B n (ytok B n ps.1).2.2.2.2).2.2.2.2, ps.2.1, ps.2.2.1, ps.2.2.2.1, ps.2.2.2.2.1, ps.2.2.2.2.2.1, ps.2.2.2.2.2.2.1, ps.2.2.2.2.2.2.2.1, (ytok B n (ytok B n ps.1).2.2.2.2).1 - 14, ps.2.2.2.2.2.2.2.2.2.1, ps.2.2.2.2.2.2.2.2.2.2.1, ps.2.2.2.2.2.2.2.2.2.2.2.1, ps.2.2.2.2.2.2.2.2.2.2.2.2.1, ps.2.2.2.2.2.2.2.2.2.2.2.2.2.1, ps.2.2.2.2.2.2.2.2.2.2.2.2.2.2) else yer (ytok B n (ytok B n ps.1).2.2.2.2)) := by
  have k2 := hd.1.2.2.2.2.2.2.2.2.1
  have hB := hd.2.2.2.2
  obtain ⟨I1, J1, a1, a2, a3⟩ := m_tok (t := t) (u := u) (i := i) (f := f) (s := s) (x := x) hq hk
  have hτ := ytok_To (B := B) a3.2.2
  have w10 := g_M_isWord (J := J1) (t := t) (u := u) (i := i) (f := f) (s := s) (x := x) a3.2.1 hτ (k := 10) (by decide) (c := 7566701) (by decide)
  have w11 := g_M_isWord (J := J1) (t := t) (u := u) (i := i) (f := f) (s := s) (x := x) a3.2.1 hτ (k := 11) (by decide) (c := 465557353332) (by decide)
  have w12 := g_M_isWord (J := J1) (t := t) (u := u) (i := i) (f := f) (s := s) (x := x) a3.2.1 hτ (k := 12) (by decide) (c := 1836020596) (by decide)
  have zt : ¬ zB true = 0 := by decide
  have zf : zB false = 0 := rfl
  have g0 : I1 91 2 = 0 := (a2.1 91 2 rfl).trans k2
  -- which number
  have h48 : ∃ v, v ≤ 3 ∧ (14 ≤ (ytok B n (ytok B n ps.1).2.2.2.2).1 → (ytok B n (ytok B n ps.1).2.2.2.2).1 ≤ 17 → v = (ytok B n (ytok B n ps.1).2.2.2.2).1 - 14) ∧ (¬ (14 ≤ (ytok B n (ytok B n ps.1).2.2.2.2).1 ∧ (ytok B n (ytok B n ps.1).2.2.2.2).1 ≤ 17) → v = 3) ∧ f_M_readQuarrel (zs I J (zPt t u i f s x)) 91 = f_M_readQuarrel_48 (zs I1 J1 (zPt t u i f s x)) 91 (nI v) 91 := by
    generalize (ytok B n (ytok B n ps.1).2.2.2.2).1 = K at w10 w11 w12
    by_cases c10 : K = 14
    · rw [decide_eq_true (show K = 4 + 10 from c10)] at w10
      exact ⟨0, by decide, fun _ _ => by omega, fun h => by omega, by rw [f_M_readQuarrel, zg_12, a1, zbs, w10, zbs, if_neg zt]; rfl⟩
    rw [decide_eq_false (show ¬ K = 4 + 10 from c10)] at w10
    by_cases c11 : K = 15
    · rw [decide_eq_true (show K = 4 + 11 from c11)] at w11
      exact ⟨1, by decide, fun _ _ => by omega, fun h => by omega, by rw [f_M_readQuarrel, zg_12, a1, zbs, w10, zbs, if_pos zf, w11, zbs, if_neg zt]; rfl⟩
    rw [decide_eq_false (show ¬ K = 4 + 11 from c11)] at w11
    by_cases c12 : K = 16
    · rw [decide_eq_true (show K = 4 + 12 from c12)] at w12
      exact ⟨2, by decide, fun _ _ => by omega, fun h => by omega, by rw [f_M_readQuarrel, zg_12, a1, zbs, w10, zbs, if_pos zf, w11, zbs, if_pos zf, w12, zbs, if_neg zt]; rfl⟩
    rw [decide_eq_false (show ¬ K = 4 + 12 from c12)] at w12
    exact ⟨3, by decide, fun _ _ => by omega, fun _ => rfl, by rw [f_M_readQuarrel, zg_12, a1, zbs, w10, zbs, if_pos zf, w11, zbs, if_pos zf, w12, zbs, if_pos zf]; rfl⟩
  obtain ⟨v, hv3, hv1, hv2, hst⟩ := h48
  have a3' : yMq (zup I1 91 37 (nI v)) J1 B n (ytok B n ps.1).2.2.2.2 := yMq_fr a3 (zup_ne _ _ _ (by decide)) (fun k _ _ => zup_k _ _ (by omega)) rfl
  have w13 := g_M_isWord (I := zup I1 91 37 (nI v)) (J := J1) (t := t) (u := u) (i := i) (f := f) (s := s) (x := x) a3'.2.1 hτ (k := 13) (by decide) (c := 500186639987) (by decide)
  have g0' : zup I1 91 37 (nI v) 91 2 = 0 := (zup_k _ _ (by decide)).trans g0
  have g37 : zup I1 91 37 (nI v) 91 37 = nI v := zup_s _ _ _ _
  have f1 : yfL' I J (zup I1 91 37 (nI v)) J1 := yfL'_up (yfL'_m a2) rfl
  have hB1 : yBm (zup I1 91 37 (nI v)) := fun f hf => by rw [zup_ne _ _ _ (by decide)]; exact yBm_fm hB a2 f hf
  rw [hst]
  by_cases hc : 14 ≤ (ytok B n (ytok B n ps.1).2.2.2.2).1 ∧ (ytok B n (ytok B n ps.1).2.2.2.2).1 ≤ 17
  · rw [if_pos hc]
    have hv := hv1 hc.1 hc.2
    obtain ⟨I2, J2, b1, b2, b3⟩ := m_tok (t := t) (u := u) (i := i) (f := f) (s := s) (x := x) a3' (by omega)
    refine yML_fr (yfL'_trans f1 (yfL'_m b2)) ?_
    have h74 : f_M_readQuarrel_74 (zs (zup I1 91 37 (nI v)) J1 (zPt t u i f s x)) 91 = some (zs I2 J2 (zPt t u i f s x)) := by rw [f_M_readQuarrel_74, gi_12, zbs, if_pos g0', b1, zbs]
    have h48 : f_M_readQuarrel_48 (zs I1 J1 (zPt t u i f s x)) 91 (nI v) 91 = some (zs I2 J2 (zPt t u i f s x)) := by
      rw [f_M_readQuarrel_48, si_12, zbs, gi_12, zbs, g37]
      by_cases e3 : v = 3
      · rw [decide_eq_true (by omega)] at w13
        rw [if_pos (by rw [e3]; rfl), w13, zbs, if_neg zt, h74]
      · rw [if_neg (by rw [eq3 (by omega)]; exact e3), h74]
    rw [h48, zbs, ← hv]
    have hd' := yMD_q (v := v) (p := (ytok B n (ytok B n ps.1).2.2.2.2).2.2.2.2) hd a2
    exact m_fin (ps := ((ytok B n (ytok B n ps.1).2.2.2.2).2.2.2.2, ps.2.1, ps.2.2.1, ps.2.2.2.1, ps.2.2.2.2.1, ps.2.2.2.2.2.1, ps.2.2.2.2.2.2.1, ps.2.2.2.2.2.2.2.1, v, ps.2.2.2.2.2.2.2.2.2.1, ps.2.2.2.2.2.2.2.2.2.2.1, ps.2.2.2.2.2.2.2.2.2.2.2.1, ps.2.2.2.2.2.2.2.2.2.2.2.2.1, ps.2.2.2.2.2.2.2.2.2.2.2.2.2.1, ps.2.2.2.2.2.2.2.2.2.2.2.2.2.2)) b3 (yMD_fm (p := (ytok B n (ytok B n ps.1).2.2.2.2).2.2.2.2) hd' b2)
  · rw [if_neg hc]
    have hv := hv2 hc
    obtain ⟨I', c, pl, e1, e2, e3, e4⟩ := m_ref (α := yPs) (t := t) (u := u) (i := i) (f := f) (s := s) (x := x) a3' g0' hB1
    rw [e2]
    refine ⟨I', J1, ?_, yEL_fr f1 (yEL_M e3), e4⟩
    rw [decide_eq_false (by omega)] at w13
    rw [f_M_readQuarrel_48, si_12, zbs, gi_12, zbs, g37, if_pos (by rw [hv]; rfl), w13, zbs, if_pos zf, e1, zbs, f_M_readQuarrel_74, gi_12, zbs, if_neg e4.1, zbs, sk_196 e4.1]
end ZMo
