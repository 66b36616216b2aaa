/-! the reference reads a text: a topic's line, a book's -/
def yLF : Nat → Nat → Bool := fun a k => (a == 91 && (k == 2 || k == 3 || k == 4 || k == 6 || k == 7 || k == 8 || k == 19 || k == 20 || k == 21 || k == 23 || k == 24 || (Nat.ble 34 k && Nat.ble k 40))) || a == 94 || a == 95 || a == 96 || a == 100 || a == 103 || a == 104 || a == 105 || a == 106
def yfL' (I : Nat → Nat → Int32) (J : Nat → Nat → Int64) (I' : Nat → Nat → Int32) (J' : Nat → Nat → Int64) : Prop := zfr yLF I I' ∧ (∀ a, a ≠ 91 → a ≠ 93 → J' a = J a)
theorem yfL'_refl (I : Nat → Nat → Int32) (J : Nat → Nat → Int64) : yfL' I J I J := ⟨zfr_refl _ _, fun _ _ _ => rfl⟩
theorem yfL'_trans {I I' I'' : Nat → Nat → Int32} {J J' J'' : Nat → Nat → Int64} (h : yfL' I J I' J') (h2 : yfL' I' J' I'' J'') : yfL' I J I'' J'' := ⟨zfr_trans h.1 h2.1, fun a h1 h3 => (h2.2 a h1 h3).trans (h.2 a h1 h3)⟩
theorem yMF_LF : ∀ a k, yMF a k = true → yLF a k = true := fun a k h => by
  unfold yMF at h
  unfold yLF
  simp at h ⊢
  omega
theorem yTm_LF : ∀ a k, yTm a k = true → yLF a k = true := fun a k h => yMF_LF a k (yTm_MF a k h)
theorem yfL'_M {I I' : Nat → Nat → Int32} {J J' : Nat → Nat → Int64} (h : yfM I J I' J') : yfL' I J I' J' := ⟨zfr_mono h.1 yMF_LF, h.2⟩
theorem yfL'_m {I I' : Nat → Nat → Int32} {J J' : Nat → Nat → Int64} (h : yfm I J I' J') : yfL' I J I' J' := yfL'_M (yfM_fm h)
theorem yfL'_up {I I' : Nat → Nat → Int32} {J J' : Nat → Nat → Int64} {a k : Nat} {v : Int32} (h : yfL' I J I' J') (hk : yLF a k = true) : yfL' I J (zup I' a k v) J' := ⟨zfr_up h.1 hk, h.2⟩
def yEL (P : Nat → Nat → Option Nat) (I : Nat → Nat → Int32) (J : Nat → Nat → Int64) (σ : zSt) (c pl : Nat) : Prop := ∃ I' J', σ = zs I' J' P ∧ yfL' I J I' J' ∧ yFt c pl I' ∧ (c ≤ 5 ∧ 0 < c) ∧ yBm I'
theorem yEL_M {P : Nat → Nat → Option Nat} {I : Nat → Nat → Int32} {J : Nat → Nat → Int64} {σ : zSt} {c pl : Nat} (h : yEM P I J σ c pl) : yEL P I J σ c pl := by
  obtain ⟨I', J', e1, e2, e3⟩ := h
  exact ⟨I', J', e1, yfL'_M e2, e3⟩
theorem yEL_fr {P : Nat → Nat → Option Nat} {I I' : Nat → Nat → Int32} {J J' : Nat → Nat → Int64} {σ : zSt} {c pl : Nat} (hf : yfL' I J I' J') (h : yEL P I' J' σ c pl) : yEL P I J σ c pl := by
  obtain ⟨I2, J2, e1, e2, e3⟩ := h
  exact ⟨I2, J2, e1, yfL'_trans hf e2, e3⟩
theorem yEL_more {P : Nat → Nat → Option Nat} {I I1 I2 : Nat → Nat → Int32} {J J1 : Nat → Nat → Int64} {c pl : Nat} (h : yEL P I J (zs I1 J1 P) c pl) (hf : zfr yLF I1 I2) (h2 : I2 91 2 = I1 91 2) (h3 : I2 91 3 = I1 91 3) (h96 : I2 96 = I1 96) : yEL P I J (zs I2 J1 P) c pl := by
  obtain ⟨I', J', e1, e2, e3, e4, e5⟩ := h
  obtain ⟨rfl, rfl⟩ := zs_inj e1
  exact ⟨I2, J1, rfl, yfL'_trans e2 ⟨hf, fun _ _ _ => rfl⟩, ⟨h2.trans e3.1, h3.trans e3.2⟩, e4, fun f hf => by rw [h96]; exact e5 f hf⟩
theorem yEM_row {P : Nat → Nat → Option Nat} {I I1 : Nat → Nat → Int32} {J J1 : Nat → Nat → Int64} {c pl : Nat} (h : yEM P I J (zs I1 J1 P) c pl) : zfr yMF I I1 := by
  obtain ⟨I', J', e1, e2, e3⟩ := h
  obtain ⟨rfl, rfl⟩ := zs_inj e1
  exact e2.1
def ypc (g : Nat) : Nat := (if g.testBit 0 = true then 1 else 0) + (if g.testBit 1 = true then 1 else 0) + (if g.testBit 2 = true then 1 else 0) + (if g.testBit 3 = true then 1 else 0)
theorem ypc_b : ∀ g, g < 16 → ypc g ≤ 4 ∧ ∀ k, k < 4 → g.testBit k = false → ypc (g ||| 2 ^ k) = ypc g + 1 := by decide +kernel
/-- what the reference has of what has been told -/
def yMD (I : Nat → Nat → Int32) (J : Nat → Nat → Int64) (s : yPs) : Prop :=
  (I 91 34 = nI s.2.1.length ∧ I 91 35 = nI s.2.2.1.length ∧ I 91 36 = nI s.2.2.2.1.length ∧ I 91 37 = nI s.2.2.2.2.2.2.2.2.1 ∧ I 91 38 = nI s.2.2.2.2.2.2.2.2.2.1 ∧ I 91 39 = nI s.2.2.2.2.2.2.2.2.2.2.1 ∧ I 91 40 = nI s.2.2.2.2.2.2.2.2.2.2.2.1 ∧ I 91 21 = nI s.2.2.2.2.2.2.2.2.2.2.2.2.2.2 ∧ I 91 2 = 0 ∧ I 91 3 = -1) ∧
  ((∀ k, k < 4 * s.2.2.1.length → I 103 k = s.2.2.2.2.1 k) ∧ (∀ k, k < 4 * s.2.2.2.1.length → I 104 k = s.2.2.2.2.2.1 k) ∧ (∀ k, k < 4 * s.2.2.2.1.length → I 105 k = s.2.2.2.2.2.2.1 k) ∧ (∀ k, k < s.2.2.2.1.length → I 106 k = s.2.2.2.2.2.2.2.1 k)) ∧
  ((∀ M, s.2.2.2.2.2.2.2.2.2.2.2.2.1 = some M → yMk I 0 M) ∧ (∀ M, s.2.2.2.2.2.2.2.2.2.2.2.2.2.1 = some M → yMk I 1 M)) ∧ (yNb J 0 s.2.1 ∧ yNb J 4 s.2.2.1 ∧ yNb J 14 s.2.2.2.1) ∧ yBm I
theorem yMD_fm {I I' : Nat → Nat → Int32} {J J' : Nat → Nat → Int64} {s : yPs} {p : Nat} (h : yMD I J s) (hf : yfm I J I' J') : yMD I' J' (p, s.2.1, s.2.2.1, s.2.2.2.1, s.2.2.2.2.1, s.2.2.2.2.2.1, s.2.2.2.2.2.2.1, s.2.2.2.2.2.2.2.1, s.2.2.2.2.2.2.2.2.1, s.2.2.2.2.2.2.2.2.2.1, s.2.2.2.2.2.2.2.2.2.2.1, s.2.2.2.2.2.2.2.2.2.2.2.1, s.2.2.2.2.2.2.2.2.2.2.2.2.1, s.2.2.2.2.2.2.2.2.2.2.2.2.2.1, s.2.2.2.2.2.2.2.2.2.2.2.2.2.2) := by
  have r : ∀ a, a ≠ 91 → I' a = I a := fun a ha => zfr_row hf.1 a (fun k => by simp [yTm, ha])
  obtain ⟨h1, h2, h3, h4, h5⟩ := h
  unfold yMD yMk yNb yBm
  rw [r 103 (by decide), r 104 (by decide), r 105 (by decide), r 106 (by decide), r 94 (by decide), r 95 (by decide), r 96 (by decide), hf.2 93 (by decide), hf.1 91 34 rfl, hf.1 91 35 rfl, hf.1 91 36 rfl, hf.1 91 37 rfl, hf.1 91 38 rfl, hf.1 91 39 rfl, hf.1 91 40 rfl, hf.1 91 21 rfl, hf.1 91 2 rfl, hf.1 91 3 rfl]
  exact ⟨h1, h2, h3, h4, h5⟩
def yML (P : Nat → Nat → Option Nat) (B : Nat → Nat) (n : Nat) (I : Nat → Nat → Int32) (J : Nat → Nat → Int64) (res : Option zSt) (r : yRs yPs) : Prop := match r with
  | .error (c, pl) => ∃ I' J', res = some (zs I' J' P) ∧ yEL P I J (zs I' J' P) c pl ∧ (¬ I' 91 2 = 0 ∧ ¬ I' 91 2 ≤ 0)
  | .ok s' => ∃ I' J', res = some (zs I' J' P) ∧ yfL' I J I' J' ∧ yMq I' J' B n s'.1 ∧ yMD I' J' s'
theorem yML_fr {P : Nat → Nat → Option Nat} {B : Nat → Nat} {n : Nat} {I I' : Nat → Nat → Int32} {J J' : Nat → Nat → Int64} {res : Option zSt} {r : yRs yPs} (hf : yfL' I J I' J') (h : yML P B n I' J' res r) : yML P B n I J res r := by
  cases r with
  | error cp_ =>
    obtain ⟨c, pl⟩ := cp_
    obtain ⟨I2, J2, e1, e2, e3⟩ := h
    exact ⟨I2, J2, e1, yEL_fr hf e2, e3⟩
  | ok r =>
    obtain ⟨I2, J2, e1, e2, e3⟩ := h
    exact ⟨I2, J2, e1, yfL'_trans hf e2, e3⟩
section ZML
variable {I : Nat → Nat → Int32} {J : Nat → Nat → Int64} {t u i f s x : Nat} {B : Nat → Nat} {n : Nat} {ps : yPs}
theorem sk_196 (h : ¬ I 91 2 = 0) : f_M_readLine_196 (zs I J (zPt t u i f s x)) 91 = some (zs I J (zPt t u i f s x)) := by
  rw [f_M_readLine_196, gi_12, zbs, if_neg h, f_M_readLine_217, gi_12, zbs, if_neg h]
/-- the end of a line -/
theorem m_fin (hq : yMq I J B n ps.1) (hd : yMD I J ps) : yML (zPt t u i f s x) B n I J (f_M_readLine_196 (zs I J (zPt t u i f s x)) 91) (yfin (ytok B n) ps) := by
  have h0 := hd.1.2.2.2.2.2.2.2.2.1
  have s59 : (I 91 6 = 59) = ((ytok B n ps.1).1 = 59) := yso_s hq (by decide) (by decide)
  unfold yfin ytake
  by_cases h : (ytok B n ps.1).1 = 59
  · rw [if_pos h]
    obtain ⟨I', J', e1, e2, e3⟩ := m_tok (t := t) (u := u) (i := i) (f := f) (s := s) (x := x) hq (by omega)
    refine ⟨I', J', ?_, yfL'_m e2, e3, yMD_fm hd e2⟩
    rw [f_M_readLine_196, gi_12, zbs, if_pos h0, gi_12, zbs, if_pos (by rw [s59]; exact h), f_M_readLine_217, gi_12, zbs, if_pos h0, e1, zbs]
  · rw [if_neg h]
    obtain ⟨I', c, pl, e1, e2, e3, e4⟩ := m_ref (α := Nat) (t := t) (u := u) (i := i) (f := f) (s := s) (x := x) hq h0 hd.2.2.2.2
    rw [e2]
    refine ⟨I', J, ?_, yEL_M e3, e4⟩
    rw [f_M_readLine_196, gi_12, zbs, if_pos h0, gi_12, zbs, if_neg (by rw [s59]; exact h), e1, zbs, f_M_readLine_217, gi_12, zbs, if_neg e4.1]
theorem m_topicLine (hq : yMq I J B n ps.1) (hi : yPi n ps) (hd : yMD I J ps) (hk : ¬ (ytok B n ps.1).1 = 1) (hl : ps.2.1.length < 4) : yML (zPt t u i f s x) B n I J ((f_M_readTopic (zs I J (zPt t u i f s x)) 91).bind fun σ => f_M_readLine_196 σ 91) ((ynew (ytok B n) ps.2.1 (ytok B n ps.1).2.2.2.2).bd fun a => yfin (ytok B n) (a.2, ps.2.1 ++ [a.1], ps.2.2.1, ps.2.2.2.1, ps.2.2.2.2.1, ps.2.2.2.2.2.1, ps.2.2.2.2.2.2.1, ps.2.2.2.2.2.2.2.1, ps.2.2.2.2.2.2.2.2.1, ps.2.2.2.2.2.2.2.2.2.1, ps.2.2.2.2.2.2.2.2.2.2.1, ps.2.2.2.2.2.2.2.2.2.2.2.1, ps.2.2.2.2.2.2.2.2.2.2.2.2.1, ps.2.2.2.2.2.2.2.2.2.2.2.2.2.1, ps.2.2.2.2.2.2.2.2.2.2.2.2.2.2)) := by
  obtain ⟨⟨k34, k35, k36, k37, k38, k39, k40, k21, k2, k3⟩, ⟨r1, r2, r3, r4⟩, ⟨l1, l2⟩, ⟨m1, m2, m3⟩, hB⟩ := hd
  have hN := m_new (t := t) (u := u) (i := i) (f := f) (s := s) (x := x) (o := 0) (L := ps.2.1) (by omega) hi.2.2.2.2.1 m1 hi.2.2.2.2.2.2.2.2.2.2.2.2.2.2.2.2.2.2.1 hq hk k2 hB
  cases hx : ynew (ytok B n) ps.2.1 (ytok B n ps.1).2.2.2.2 with
  | error cp_ =>
    obtain ⟨c, pl⟩ := cp_
    rw [hx] at hN
    obtain ⟨I', J', b1, b2, b3⟩ := hN
    have b1 : f_M_newName (zs I J (zPt t u i f s x)) 91 0 (nI ps.2.1.length) = some (zs I' J' (zPt t u i f s x)) := b1
    refine ⟨I', J', ?_, yEL_M b2, b3⟩
    rw [f_M_readTopic, zg_12, gi_12, zbs, k34, b1, zbs, gi_12, zbs, if_neg b3.1, zbs, sk_196 b3.1]
  | ok a =>
    rw [hx] at hN
    obtain ⟨I', J', b1, b2, b3, b4, b5⟩ := hN
    have b1 : f_M_newName (zs I J (zPt t u i f s x)) 91 0 (nI ps.2.1.length) = some (zs I' J' (zPt t u i f s x)) := b1
    rw [Nat.zero_add] at b3
    have e34 : I' 91 34 = nI ps.2.1.length := (b2 91 34 rfl).trans k34
    have hr : ∀ a, a ≠ 91 → zup I' 91 34 (nI (ps.2.1.length + 1)) a = I a := fun a ha => (zup_ne _ _ _ ha).trans (zfr_row b2 a (fun k => by simp [yTm, ha]))
    have hz : ∀ k, k ≠ 34 → k ≠ 4 → k ≠ 6 → k ≠ 7 → k ≠ 8 → zup I' 91 34 (nI (ps.2.1.length + 1)) 91 k = I 91 k := fun k g1 g2 g3 g4 g5 => (zup_k _ _ g1).trans (b2 91 k (by simp [yTm, g2, g3, g4, g5]))
    have f1 : yfL' I J (zup I' 91 34 (nI (ps.2.1.length + 1))) J' := ⟨zfr_up (zfr_mono b2 yTm_LF) rfl, b4⟩
    refine yML_fr f1 ?_
    have hres : ((f_M_readTopic (zs I J (zPt t u i f s x)) 91).bind fun σ => f_M_readLine_196 σ 91) = f_M_readLine_196 (zs (zup I' 91 34 (nI (ps.2.1.length + 1))) J' (zPt t u i f s x)) 91 := by
      rw [f_M_readTopic, zg_12, gi_12, zbs, k34, b1, zbs, gi_12, zbs, b2 91 2 rfl, if_pos k2, gi_12, zbs, e34, znI_add1, si_12, zbs, zbs]
    rw [hres]
    refine m_fin (ps := (a.2, ps.2.1 ++ [a.1], ps.2.2.1, ps.2.2.2.1, ps.2.2.2.2.1, ps.2.2.2.2.2.1, ps.2.2.2.2.2.2.1, ps.2.2.2.2.2.2.2.1, ps.2.2.2.2.2.2.2.2.1, ps.2.2.2.2.2.2.2.2.2.1, ps.2.2.2.2.2.2.2.2.2.2.1, ps.2.2.2.2.2.2.2.2.2.2.2.1, ps.2.2.2.2.2.2.2.2.2.2.2.2.1, ps.2.2.2.2.2.2.2.2.2.2.2.2.2.1, ps.2.2.2.2.2.2.2.2.2.2.2.2.2.2)) (yMq_fr b5 (zup_ne _ _ _ (by decide)) (fun k g1 g2 => zup_k _ _ (by omega)) rfl) ?_
    unfold yMD yMk yBm
    rw [hr 103 (by decide), hr 104 (by decide), hr 105 (by decide), hr 106 (by decide), hr 94 (by decide), hr 95 (by decide), hr 96 (by decide), hz 35 (by decide) (by decide) (by decide) (by decide) (by decide), hz 36 (by decide) (by decide) (by decide) (by decide) (by decide), hz 37 (by decide) (by decide) (by decide) (by decide) (by decide), hz 38 (by decide) (by decide) (by decide) (by decide) (by decide), hz 39 (by decide) (by decide) (by decide) (by decide) (by decide), hz 40 (by decide) (by decide) (by decide) (by decide) (by decide), hz 21 (by decide) (by decide) (by decide) (by decide) (by decide), hz 2 (by decide) (by decide) (by decide) (by decide) (by decide), hz 3 (by decide) (by decide) (by decide) (by decide) (by decide)]
    refine ⟨⟨?_, k35, k36, k37, k38, k39, k40, k21, k2, k3⟩, ⟨r1, r2, r3, r4⟩, ⟨l1, l2⟩, ⟨?_, ?_, ?_⟩, hB⟩
    · rw [zup_s]; simp
    · have := yNb_snoc (w := a.1) m1
      unfold yNb at this ⊢
      rw [b3]
      rw [Nat.zero_add] at this
      exact this
    · have := yNb_ne (k := ps.2.1.length) (v := nJ (ybs 256 a.1)) m2 (Or.inl hl)
      unfold yNb at this ⊢
      rw [b3]
      exact this
    · have := yNb_ne (k := ps.2.1.length) (v := nJ (ybs 256 a.1)) m3 (Or.inl (by omega))
      unfold yNb at this ⊢
      rw [b3]
      exact this
end ZML
