/-! the reference reads a text: lines -/
section ZMl
variable {I : Nat → Nat → Int32} {J : Nat → Nat → Int64} {t u i f s x : Nat} {B : Nat → Nat} {n : Nat} {ps : yPs}
theorem m_bookLine (hq : yMq I J B n ps.1) (hi : yPi n ps) (hp : yPz ps) (hd : yMD I J ps) (hk : ¬ (ytok B n ps.1).1 = 1) (hl : ps.2.2.1.length < 10) : yML (zPt t u i f s x) B n I J ((f_M_readBook (zs I J (zPt t u i f s x)) 91).bind fun σ => f_M_readLine_196 σ 91) ((ynew (ytok B n) ps.2.2.1 (ytok B n ps.1).2.2.2.2).bd fun a => (ybl (ytok B n) ps.2.1 ps.2.2.1.length 5 0 ps.2.2.2.2.1 a.2).bd fun v => yfin (ytok B n) (v.2, ps.2.1, ps.2.2.1 ++ [a.1], ps.2.2.2.1, v.1, ps.2.2.2.2.2.1, ps.2.2.2.2.2.2.1, ps.2.2.2.2.2.2.2.1, ps.2.2.2.2.2.2.2.2.1, ps.2.2.2.2.2.2.2.2.2.1, ps.2.2.2.2.2.2.2.2.2.2.1, ps.2.2.2.2.2.2.2.2.2.2.2.1, ps.2.2.2.2.2.2.2.2.2.2.2.2.1, ps.2.2.2.2.2.2.2.2.2.2.2.2.2.1, ps.2.2.2.2.2.2.2.2.2.2.2.2.2.2)) := by
  obtain ⟨⟨k34, k35, k36, k37, k38, k39, k40, k21, k2, k3⟩, ⟨r1, r2, r3, r4⟩, ⟨l1, l2⟩, ⟨m1, m2, m3⟩, hB⟩ := hd
  have hnd := hi.2.2.2.2.2.2.2.2.2.2.2.2.2.2.2.2.2.2
  have hN := m_new (t := t) (u := u) (i := i) (f := f) (s := s) (x := x) (o := 4) (L := ps.2.2.1) (by omega) hi.2.2.2.2.2.1 m2 hnd.2.1 hq hk k2 hB
  cases hx : ynew (ytok B n) ps.2.2.1 (ytok B n ps.1).2.2.2.2 with
  | error cp_ =>
    obtain ⟨c, pl⟩ := cp_
    rw [hx] at hN
    obtain ⟨I1, J1, b1, b2, b3⟩ := hN
    have b1 : f_M_newName (zs I J (zPt t u i f s x)) 91 4 (nI ps.2.2.1.length) = some (zs I1 J1 (zPt t u i f s x)) := b1
    have e35 : I1 91 35 = nI ps.2.2.1.length := (yEM_row b2 91 35 rfl).trans k35
    obtain ⟨I2, c1, c2, c3, c4⟩ := m_zero (J := J1) (t := t) (u := u) (i := i) (f := f) (s := s) (x := x) hl 4 0 zfu (by decide) (zfu_lt (by decide)) I1 e35
    have c1 : f_M_readBook_11L zfu (zs I1 J1 (zPt t u i f s x)) 91 0 = f_M_readBook_38L zfu (zs I2 J1 (zPt t u i f s x)) 91 0 := c1
    have g2 : I2 91 2 = I1 91 2 := c2 91 2 rfl
    have sk : f_M_readBook_38L zfu (zs I2 J1 (zPt t u i f s x)) 91 0 = some (zs I2 J1 (zPt t u i f s x)) := sk_book (m := 3999) (by rw [g2]; exact b3.1)
    refine ⟨I2, J1, ?_, yEL_more (yEL_M b2) (zfr_mono c2 (fun a k h => by simp at h; simp [yLF, h.1])) g2 (c2 91 3 rfl) (zfr_row c2 96 (fun _ => rfl)), by rw [g2]; exact b3⟩
    rw [f_M_readBook, zg_12, gi_12, zbs, k35, b1, zbs, c1, sk, zbs, sk_196 (by rw [g2]; exact b3.1)]
  | ok a =>
    rw [hx] at hN
    obtain ⟨I1, J1, b1, b2, b3, b4, b5⟩ := hN
    have b1 : f_M_newName (zs I J (zPt t u i f s x)) 91 4 (nI ps.2.2.1.length) = some (zs I1 J1 (zPt t u i f s x)) := b1
    have e35 : I1 91 35 = nI ps.2.2.1.length := (b2 91 35 rfl).trans k35
    obtain ⟨I2, c1, c2, c3, c4⟩ := m_zero (J := J1) (t := t) (u := u) (i := i) (f := f) (s := s) (x := x) hl 4 0 zfu (by decide) (zfu_lt (by decide)) I1 e35
    have c1 : f_M_readBook_11L zfu (zs I1 J1 (zPt t u i f s x)) 91 0 = f_M_readBook_38L zfu (zs I2 J1 (zPt t u i f s x)) 91 0 := c1
    have z91 : ∀ k, I2 91 k = I1 91 k := fun k => c2 91 k rfl
    have f2 : yfL' I J I2 J1 := ⟨zfr_trans (zfr_mono b2 yTm_LF) (zfr_mono c2 (fun a k h => by simp at h; simp [yLF, h.1])), b4⟩
    have hN2 : yNb J1 0 ps.2.1 := by
      have := yNb_ne (k := 4 + ps.2.2.1.length) (v := nJ (ybs 256 a.1)) m1 (Or.inr (by have := hi.2.1; omega))
      unfold yNb at this ⊢
      rw [b3]
      exact this
    have hB2 : yBm I2 := fun f hf => by rw [zfr_row c2 96 (fun _ => rfl), zfr_row b2 96 (fun _ => rfl)]; exact hB f hf
    have L := m_bookLoop (t := t) (u := u) (i := i) (f := f) (s := s) (x := x) (B := B) (n := n) hl hi.2.1 hi.2.2.2.2.1 hnd.1 5 0 zfu (by decide) (zfu_lt (by decide)) I2 J1 ps.2.2.2.2.1 a.2 (by decide) (yMq_fr b5 (zfr_row c2 92 (fun _ => rfl)) (fun k _ _ => z91 k) rfl) (by rw [z91, b2 91 2 rfl]; exact k2) hB2 (by rw [z91, b2 91 34 rfl]; exact k34) (by rw [z91]; exact e35) hN2 (fun k hk => by rw [c3 k (Nat.zero_le _) hk, hp.1 _ (by omega)])
    simp only [yRs.bd]
    cases hy : ybl (ytok B n) ps.2.1 ps.2.2.1.length 5 0 ps.2.2.2.2.1 a.2 with
    | error cp_ =>
      obtain ⟨c, pl⟩ := cp_
      rw [hy] at L
      obtain ⟨I3, J3, d1, d2, d3⟩ := L
      have d1 : f_M_readBook_38L zfu (zs I2 J1 (zPt t u i f s x)) 91 0 = some (zs I3 J3 (zPt t u i f s x)) := d1
      refine ⟨I3, J3, ?_, yEL_fr f2 d2, d3⟩
      rw [f_M_readBook, zg_12, gi_12, zbs, k35, b1, zbs, c1, d1, zbs, sk_196 d3.1]
    | ok v =>
      rw [hy] at L
      obtain ⟨I3, J3, d1, d2, d3, d4, d5, d6, d7⟩ := L
      have d1 : f_M_readBook_38L zfu (zs I2 J1 (zPt t u i f s x)) 91 0 = some (zs I3 J3 (zPt t u i f s x)) := d1
      refine yML_fr (yfL'_trans f2 ⟨zfr_mono d2 yBF_LF, fun a h _ => d3 a h⟩) ?_
      have hres : ((f_M_readBook (zs I J (zPt t u i f s x)) 91).bind fun σ => f_M_readLine_196 σ 91) = f_M_readLine_196 (zs I3 J3 (zPt t u i f s x)) 91 := by
        rw [f_M_readBook, zg_12, gi_12, zbs, k35, b1, zbs, c1, d1, zbs]
      rw [hres]
      have hz : ∀ k, k ≠ 2 → k ≠ 3 → k ≠ 4 → k ≠ 6 → k ≠ 7 → k ≠ 8 → k ≠ 35 → I3 91 k = I 91 k := fun k g1 g2 g3 g4 g5 g6 g7 => (d2 91 k (by simp [yBF, g1, g2, g3, g4, g5, g6, g7])).trans ((z91 k).trans (b2 91 k (by simp [yTm, g3, g4, g5, g6])))
      have hr : ∀ b, b ≠ 91 → b ≠ 103 → I3 b = I b := fun b g1 g2 => (zfr_row d2 b (fun k => by simp [yBF, g1, g2])).trans ((zfr_row c2 b (fun k => by simp [g2])).trans (zfr_row b2 b (fun k => by simp [yTm, g1])))
      have j93 : J3 93 = zup J 93 (4 + ps.2.2.1.length) (nJ (ybs 256 a.1)) 93 := (d3 93 (by decide)).trans b3
      refine m_fin (ps := (v.2, ps.2.1, ps.2.2.1 ++ [a.1], ps.2.2.2.1, v.1, ps.2.2.2.2.2.1, ps.2.2.2.2.2.2.1, ps.2.2.2.2.2.2.2.1, ps.2.2.2.2.2.2.2.2.1, ps.2.2.2.2.2.2.2.2.2.1, ps.2.2.2.2.2.2.2.2.2.2.1, ps.2.2.2.2.2.2.2.2.2.2.2.1, ps.2.2.2.2.2.2.2.2.2.2.2.2.1, ps.2.2.2.2.2.2.2.2.2.2.2.2.2.1, ps.2.2.2.2.2.2.2.2.2.2.2.2.2.2)) d7 ?_
      unfold yMD yMk yBm
      rw [hr 104 (by decide) (by decide), hr 105 (by decide) (by decide), hr 106 (by decide) (by decide), hr 94 (by decide) (by decide), hr 95 (by decide) (by decide), hr 96 (by decide) (by decide), hz 34 (by decide) (by decide) (by decide) (by decide) (by decide) (by decide) (by decide), hz 36 (by decide) (by decide) (by decide) (by decide) (by decide) (by decide) (by decide), hz 37 (by decide) (by decide) (by decide) (by decide) (by decide) (by decide) (by decide), hz 38 (by decide) (by decide) (by decide) (by decide) (by decide) (by decide) (by decide), hz 39 (by decide) (by decide) (by decide) (by decide) (by decide) (by decide) (by decide), hz 40 (by decide) (by decide) (by decide) (by decide) (by decide) (by decide) (by decide), hz 21 (by decide) (by decide) (by decide) (by decide) (by decide) (by decide) (by decide)]
      refine ⟨⟨k34, ?_, k36, k37, k38, k39, k40, k21, d4.2.1, ?_⟩, ⟨fun k hk => ?_, r2, r3, r4⟩, ⟨l1, l2⟩, ⟨?_, ?_, ?_⟩, hB⟩
      · rw [d4.1]; simp
      · rw [d4.2.2, z91, b2 91 3 rfl]; exact k3
      · simp only [List.length_append, List.length_cons, List.length_nil] at hk
        by_cases hkb : k < 4 * ps.2.2.1.length
        · show I3 103 k = v.1 k
          rw [d6 k (Or.inl hkb), d2 103 k (by simp [yBF]; omega), c2 103 k (by simp; omega), b2 103 k rfl]
          exact r1 k hkb
        · have := d5 (k - 4 * ps.2.2.1.length) (by omega)
          rw [show 4 * ps.2.2.1.length + (k - 4 * ps.2.2.1.length) = k by omega] at this
          exact this
      · have := yNb_ne (k := 4 + ps.2.2.1.length) (v := nJ (ybs 256 a.1)) m1 (Or.inr (by have := hi.2.1; omega))
        unfold yNb at this ⊢
        rw [j93]
        exact this
      · have := yNb_snoc (w := a.1) m2
        unfold yNb at this ⊢
        rw [j93]
        exact this
      · have := yNb_ne (k := 4 + ps.2.2.1.length) (v := nJ (ybs 256 a.1)) m3 (Or.inl (by omega))
        unfold yNb at this ⊢
        rw [j93]
        exact this
theorem m_told {k lo hi p : Nat} {c : Int64} (hk : k < 23) (hc : c = nJ (ybs 256 (yWL.getD k []))) (hlo : lo ≤ 100) (hhi : hi ≤ 100) (hq : yMq I J B n p) (h0 : I 91 2 = 0) (hB : yBm I) : match (ytake (ytok B n) (4 + k) p).bd fun p2 => ynum (ytok B n) lo hi p2 with
    | .error (e, pl) => ∃ v I' J', f_M_told (zs I J (zPt t u i f s x)) 91 c (nI lo) (nI hi) = some (v, (zs I' J' (zPt t u i f s x))) ∧ yEM (zPt t u i f s x) I J (zs I' J' (zPt t u i f s x)) e pl ∧ (¬ I' 91 2 = 0 ∧ ¬ I' 91 2 ≤ 0)
    | .ok a => ∃ I' J', f_M_told (zs I J (zPt t u i f s x)) 91 c (nI lo) (nI hi) = some (nI a.1, (zs I' J' (zPt t u i f s x))) ∧ yfm I J I' J' ∧ yMq I' J' B n a.2 := by
  have hT := m_tak (t := t) (u := u) (i := i) (f := f) (s := s) (x := x) hk hc hq h0 hB
  cases hx : ytake (ytok B n) (4 + k) p with
  | error cp_ =>
    obtain ⟨e, pl⟩ := cp_
    rw [hx] at hT
    obtain ⟨I', J', e1, e2, e3⟩ := hT
    refine ⟨0, I', J', ?_, e2, e3⟩
    rw [f_M_told, zg_12, e1, zbs, sk_num e3.2, zbs]
  | ok p2 =>
    rw [hx] at hT
    obtain ⟨I1, J1, a1, a2, a3⟩ := hT
    have hn := m_num (t := t) (u := u) (i := i) (f := f) (s := s) (x := x) hlo hhi a3 ((a2.1 91 2 rfl).trans h0) (yBm_fm hB a2)
    simp only [yRs.bd]
    cases hy : ynum (ytok B n) lo hi p2 with
    | error cp_ =>
      obtain ⟨e, pl⟩ := cp_
      rw [hy] at hn
      obtain ⟨v, I', J', e1, e2, e3⟩ := hn
      refine ⟨v, I', J', ?_, yEM_fr (yfM_fm a2) e2, e3⟩
      rw [f_M_told, zg_12, a1, zbs, e1, zbs]
    | ok v =>
      rw [hy] at hn
      obtain ⟨I', J', e1, e2, e3⟩ := hn
      refine ⟨I', J', ?_, yfm_trans a2 e2, e3⟩
      rw [f_M_told, zg_12, a1, zbs, e1, zbs]
/-- a reader's rows, behind a fault -/
theorem sk_rtail {b : Nat} {v : Int32} (hb : b < 6) (h36 : I 91 36 = nI b) (h : ¬ I 91 2 = 0) : ∃ I', f_M_readReader_31L zfu (zs (zup I 106 b v) J (zPt t u i f s x)) 91 0 = some (zs I' J (zPt t u i f s x)) ∧ zfr yLF I I' ∧ I' 91 2 = I 91 2 ∧ I' 91 3 = I 91 3 ∧ I' 96 = I 96 := by
  have e36 : zup I 106 b v 91 36 = nI b := by rw [zup_ne _ _ _ (by decide)]; exact h36
  obtain ⟨I2, c1, c2, c3, c4⟩ := m_zero2 (I := zup I 106 b v) (J := J) (t := t) (u := u) (i := i) (f := f) (s := s) (x := x) hb 4 0 zfu (by decide) (zfu_lt (by decide)) e36
  have c1 : f_M_readReader_31L zfu (zs (zup I 106 b v) J (zPt t u i f s x)) 91 0 = f_M_readReader_74L zfu (zs I2 J (zPt t u i f s x)) 91 0 0 := c1
  have g : ∀ k, I2 91 k = I 91 k := fun k => (c2 91 k rfl).trans (by rw [zup_ne _ _ _ (by decide)])
  refine ⟨I2, ?_, zfr_trans (zfr_up (zfr_refl _ _) rfl) (zfr_mono c2 (fun a k h => by simp at h; rcases h.1 with rfl | rfl <;> rfl)), g 2, g 3, (zfr_row c2 96 (fun _ => rfl)).trans (zup_ne _ _ _ (by decide))⟩
  rw [c1]
  exact sk_reader (m := 3999) (by rw [g]; exact h)
theorem m_readerLine (hq : yMq I J B n ps.1) (hi : yPi n ps) (hp : yPz ps) (hd : yMD I J ps) (hk : ¬ (ytok B n ps.1).1 = 1) (hl : ps.2.2.2.1.length < 6) : yML (zPt t u i f s x) B n I J ((f_M_readReader (zs I J (zPt t u i f s x)) 91).bind fun σ => f_M_readLine_196 σ 91) ((ynew (ytok B n) ps.2.2.2.1 (ytok B n ps.1).2.2.2.2).bd fun a => (ytake (ytok B n) 12 a.2).bd fun p2 => (ynum (ytok B n) 0 100 p2).bd fun o => (yrl (ytok B n) ps.2.1 ps.2.2.2.1.length 9 0 0 ps.2.2.2.2.2.1 ps.2.2.2.2.2.2.1 o.2).bd fun v => yfin (ytok B n) (v.2.2, ps.2.1, ps.2.2.1, ps.2.2.2.1 ++ [a.1], ps.2.2.2.2.1, v.1, v.2.1, va_up ps.2.2.2.2.2.2.2.1 ps.2.2.2.1.length (nI o.1), ps.2.2.2.2.2.2.2.2.1, ps.2.2.2.2.2.2.2.2.2.1, ps.2.2.2.2.2.2.2.2.2.2.1, ps.2.2.2.2.2.2.2.2.2.2.2.1, ps.2.2.2.2.2.2.2.2.2.2.2.2.1, ps.2.2.2.2.2.2.2.2.2.2.2.2.2.1, ps.2.2.2.2.2.2.2.2.2.2.2.2.2.2)) := by
  obtain ⟨⟨k34, k35, k36, k37, k38, k39, k40, k21, k2, k3⟩, ⟨r1, r2, r3, r4⟩, ⟨l1, l2⟩, ⟨m1, m2, m3⟩, hB⟩ := hd
  have hnd := hi.2.2.2.2.2.2.2.2.2.2.2.2.2.2.2.2.2.2
  have hN := m_new (t := t) (u := u) (i := i) (f := f) (s := s) (x := x) (o := 14) (L := ps.2.2.2.1) (by omega) hi.2.2.2.2.2.2.1 m3 hnd.2.2 hq hk k2 hB
  cases hx : ynew (ytok B n) ps.2.2.2.1 (ytok B n ps.1).2.2.2.2 with
  | error cp_ =>
    obtain ⟨c, pl⟩ := cp_
    rw [hx] at hN
    obtain ⟨I1, J1, b1, b2, b3⟩ := hN
    have b1 : f_M_newName (zs I J (zPt t u i f s x)) 91 14 (nI ps.2.2.2.1.length) = some (zs I1 J1 (zPt t u i f s x)) := b1
    have e36 : I1 91 36 = nI ps.2.2.2.1.length := (yEM_row b2 91 36 rfl).trans k36
    have st : f_M_told (zs I1 J1 (zPt t u i f s x)) 91 1868850291 0 100 = some (0, (zs I1 J1 (zPt t u i f s x))) := by rw [f_M_told, zg_12, sk_want b3.2, zbs, sk_num b3.2, zbs]
    obtain ⟨I2, c1, c2, c3, c4, c5⟩ := sk_rtail (J := J1) (t := t) (u := u) (i := i) (f := f) (s := s) (x := x) (v := 0) hl e36 b3.1
    refine ⟨I2, J1, ?_, yEL_more (yEL_M b2) c2 c3 c4 c5, by rw [c3]; exact b3⟩
    rw [f_M_readReader, zg_12, gi_12, zbs, k36, b1, zbs, gp_12_29, zbs, gi_12, zbs, e36, st, zbs, wi_106 hl, zbs, c1, zbs, sk_196 (by rw [c3]; exact b3.1)]
  | ok a =>
    rw [hx] at hN
    obtain ⟨I1, J1, b1, b2, b3, b4, b5⟩ := hN
    have b1 : f_M_newName (zs I J (zPt t u i f s x)) 91 14 (nI ps.2.2.2.1.length) = some (zs I1 J1 (zPt t u i f s x)) := b1
    have e36 : I1 91 36 = nI ps.2.2.2.1.length := (b2 91 36 rfl).trans k36
    have f1 : yfL' I J I1 J1 := ⟨zfr_mono b2 yTm_LF, b4⟩
    have hB1 : yBm I1 := fun f hf => by rw [zfr_row b2 96 (fun _ => rfl)]; exact hB f hf
    have hT := m_told (t := t) (u := u) (i := i) (f := f) (s := s) (x := x) (k := 8) (lo := 0) (hi := 100) (c := 1868850291) (by decide) (by decide) (by decide) (by decide) b5 ((b2 91 2 rfl).trans k2) hB1
    simp only [yRs.bd]
    rw [show ytake (ytok B n) 12 a.2 = ytake (ytok B n) (4 + 8) a.2 from rfl]
    -- the tail, where a number was wanted and not told
    have bad : ∀ (v : Int32) (I' : Nat → Nat → Int32) (J' : Nat → Nat → Int64) (c pl : Nat), f_M_told (zs I1 J1 (zPt t u i f s x)) 91 1868850291 0 100 = some (v, (zs I' J' (zPt t u i f s x))) → yEM (zPt t u i f s x) I1 J1 (zs I' J' (zPt t u i f s x)) c pl → (¬ I' 91 2 = 0 ∧ ¬ I' 91 2 ≤ 0) → yML (zPt t u i f s x) B n I J ((f_M_readReader (zs I J (zPt t u i f s x)) 91).bind fun σ => f_M_readLine_196 σ 91) (.error (c, pl)) := by
      intro v I' J' c pl g1 g2 g3
      obtain ⟨I2, c1, c2, c3, c4, c5⟩ := sk_rtail (J := J') (t := t) (u := u) (i := i) (f := f) (s := s) (x := x) (v := v) hl ((yEM_row g2 91 36 rfl).trans e36) g3.1
      refine ⟨I2, J', ?_, yEL_more (yEL_fr f1 (yEL_M g2)) c2 c3 c4 c5, by rw [c3]; exact g3⟩
      rw [f_M_readReader, zg_12, gi_12, zbs, k36, b1, zbs, gp_12_29, zbs, gi_12, zbs, e36, g1, zbs, wi_106 hl, zbs, c1, zbs, sk_196 (by rw [c3]; exact g3.1)]
    cases hy : ytake (ytok B n) (4 + 8) a.2 with
    | error cp_ =>
      obtain ⟨c, pl⟩ := cp_
      rw [hy] at hT
      obtain ⟨v, I', J', g1, g2, g3⟩ := hT
      exact bad v I' J' c pl g1 g2 g3
    | ok p2 =>
      rw [hy] at hT
      simp only [yRs.bd] at hT ⊢
      cases hz : ynum (ytok B n) 0 100 p2 with
      | error cp_ =>
        obtain ⟨c, pl⟩ := cp_
        rw [hz] at hT
        obtain ⟨v, I', J', g1, g2, g3⟩ := hT
        exact bad v I' J' c pl g1 g2 g3
      | ok o =>
        rw [hz] at hT
        obtain ⟨I2, J2, g1, g2, g3⟩ := hT
        have g1 : f_M_told (zs I1 J1 (zPt t u i f s x)) 91 1868850291 0 100 = some (nI o.1, (zs I2 J2 (zPt t u i f s x))) := g1
        have ftm : zfr yTm I I2 := zfr_trans b2 g2.1
        have e36b : zup I2 106 ps.2.2.2.1.length (nI o.1) 91 36 = nI ps.2.2.2.1.length := by rw [zup_ne _ _ _ (by decide), g2.1 91 36 rfl]; exact e36
        obtain ⟨I3, c1, c2, c3, c4⟩ := m_zero2 (I := zup I2 106 ps.2.2.2.1.length (nI o.1)) (J := J2) (t := t) (u := u) (i := i) (f := f) (s := s) (x := x) hl 4 0 zfu (by decide) (zfu_lt (by decide)) e36b
        have c1 : f_M_readReader_31L zfu (zs (zup I2 106 ps.2.2.2.1.length (nI o.1)) J2 (zPt t u i f s x)) 91 0 = f_M_readReader_74L zfu (zs I3 J2 (zPt t u i f s x)) 91 0 0 := c1
        have z91 : ∀ k, I3 91 k = I2 91 k := fun k => (c2 91 k rfl).trans (by rw [zup_ne _ _ _ (by decide)])
        have f3 : yfL' I J I3 J2 := ⟨zfr_trans (zfr_up (zfr_mono ftm yTm_LF) rfl) (zfr_mono c2 (fun a k h => by simp at h; rcases h.1 with rfl | rfl <;> rfl)), fun a h1 h2 => (g2.2 a h1).trans (b4 a h1 h2)⟩
        have j93 : J2 93 = zup J 93 (14 + ps.2.2.2.1.length) (nJ (ybs 256 a.1)) 93 := (g2.2 93 (by decide)).trans b3
        have hN2 : yNb J2 0 ps.2.1 := by
          have := yNb_ne (k := 14 + ps.2.2.2.1.length) (v := nJ (ybs 256 a.1)) m1 (Or.inr (by have := hi.2.1; omega))
          unfold yNb at this ⊢
          rw [j93]
          exact this
        have hB3 : yBm I3 := fun f hf => by rw [zfr_row c2 96 (fun _ => rfl), zup_ne _ _ _ (by decide), zfr_row ftm 96 (fun _ => rfl)]; exact hB f hf
        have L := m_readerLoop (t := t) (u := u) (i := i) (f := f) (s := s) (x := x) (B := B) (n := n) hl hi.2.1 hi.2.2.2.2.1 hnd.1 9 0 0 zfu (by decide) (zfu_lt (by decide)) I3 J2 ps.2.2.2.2.2.1 ps.2.2.2.2.2.2.1 o.2 (by decide) (by decide) (yMq_fr g3 ((zfr_row c2 92 (fun _ => rfl)).trans (zup_ne _ _ _ (by decide))) (fun k _ _ => z91 k) rfl) (by rw [z91, ftm 91 2 rfl]; exact k2) hB3 (by rw [z91, ftm 91 34 rfl]; exact k34) (by rw [z91, ftm 91 36 rfl]; exact k36) hN2 (fun k hk => by rw [(c3 k (Nat.zero_le _) hk).1, (hp.2 _ (by omega)).1]) (fun k hk => by rw [(c3 k (Nat.zero_le _) hk).2, (hp.2 _ (by omega)).2])
        have hpre : (f_M_readReader (zs I J (zPt t u i f s x)) 91) = f_M_readReader_74L zfu (zs I3 J2 (zPt t u i f s x)) 91 0 0 := by
          rw [f_M_readReader, zg_12, gi_12, zbs, k36, b1, zbs, gp_12_29, zbs, gi_12, zbs, e36, g1, zbs, wi_106 hl, zbs, c1]
        rw [hpre]
        simp only
        cases hw : yrl (ytok B n) ps.2.1 ps.2.2.2.1.length 9 0 0 ps.2.2.2.2.2.1 ps.2.2.2.2.2.2.1 o.2 with
        | error cp_ =>
          obtain ⟨c, pl⟩ := cp_
          rw [hw] at L
          obtain ⟨I4, J4, d1, d2, d3⟩ := L
          have d1 : f_M_readReader_74L zfu (zs I3 J2 (zPt t u i f s x)) 91 0 0 = some (zs I4 J4 (zPt t u i f s x)) := d1
          refine ⟨I4, J4, ?_, yEL_fr f3 d2, d3⟩
          rw [d1, zbs, sk_196 d3.1]
        | ok v =>
          rw [hw] at L
          obtain ⟨I4, J4, d1, d2, d3, d4, d5, d6, d7, d8⟩ := L
          have d1 : f_M_readReader_74L zfu (zs I3 J2 (zPt t u i f s x)) 91 0 0 = some (zs I4 J4 (zPt t u i f s x)) := d1
          refine yML_fr (yfL'_trans f3 ⟨zfr_mono d2 yRF_LF, fun a h _ => d3 a h⟩) ?_
          rw [d1, zbs]
          have hz : ∀ k, k ≠ 2 → k ≠ 3 → k ≠ 4 → k ≠ 6 → k ≠ 7 → k ≠ 8 → k ≠ 36 → I4 91 k = I 91 k := fun k g1 g2 g3 g4 g5 g6 g7 => (d2 91 k (by simp [yRF, g1, g2, g3, g4, g5, g6, g7])).trans ((z91 k).trans (ftm 91 k (by simp [yTm, g3, g4, g5, g6])))
          have hr : ∀ b, b ≠ 91 → b ≠ 104 → b ≠ 105 → b ≠ 106 → I4 b = I b := fun b h1 h2 h3 h4 => (zfr_row d2 b (fun k => by simp [yRF, h1, h2, h3, h4])).trans ((zfr_row c2 b (fun k => by simp [h2, h3])).trans ((zup_ne _ _ _ h4).trans (zfr_row ftm b (fun k => by simp [yTm, h1]))))
          have j93' : J4 93 = zup J 93 (14 + ps.2.2.2.1.length) (nJ (ybs 256 a.1)) 93 := (d3 93 (by decide)).trans j93
          refine m_fin (ps := (v.2.2, ps.2.1, ps.2.2.1, ps.2.2.2.1 ++ [a.1], ps.2.2.2.2.1, v.1, v.2.1, va_up ps.2.2.2.2.2.2.2.1 ps.2.2.2.1.length (nI o.1), ps.2.2.2.2.2.2.2.2.1, ps.2.2.2.2.2.2.2.2.2.1, ps.2.2.2.2.2.2.2.2.2.2.1, ps.2.2.2.2.2.2.2.2.2.2.2.1, ps.2.2.2.2.2.2.2.2.2.2.2.2.1, ps.2.2.2.2.2.2.2.2.2.2.2.2.2.1, ps.2.2.2.2.2.2.2.2.2.2.2.2.2.2)) d8 ?_
          unfold yMD yMk yBm
          rw [hr 103 (by decide) (by decide) (by decide) (by decide), hr 94 (by decide) (by decide) (by decide) (by decide), hr 95 (by decide) (by decide) (by decide) (by decide), hr 96 (by decide) (by decide) (by decide) (by decide), hz 34 (by decide) (by decide) (by decide) (by decide) (by decide) (by decide) (by decide), hz 35 (by decide) (by decide) (by decide) (by decide) (by decide) (by decide) (by decide), hz 37 (by decide) (by decide) (by decide) (by decide) (by decide) (by decide) (by decide), hz 38 (by decide) (by decide) (by decide) (by decide) (by decide) (by decide) (by decide), hz 39 (by decide) (by decide) (by decide) (by decide) (by decide) (by decide) (by decide), hz 40 (by decide) (by decide) (by decide) (by decide) (by decide) (by decide) (by decide), hz 21 (by decide) (by decide) (by decide) (by decide) (by decide) (by decide) (by decide)]
          have rowk : ∀ (r : Nat) (X Y : Nat → Int32), (r = 104 ∨ r = 105) → (∀ k, k < 4 * ps.2.2.2.1.length → I r k = X k) → (∀ k, k < 4 → I4 r (4 * ps.2.2.2.1.length + k) = Y (4 * ps.2.2.2.1.length + k)) → (∀ k, k < 4 * ps.2.2.2.1.length → Y k = X k) → ∀ k, k < 4 * (ps.2.2.2.1.length + 1) → I4 r k = Y k := by
            intro r X Y hr4 h1 h2 h3 k hk
            by_cases hkb : k < 4 * ps.2.2.2.1.length
            · have e1 : I4 r k = I3 r k := d2 r k (by rcases hr4 with rfl | rfl <;> simp [yRF] <;> omega)
              have e2 : I3 r k = zup I2 106 ps.2.2.2.1.length (nI o.1) r k := c2 r k (by rcases hr4 with rfl | rfl <;> simp <;> omega)
              have e3 : I2 r k = I r k := ftm r k (by rcases hr4 with rfl | rfl <;> rfl)
              rw [e1, e2, zup_ne _ _ _ (by rcases hr4 with rfl | rfl <;> decide), e3, h1 k hkb, h3 k hkb]
            · have := h2 (k - 4 * ps.2.2.2.1.length) (by omega)
              rw [show 4 * ps.2.2.2.1.length + (k - 4 * ps.2.2.2.1.length) = k by omega] at this
              exact this
          refine ⟨⟨k34, k35, ?_, k37, k38, k39, k40, k21, d4.2.1, ?_⟩, ⟨r1, fun k hk => ?_, fun k hk => ?_, fun k hk => ?_⟩, ⟨l1, l2⟩, ⟨?_, ?_, ?_⟩, hB⟩
          · rw [d4.1]; simp
          · rw [d4.2.2, z91, ftm 91 3 rfl]; exact k3
          · simp only [List.length_append, List.length_cons, List.length_nil] at hk
            exact rowk 104 ps.2.2.2.2.2.1 v.1 (Or.inl rfl) r2 d5 (fun k hk => (d7 k (Or.inl hk)).1) k (by omega)
          · simp only [List.length_append, List.length_cons, List.length_nil] at hk
            exact rowk 105 ps.2.2.2.2.2.2.1 v.2.1 (Or.inr rfl) r3 d6 (fun k hk => (d7 k (Or.inl hk)).2) k (by omega)
          · simp only [List.length_append, List.length_cons, List.length_nil] at hk
            show I4 106 k = va_up ps.2.2.2.2.2.2.2.1 ps.2.2.2.1.length (nI o.1) k
            have e1 : I4 106 k = I3 106 k := d2 106 k rfl
            have e2 : I3 106 k = zup I2 106 ps.2.2.2.1.length (nI o.1) 106 k := c2 106 k rfl
            rw [e1, e2, zup_at]
            unfold va_up
            by_cases e : k = ps.2.2.2.1.length
            · rw [if_pos e, if_pos e]
            · rw [if_neg e, if_neg e, ftm 106 k rfl]; exact r4 k (by omega)
          · have := yNb_ne (k := 14 + ps.2.2.2.1.length) (v := nJ (ybs 256 a.1)) m1 (Or.inr (by have := hi.2.1; omega))
            unfold yNb at this ⊢
            rw [j93']
            exact this
          · have := yNb_ne (k := 14 + ps.2.2.2.1.length) (v := nJ (ybs 256 a.1)) m2 (Or.inr (by have := hi.2.2.1; omega))
            unfold yNb at this ⊢
            rw [j93']
            exact this
          · have := yNb_snoc (w := a.1) m3
            unfold yNb at this ⊢
            rw [j93']
            exact this
end ZMl
