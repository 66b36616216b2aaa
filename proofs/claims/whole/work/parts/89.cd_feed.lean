/-! left; feed -/
theorem yand255 (w : Int32) : ∃ c, c < 256 ∧ w &&& 255 = nI c := by
  refine ⟨(w.toBitVec &&& 255#32).toNat, ?_, ?_⟩
  · rw [BitVec.toNat_and]
    exact Nat.lt_of_le_of_lt Nat.and_le_right (by decide)
  · apply Int32.toBitVec.inj
    unfold nI
    rw [Int32.toBitVec_and, Int32.toBitVec_ofNat', BitVec.ofNat_toNat, BitVec.setWidth_eq]
    rfl
theorem ysh255 (b : BitVec 32) {k : Nat} (hk : k ≤ 24) : (b >>> k) &&& 255#32 = (b.sshiftRight k) &&& 255#32 := by
  apply BitVec.eq_of_getLsbD_eq
  intro i hi
  rw [BitVec.getLsbD_and, BitVec.getLsbD_and, BitVec.getLsbD_ushiftRight, BitVec.getLsbD_sshiftRight]
  by_cases h8 : i < 8
  · rw [if_pos (by omega)]
    simp [show ¬ 32 ≤ i by omega]
  · have h : ∀ j, j < 32 → 8 ≤ j → (255#32).getLsbD j = false := by decide
    rw [h i hi (by omega), Bool.and_false, Bool.and_false]
theorem ybt_low (x : Int32) : (x &&& 255).toInt8 = x.toInt8 := by
  apply Int8.toBitVec.inj
  rw [Int32.toBitVec_toInt8, Int32.toBitVec_toInt8, Int32.toBitVec_and, BitVec.signExtend_eq_setWidth_of_le _ (by decide), BitVec.signExtend_eq_setWidth_of_le _ (by decide)]
  apply BitVec.eq_of_getLsbD_eq
  intro i hi
  have h : ∀ j, j < 8 → (255#32).getLsbD j = true := by decide
  rw [BitVec.getLsbD_setWidth, BitVec.getLsbD_setWidth, BitVec.getLsbD_and]
  show (decide (i < 8) && (x.toBitVec.getLsbD i && (255#32).getLsbD i)) = _
  rw [h i hi, Bool.and_true]
theorem ynarb (v : Int32) : vp_nar .byte v = v.toInt8.toInt32 := rfl
/-- a byte of a number, as both lay it on the tape -/
theorem ybyte (v : Int32) {s : Int32} (hs : s = 24 ∨ s = 16 ∨ s = 8 ∨ s = 0) : ∃ c, c < 256 ∧ (v >>> (s &&& 31)) &&& 255 = nI c ∧ vp_nar .byte (zbyt ((v.toUInt32 >>> (s.toUInt32 &&& Int32.toUInt32 31)).toInt32)) = yby c := by
  obtain ⟨c, h1, h2⟩ := yand255 (v >>> (s &&& 31))
  refine ⟨c, h1, h2, ?_⟩
  have key : ((v.toUInt32 >>> (s.toUInt32 &&& Int32.toUInt32 31)).toInt32) &&& 255 = (v >>> (s &&& 31)) &&& 255 := by
    apply Int32.toBitVec.inj
    rw [Int32.toBitVec_and, Int32.toBitVec_and]
    rcases hs with rfl | rfl | rfl | rfl
    · exact ysh255 v.toBitVec (k := 24) (by decide)
    · exact ysh255 v.toBitVec (k := 16) (by decide)
    · exact ysh255 v.toBitVec (k := 8) (by decide)
    · exact ysh255 v.toBitVec (k := 0) (by decide)
  unfold yby zbyt
  rw [ynarb, Int8.toInt8_toInt32, ← ybt_low, key, h2]
section ZFe
variable {I : Nat → Nat → Int32} {J : Nat → Nat → Int64} {t u i f s x : Nat} {nt nb nr q sh md om im : Nat} {LW BW : List Int32}
/-- a tape, in each of the two -/
def zTx (I : Nat → Nat → Int32) (n : Nat) (B : Nat → Nat) : Prop := I 0 1 = nI n ∧ ∀ k, k < n → I 1 k = yby (B k)
def zTm (I : Nat → Nat → Int32) (n : Nat) (B : Nat → Nat) : Prop := I 91 1 = nI n ∧ ∀ k, k < n → I 92 k = nI (B k)
def zB4 (B : Nat → Nat) (n c : Nat) : Nat → Nat := fun k => if k = n then c else B k
theorem x_put1 {n c : Nat} {B : Nat → Nat} {v s1 : Int32} (h : zTx I n B) (hn : n < 1600) (hs : ¬ s1 < 0) (hc : vp_nar .byte (zbyt ((v.toUInt32 >>> (s1.toUInt32 &&& Int32.toUInt32 31)).toInt32)) = yby c) : ∃ I', (∀ k3, f_W_putOnTape_3 k3 (zs I J (zPt t u i f s x)) 0 v s1 = k3 (zs I' J (zPt t u i f s x)) 0 v (s1 + (-8))) ∧ zTx I' (n + 1) (zB4 B n c) ∧ zfr (fun a k => a == 1 || (a == 0 && k == 1)) I I' := by
  have e1 : zup I 1 n (yby c) 0 1 = nI n := by rw [zup_ne _ _ _ (by decide)]; exact h.1
  refine ⟨zup (zup I 1 n (yby c)) 0 1 (nI (n + 1)), fun k3 => ?_, ⟨zup_s _ _ _ _, fun k hk => ?_⟩, zfr_up (zfr_up (zfr_refl _ _) rfl) rfl⟩
  · have hle : ¬ (1600 : Int32) ≤ nI n := by rw [show (1600 : Int32) = nI 1600 from rfl, zle_nI (by decide) (by omega)]; omega
    rw [f_W_putOnTape_3, if_neg hs, gi_11, zbs, h.1, if_neg hle, gp_11_0, zbs, zbs, wi_1 hn, zbs, hc, gi_11, zbs, e1, znI_add1, si_11, zbs]
  · rw [zup_ne _ _ _ (by decide), zup_at]
    unfold zB4
    by_cases e : k = n
    · rw [if_pos e, if_pos e]
    · rw [if_neg e, if_neg e]; exact h.2 k (by omega)
theorem m_put1 {n c : Nat} {B : Nat → Nat} {v s1 : Int32} (h : zTm I n B) (hn : n < 1600) (hs : ¬ s1 < 0) (hc : (v >>> (s1 &&& 31)) &&& 255 = nI c) : ∃ I', (∀ k3, f_M_four_3 k3 (zs I J (zPt t u i f s x)) 91 v s1 = k3 (zs I' J (zPt t u i f s x)) 91 v (s1 + (-8))) ∧ zTm I' (n + 1) (zB4 B n c) ∧ zfr (fun a k => a == 92 || (a == 91 && k == 1)) I I' := by
  have e1 : zup I 92 n (nI c) 91 1 = nI n := by rw [zup_ne _ _ _ (by decide)]; exact h.1
  refine ⟨zup (zup I 92 n (nI c)) 91 1 (nI (n + 1)), fun k3 => ?_, ⟨zup_s _ _ _ _, fun k hk => ?_⟩, zfr_up (zfr_up (zfr_refl _ _) rfl) rfl⟩
  · rw [f_M_four_3, if_neg hs, gp_12_0, zbs, gi_12, zbs, h.1, wi_92 hn, zbs, hc, gi_12, zbs, e1, znI_add1, si_12, zbs]
  · rw [zup_ne _ _ _ (by decide), zup_at]
    unfold zB4
    by_cases e : k = n
    · rw [if_pos e, if_pos e]
    · rw [if_neg e, if_neg e]; exact h.2 k (by omega)
theorem four_bytes (v : Int32) : ∃ c0 c1 c2 c3 : Nat, (c0 < 256 ∧ c1 < 256 ∧ c2 < 256 ∧ c3 < 256) ∧
    (∀ (I : Nat → Nat → Int32) (J : Nat → Nat → Int64) (t u i f s x n : Nat) (B : Nat → Nat), zTx I n B → n + 4 ≤ 1600 → ∃ I', f_W_putOnTape (zs I J (zPt t u i f s x)) 0 v = some (zs I' J (zPt t u i f s x)) ∧ zTx I' (n + 4) (zB4 (zB4 (zB4 (zB4 B n c0) (n + 1) c1) (n + 2) c2) (n + 3) c3) ∧ zfr (fun a k => a == 1 || (a == 0 && k == 1)) I I') ∧
    (∀ (I : Nat → Nat → Int32) (J : Nat → Nat → Int64) (t u i f s x n : Nat) (B : Nat → Nat), zTm I n B → n + 4 ≤ 1600 → ∃ I', f_M_four (zs I J (zPt t u i f s x)) 91 v = some (zs I' J (zPt t u i f s x)) ∧ zTm I' (n + 4) (zB4 (zB4 (zB4 (zB4 B n c0) (n + 1) c1) (n + 2) c2) (n + 3) c3) ∧ zfr (fun a k => a == 92 || (a == 91 && k == 1)) I I') := by
  obtain ⟨c0, a0, b0, d0⟩ := ybyte v (s := 24) (by simp)
  obtain ⟨c1, a1, b1, d1⟩ := ybyte v (s := 16) (by simp)
  obtain ⟨c2, a2, b2, d2⟩ := ybyte v (s := 8) (by simp)
  obtain ⟨c3, a3, b3, d3⟩ := ybyte v (s := 0) (by simp)
  have s24 : (24 : Int32) + (-8) = 16 := by decide
  have s16 : (16 : Int32) + (-8) = 8 := by decide
  have s8 : (8 : Int32) + (-8) = 0 := by decide
  have s0 : (0 : Int32) + (-8) < 0 := by decide
  refine ⟨c0, c1, c2, c3, ⟨a0, a1, a2, a3⟩, ?_, ?_⟩
  · intro I J t u i f s x n B h hn
    obtain ⟨I1, e1, f1, g1⟩ := x_put1 (J := J) (t := t) (u := u) (i := i) (f := f) (s := s) (x := x) h (by omega) (by decide) d0
    obtain ⟨I2, e2, f2, g2⟩ := x_put1 (J := J) (t := t) (u := u) (i := i) (f := f) (s := s) (x := x) f1 (by omega) (by decide) d1
    obtain ⟨I3, e3, f3, g3⟩ := x_put1 (J := J) (t := t) (u := u) (i := i) (f := f) (s := s) (x := x) f2 (by omega) (by decide) d2
    obtain ⟨I4, e4, f4, g4⟩ := x_put1 (J := J) (t := t) (u := u) (i := i) (f := f) (s := s) (x := x) f3 (by omega) (by decide) d3
    refine ⟨I4, ?_, f4, zfr_trans (zfr_trans (zfr_trans g1 g2) g3) g4⟩
    have L : ∀ m, f_W_putOnTape_3L (m + 5) (zs I J (zPt t u i f s x)) 0 v 24 = some (zs I4 J (zPt t u i f s x)) := fun m => by
      rw [f_W_putOnTape_3L, e1, s24, f_W_putOnTape_3L, e2, s16, f_W_putOnTape_3L, e3, s8, f_W_putOnTape_3L, e4, f_W_putOnTape_3L, f_W_putOnTape_3, if_pos s0]
    rw [f_W_putOnTape, zg_11]
    exact L 3995
  · intro I J t u i f s x n B h hn
    obtain ⟨I1, e1, f1, g1⟩ := m_put1 (J := J) (t := t) (u := u) (i := i) (f := f) (s := s) (x := x) h (by omega) (by decide) b0
    obtain ⟨I2, e2, f2, g2⟩ := m_put1 (J := J) (t := t) (u := u) (i := i) (f := f) (s := s) (x := x) f1 (by omega) (by decide) b1
    obtain ⟨I3, e3, f3, g3⟩ := m_put1 (J := J) (t := t) (u := u) (i := i) (f := f) (s := s) (x := x) f2 (by omega) (by decide) b2
    obtain ⟨I4, e4, f4, g4⟩ := m_put1 (J := J) (t := t) (u := u) (i := i) (f := f) (s := s) (x := x) f3 (by omega) (by decide) b3
    refine ⟨I4, ?_, f4, zfr_trans (zfr_trans (zfr_trans g1 g2) g3) g4⟩
    have L : ∀ m, f_M_four_3L (m + 5) (zs I J (zPt t u i f s x)) 91 v 24 = some (zs I4 J (zPt t u i f s x)) := fun m => by
      rw [f_M_four_3L, e1, s24, f_M_four_3L, e2, s16, f_M_four_3L, e3, s8, f_M_four_3L, e4, f_M_four_3L, f_M_four_3, if_pos s0]
    rw [f_M_four, zg_12]
    exact L 3995
def zB4s (B : Nat → Nat) (n c0 c1 c2 c3 : Nat) : Nat → Nat := zB4 (zB4 (zB4 (zB4 B n c0) (n + 1) c1) (n + 2) c2) (n + 3) c3
theorem zB4_lt {B : Nat → Nat} {n c : Nat} (h : ∀ k, B k < 256) (hc : c < 256) : ∀ k, zB4 B n c k < 256 := fun k => by
  unfold zB4
  split
  · exact hc
  · exact h k
theorem s_feed (h : zIv2 I t u nt nb nr q sh md om im LW BW) (a b c d e : Int32) : zOKs (zs I J (zPt t u i f s x)) (fun σ => f_W_feed σ 0 a b c d e) (fun σ => f_M_feed σ 91 a b c d e) := by
  obtain ⟨n, B, g1, g2, g3, g4⟩ := h.2.2.2.1
  have hn := g1.1
  have hc : (nI (n + 20) ≤ 1600) = (n + 20 ≤ 1600) := zle_nI (b := 1600) (by omega) (by decide)
  have c20 : nI n + 20 = nI (n + 20) := nI_add n 20
  by_cases hle : n + 20 ≤ 1600
  · obtain ⟨a0, a1, a2, a3, av, ax, am⟩ := four_bytes a
    obtain ⟨b0, b1, b2, b3, bv, bx, bm⟩ := four_bytes b
    obtain ⟨c0, c1, c2, c3, cv, cx, cm⟩ := four_bytes c
    obtain ⟨d0, d1, d2, d3, dv, dx, dm⟩ := four_bytes d
    obtain ⟨e0, e1, e2, e3, ev, ex, em⟩ := four_bytes e
    have tx : zTx I n B := ⟨g3, g1.2.2⟩
    obtain ⟨I1, x1, tx1, fx1⟩ := ax I J t u i f s x n B tx (by omega)
    obtain ⟨I2, x2, tx2, fx2⟩ := bx I1 J t u i f s x _ _ tx1 (by omega)
    obtain ⟨I3, x3, tx3, fx3⟩ := cx I2 J t u i f s x _ _ tx2 (by omega)
    obtain ⟨I4, x4, tx4, fx4⟩ := dx I3 J t u i f s x _ _ tx3 (by omega)
    obtain ⟨I5, x5, tx5, fx5⟩ := ex I4 J t u i f s x _ _ tx4 (by omega)
    have fx : zfr (fun a k => a == 1 || (a == 0 && k == 1)) I I5 := zfr_trans (zfr_trans (zfr_trans (zfr_trans fx1 fx2) fx3) fx4) fx5
    have q4 : I5 91 1 = nI n := (fx 91 1 rfl).trans g4
    have tm : zTm I5 n B := ⟨q4, fun k hk => (fx 92 k rfl).trans (g2.2.2 k hk)⟩
    obtain ⟨M1, m1, tm1, fm1⟩ := am I5 J t u i f s x n B tm (by omega)
    obtain ⟨M2, m2, tm2, fm2⟩ := bm M1 J t u i f s x _ _ tm1 (by omega)
    obtain ⟨M3, m3, tm3, fm3⟩ := cm M2 J t u i f s x _ _ tm2 (by omega)
    obtain ⟨M4, m4, tm4, fm4⟩ := dm M3 J t u i f s x _ _ tm3 (by omega)
    obtain ⟨M5, m5, tm5, fm5⟩ := em M4 J t u i f s x _ _ tm4 (by omega)
    have fm : zfr (fun a k => a == 92 || (a == 91 && k == 1)) I5 M5 := zfr_trans (zfr_trans (zfr_trans (zfr_trans fm1 fm2) fm3) fm4) fm5
    have hfr : zfr (fun a k => (a == 1 || (a == 0 && k == 1)) || (a == 92 || (a == 91 && k == 1))) I M5 := zfr_trans (zfr_mono fx (fun a k h => by simp only [h, Bool.true_or])) (zfr_mono fm (fun a k h => by simp only [h, Bool.or_true]))
    have hfq : zfr zSq I M5 := zfr_mono hfr (fun a k h => by
      simp at h
      rcases h with (rfl | ⟨rfl, rfl⟩) | (rfl | ⟨rfl, rfl⟩)
      · simp [zSq]
      · rfl
      · simp [zSq]
      · rfl)
    have hr : ∀ a, a ≠ 0 → a ≠ 1 → a ≠ 91 → a ≠ 92 → M5 a = I a := fun a q1 q2 q3 q4 => zfr_row hfr a (fun k => by simp [q1, q2, q3, q4])
    have h91 : ∀ k, k ≠ 1 → M5 91 k = I 91 k := fun k hk => hfr 91 k (by simp [hk])
    have h00 : ∀ k, k ≠ 1 → M5 0 k = I 0 k := fun k hk => hfr 0 k (by simp [hk])
    refine ⟨nI (n + 4 + 4 + 4 + 4 + 4), (zs I5 J (zPt t u i f s x)), (zs M5 J (zPt t u i f s x)), ?_, ?_, zIs_mk (zIv_frq h hfq ⟨n + 4 + 4 + 4 + 4 + 4, _, ⟨by omega, ?_, fun k hk => ?_⟩, ⟨by omega, ?_, tm5.2⟩, ?_, tm5.1⟩ (zLf_rows h.2.2.2.2.2.2.2.2.1 (h00 16 (by decide)) (h91 71 (by decide)) (hr 74 (by decide) (by decide) (by decide) (by decide)) (hr 124 (by decide) (by decide) (by decide) (by decide))) (zLy_rows h.2.2.2.2.2.2.2.2.2.1 (h00 18 (by decide)) (h91 59 (by decide)) (hr 75 (by decide) (by decide) (by decide) (by decide)) (hr 117 (by decide) (by decide) (by decide) (by decide))) (zLk_rows h.2.2.2.2.2.2.2.2.2.2 (h91 78 (by decide)) (h91 79 (by decide)) (fun a ha => hr a (by omega) (by omega) (by omega) (by omega))))⟩
    · show f_W_feed _ _ _ _ _ _ _ = _
      rw [f_W_feed, zg_11, gi_11, zbs, g3, c20, if_pos (by rw [hc]; exact hle), x1, zbs, x2, zbs, x3, zbs, x4, zbs, x5, zbs, gi_11, zbs, tx5.1]
    · show f_M_feed _ _ _ _ _ _ _ = _
      rw [f_M_feed, zg_12, gi_12, zbs, q4, c20, if_pos (by rw [hc]; exact hle), m1, zbs, m2, zbs, m3, zbs, m4, zbs, m5, zbs, gi_12, zbs, tm5.1]
    · intro k
      repeat' apply zB4_lt
      all_goals first | exact g1.2.1 | omega
    · rw [show M5 1 k = I5 1 k from fm 1 k rfl]
      exact tx5.2 k hk
    · intro k
      repeat' apply zB4_lt
      all_goals first | exact g1.2.1 | omega
    · rw [show M5 0 1 = I5 0 1 from fm 0 1 rfl]
      exact tx5.1
  · refine ⟨-1, (zs I J (zPt t u i f s x)), (zs I J (zPt t u i f s x)), ?_, ?_, zIs_mk h⟩
    · show f_W_feed _ _ _ _ _ _ _ = _
      rw [f_W_feed, zg_11, gi_11, zbs, g3, c20, if_neg (by rw [hc]; exact hle)]
    · show f_M_feed _ _ _ _ _ _ _ = _
      rw [f_M_feed, zg_12, gi_12, zbs, g4, c20, if_neg (by rw [hc]; exact hle)]
/-- left -/
theorem s_left (h : zIv2 I t u nt nb nr q sh md om im LW BW) (p : Int32) : zOKs (zs I J (zPt t u i f s x)) (fun σ => f_W_left σ 0 p) (fun σ => f_M_left σ 91 p) := by
  obtain ⟨S, s1, s2, s3, s4, s5⟩ := h.2.2.2.2.2.2.2.2.1
  obtain ⟨ht, hT, hN, hB, ho, -⟩ := h.2.1
  obtain ⟨hM, hX, -⟩ := hT
  have hnb := hM.2.1.2
  have hom : om < 1024 := z2n hnb ho.2
  have h304 : I 30 4 = nI om := hN.2.2.2.1.trans ho.1
  have zt : ¬ zB true = 0 := by decide
  have zf : zB false = 0 := rfl
  -- the reference looks for it first
  have look : ∀ (v : Bool) (d k fuel : Nat), k + d = S.length → d < fuel → f_M_left_4L fuel (zs I J (zPt t u i f s x)) 91 p (zB v) (nI k) = f_M_left_38 (zs I J (zPt t u i f s x)) 91 p (zB (v || (S.drop k).any (fun b => decide (nI b = p)))) := by
    intro v d
    induction d generalizing v with
    | zero =>
      intro k fuel hk hf
      obtain ⟨m, rfl⟩ : ∃ m, fuel = m + 1 := ⟨fuel - 1, by omega⟩
      obtain rfl : k = S.length := by omega
      rw [f_M_left_4L, f_M_left_4, gi_12, zbs, s2, if_pos (by rw [zle_nI (by omega) (by omega)]; exact Nat.le_refl _), List.drop_length]
      simp
    | succ d ih =>
      intro k fuel hk hf
      obtain ⟨m, rfl⟩ : ∃ m, fuel = m + 1 := ⟨fuel - 1, by omega⟩
      have hkl : k < S.length := by omega
      have hget : S[k]? = some S[k] := List.getElem?_eq_getElem hkl
      have hd : S.drop k = S[k] :: S.drop (k + 1) := List.drop_eq_getElem_cons hkl
      have e := (s5 k _ hget).2.1
      rw [f_M_left_4L, f_M_left_4, gi_12, zbs, s2, if_neg (by rw [zle_nI (by omega) (by omega)]; omega), znI_add1, hd]
      cases v with
      | true =>
        rw [if_neg zt]
        have := ih true (k + 1) m (by omega) (by omega)
        rw [Bool.true_or] at this ⊢
        exact this
      | false =>
        rw [if_pos zf, gp_12_70, zbs, ai_124 (by omega), zbs, e]
        by_cases hp : nI S[k] = p
        · rw [if_pos hp]
          have := ih true (k + 1) m (by omega) (by omega)
          rw [Bool.true_or] at this
          have e2 : (false || (S[k] :: S.drop (k + 1)).any (fun b => decide (nI b = p))) = true := by
            rw [Bool.false_or, List.any_cons, decide_eq_true hp, Bool.true_or]
          rw [e2]
          exact this
        · rw [if_neg hp]
          have := ih false (k + 1) m (by omega) (by omega)
          rw [Bool.false_or] at this ⊢
          have e2 : (S[k] :: S.drop (k + 1)).any (fun b => decide (nI b = p)) = (S.drop (k + 1)).any (fun b => decide (nI b = p)) := by
            rw [List.any_cons, decide_eq_false hp, Bool.false_or]
          rw [e2]
          exact this
  have hm0 : f_M_left (zs I J (zPt t u i f s x)) 91 p = f_M_left_38 (zs I J (zPt t u i f s x)) 91 p (zB (S.any (fun b => decide (nI b = p)))) := by
    have := look false S.length 0 zfu (by omega) (zfu_lt (by omega))
    rw [Bool.false_or, List.drop_zero] at this
    rw [f_M_left, zg_12]
    exact this
  have x1 := g_W_isBook (J := J) (t := t) (u := u) (i := i) (f := f) (s := s) (x := x) ht hX.2.1.1 p
  have m1 := g_M_isBook (J := J) (t := t) (u := u) (i := i) (f := f) (s := s) (x := x) hM.2.1.1 hnb p
  rcases zlt_cases p (n := nb) (by omega) with ⟨h1, b, hb, rfl⟩ | h1
  · rw [h1] at m1
    have xh := g_W_isHere1 (J := J) (t := t) (u := u) (i := i) (f := f) (s := s) (x := x) ht hX.2.1.1 hnb h304 hom hb
    have mo := g_M_isOut (J := J) (t := t) (u := u) (i := i) (f := f) (s := s) (x := x) ho.1 hom (show b < 10 by omega)
    cases ht2 : om.testBit b with
    | true =>
      rw [ht2] at xh mo
      rw [Bool.not_true] at xh
      refine ⟨-1, (zs I J (zPt t u i f s x)), (zs I J (zPt t u i f s x)), ?_, ?_, zIs_mk h⟩
      · show f_W_left _ _ _ = _
        rw [f_W_left, zg_11, xh, zbs]
        exact if_pos zf
      · show f_M_left _ _ _ = _
        rw [hm0, f_M_left_38, m1, zbs, if_neg zt, mo, zbs]
        exact if_neg zt
    | false =>
      rw [ht2] at xh mo
      rw [Bool.not_false] at xh
      have inS : S.any (fun c => decide (nI c = nI b)) = true ↔ b ∈ S := by
        rw [List.any_eq_true]
        constructor
        · rintro ⟨c, hc, he⟩
          have he : nI c = nI b := of_decide_eq_true he
          obtain ⟨k, hk⟩ := List.getElem?_of_mem hc
          have := (s5 k c hk).2.2
          rw [zeq_nI (by omega) (by omega)] at he
          rw [← he]
          exact hc
        · intro hb2
          exact ⟨b, hb2, decide_eq_true rfl⟩
      by_cases hin : b ∈ S
      · have mdec : S.any (fun c => decide (nI c = nI b)) = true := inS.mpr hin
        refine ⟨-1, (zs I J (zPt t u i f s x)), (zs I J (zPt t u i f s x)), ?_, ?_, zIs_mk h⟩
        · show f_W_left _ _ _ = _
          rw [f_W_left, zg_11, xh, zbs, if_neg zt, gi_11, zbs, s1]
          by_cases h10 : S.length < 10
          · rw [if_pos (by rw [lt10 (by omega)]; exact h10)]
            have xl : ∀ (d k fuel : Nat), k + d = S.length → d < fuel → b ∈ S.drop k → f_W_left_21L fuel (zs I J (zPt t u i f s x)) 0 (nI b) (nI k) = some (-1, (zs I J (zPt t u i f s x))) := by
              intro d
              induction d with
              | zero =>
                intro k fuel hk hf hm
                obtain rfl : k = S.length := by omega
                rw [List.drop_length] at hm
                cases hm
              | succ d ih =>
                intro k fuel hk hf hm
                obtain ⟨m, rfl⟩ : ∃ m, fuel = m + 1 := ⟨fuel - 1, by omega⟩
                have hkl : k < S.length := by omega
                have hget : S[k]? = some S[k] := List.getElem?_eq_getElem hkl
                have e := s5 k _ hget
                rw [List.drop_eq_getElem_cons hkl] at hm
                rw [f_W_left_21L, f_W_left_21, gi_11, zbs, s1, if_neg (by rw [zle_nI (by omega) (by omega)]; omega), gp_11_15, zbs, ai_74 (by omega), zbs, e.1, znI_add1]
                by_cases hp : S[k] = b
                · rw [if_pos (by rw [hp])]
                · rw [if_neg (by rw [zeq_nI (by omega) (by omega)]; exact hp)]
                  refine ih (k + 1) m (by omega) (by omega) ?_
                  rcases List.mem_cons.mp hm with h2 | h2
                  · exact absurd h2.symm hp
                  · exact h2
            exact xl S.length 0 zfu (by omega) (zfu_lt (by omega)) (by rw [List.drop_zero]; exact hin)
          · rw [if_neg (by rw [lt10 (by omega)]; exact h10)]
        · show f_M_left _ _ _ = _
          rw [hm0, f_M_left_38, m1, zbs, if_neg zt, mo, zbs, if_pos zf, mdec, if_neg zt]
      · have mdec : S.any (fun c => decide (nI c = nI b)) = false := Bool.eq_false_iff.mpr (fun h => hin (inS.mp h))
        have h10 : S.length < 10 := by
          by_cases h10 : S.length < 10
          · exact h10
          · exfalso
            have := znd_len 10 (b :: S) (List.nodup_cons.mpr ⟨hin, s4⟩) (fun c hc => by
              rcases List.mem_cons.mp hc with rfl | hc
              · omega
              · obtain ⟨k, hk⟩ := List.getElem?_of_mem hc
                have := (s5 k c hk).2.2
                omega)
            simp only [List.length_cons] at this
            omega
        have hix : S.length < 10 := h10
        have z1 : zup I 74 S.length (nI b) 0 16 = nI S.length := by rw [zup_ne _ _ _ (by decide)]; exact s1
        have xl : ∀ (d k fuel : Nat), k + d = S.length → d < fuel → f_W_left_21L fuel (zs I J (zPt t u i f s x)) 0 (nI b) (nI k) = some (nI (S.length + 1), (zs (zup (zup I 74 S.length (nI b)) 0 16 (nI (S.length + 1))) J (zPt t u i f s x))) := by
          intro d
          induction d with
          | zero =>
            intro k fuel hk hf
            obtain ⟨m, rfl⟩ : ∃ m, fuel = m + 1 := ⟨fuel - 1, by omega⟩
            obtain rfl : k = S.length := by omega
            rw [f_W_left_21L, f_W_left_21, gi_11, zbs, s1, if_pos (by rw [zle_nI (by omega) (by omega)]; exact Nat.le_refl _), f_W_left_47, gp_11_15, zbs, gi_11, zbs, s1, wi_74 hix, zbs, gi_11, zbs, z1, znI_add1, si_11, zbs, gi_11, zbs, zup_s]
          | succ d ih =>
            intro k fuel hk hf
            obtain ⟨m, rfl⟩ : ∃ m, fuel = m + 1 := ⟨fuel - 1, by omega⟩
            have hkl : k < S.length := by omega
            have hget : S[k]? = some S[k] := List.getElem?_eq_getElem hkl
            have e := s5 k _ hget
            have hp : ¬ S[k] = b := fun hp => hin (hp ▸ List.getElem_mem hkl)
            rw [f_W_left_21L, f_W_left_21, gi_11, zbs, s1, if_neg (by rw [zle_nI (by omega) (by omega)]; omega), gp_11_15, zbs, ai_74 (by omega), zbs, e.1, znI_add1, if_neg (by rw [zeq_nI (by omega) (by omega)]; exact hp)]
            exact ih (k + 1) m (by omega) (by omega)
        have z2 : zup (zup I 74 S.length (nI b)) 0 16 (nI (S.length + 1)) 91 = I 91 := by rw [zup_ne _ _ _ (by decide), zup_ne _ _ _ (by decide)]
        generalize hI1 : zup (zup I 74 S.length (nI b)) 0 16 (nI (S.length + 1)) = I1 at xl z2
        have r1 : ∀ a, a ≠ 0 → a ≠ 74 → I1 a = I a := fun a q1 q2 => by rw [← hI1, zup_ne _ _ _ q1, zup_ne _ _ _ q2]
        -- the reference, behind the class
        have look2 : ∀ (d k fuel : Nat), k + d = S.length → d < fuel → f_M_left_4L fuel (zs I1 J (zPt t u i f s x)) 91 (nI b) 0 (nI k) = f_M_left_38 (zs I1 J (zPt t u i f s x)) 91 (nI b) 0 := by
          intro d
          induction d with
          | zero =>
            intro k fuel hk hf
            obtain ⟨m, rfl⟩ : ∃ m, fuel = m + 1 := ⟨fuel - 1, by omega⟩
            obtain rfl : k = S.length := by omega
            rw [f_M_left_4L, f_M_left_4, gi_12, zbs, z2, s2, if_pos (by rw [zle_nI (by omega) (by omega)]; exact Nat.le_refl _)]
          | succ d ih =>
            intro k fuel hk hf
            obtain ⟨m, rfl⟩ : ∃ m, fuel = m + 1 := ⟨fuel - 1, by omega⟩
            have hkl : k < S.length := by omega
            have hget : S[k]? = some S[k] := List.getElem?_eq_getElem hkl
            have e := s5 k _ hget
            have hp : ¬ S[k] = b := fun hp => hin (hp ▸ List.getElem_mem hkl)
            rw [f_M_left_4L, f_M_left_4, gi_12, zbs, z2, s2, if_neg (by rw [zle_nI (by omega) (by omega)]; omega), if_pos rfl, gp_12_70, zbs, ai_124 (by omega), zbs, r1 124 (by decide) (by decide), e.2.1, znI_add1, if_neg (by rw [zeq_nI (by omega) (by omega)]; exact hp)]
            exact ih (k + 1) m (by omega) (by omega)
        have m1' := g_M_isBook (I := I1) (J := J) (t := t) (u := u) (i := i) (f := f) (s := s) (x := x) (by rw [z2]; exact hM.2.1.1) hnb (nI b)
        rw [h1] at m1'
        have mo' := g_M_isOut (I := I1) (J := J) (t := t) (u := u) (i := i) (f := f) (s := s) (x := x) (by rw [r1 111 (by decide) (by decide)]; exact ho.1) hom (show b < 10 by omega)
        rw [ht2] at mo'
        have z3 : I1 91 71 = nI S.length := by rw [z2]; exact s2
        have z4 : zup I1 124 S.length (nI b) 91 71 = nI S.length := by rw [zup_ne _ _ _ (by decide)]; exact z3
        have hm : f_M_left (zs I1 J (zPt t u i f s x)) 91 (nI b) = some (nI (S.length + 1), (zs (zup (zup I1 124 S.length (nI b)) 91 71 (nI (S.length + 1))) J (zPt t u i f s x))) := by
          have := look2 S.length 0 zfu (by omega) (zfu_lt (by omega))
          have : f_M_left_4L zfu (zs I1 J (zPt t u i f s x)) 91 (nI b) 0 0 = f_M_left_38 (zs I1 J (zPt t u i f s x)) 91 (nI b) 0 := this
          rw [f_M_left, zg_12, this, f_M_left_38, m1', zbs, if_neg zt, mo', zbs, if_pos zf, if_pos rfl, gp_12_70, zbs, gi_12, zbs, z3, wi_124 hix, zbs, gi_12, zbs, z4, znI_add1, si_12, zbs, gi_12, zbs, zup_s]
        have hfr : zfr zSq I (zup (zup I1 124 S.length (nI b)) 91 71 (nI (S.length + 1))) := by
          rw [← hI1]
          exact zfr_up (zfr_up (zfr_up (zfr_up (zfr_refl _ _) rfl) rfl) rfl) rfl
        have hr : ∀ a, a ≠ 0 → a ≠ 74 → a ≠ 124 → a ≠ 91 → zup (zup I1 124 S.length (nI b)) 91 71 (nI (S.length + 1)) a = I a := fun a q1 q2 q3 q4 => by rw [zup_ne _ _ _ q4, zup_ne _ _ _ q3, r1 a q1 q2]
        have h91 : ∀ k, k ≠ 71 → zup (zup I1 124 S.length (nI b)) 91 71 (nI (S.length + 1)) 91 k = I 91 k := fun k hk => by rw [zup_k _ _ hk, zup_ne _ _ _ (by decide), z2]
        have h00 : ∀ k, k ≠ 16 → zup (zup I1 124 S.length (nI b)) 91 71 (nI (S.length + 1)) 0 k = I 0 k := fun k hk => by rw [zup_ne _ _ _ (by decide), zup_ne _ _ _ (by decide), ← hI1, zup_k _ _ hk, zup_ne _ _ _ (by decide)]
        refine ⟨nI (S.length + 1), (zs I1 J (zPt t u i f s x)), _, ?_, hm, zIs_mk (zIv_frq h hfr (zTp_rows h.2.2.2.1 (hr 1 (by decide) (by decide) (by decide) (by decide)) (hr 92 (by decide) (by decide) (by decide) (by decide)) (h00 1 (by decide)) (h91 1 (by decide))) ⟨S ++ [b], ?_, ?_, ?_, ?_, fun k c hk => ?_⟩ (zLy_rows h.2.2.2.2.2.2.2.2.2.1 (h00 18 (by decide)) (h91 59 (by decide)) (hr 75 (by decide) (by decide) (by decide) (by decide)) (hr 117 (by decide) (by decide) (by decide) (by decide))) (zLk_rows h.2.2.2.2.2.2.2.2.2.2 (h91 78 (by decide)) (h91 79 (by decide)) (fun a ha => hr a (by omega) (by omega) (by omega) (by omega))))⟩
        · show f_W_left _ _ _ = _
          rw [f_W_left, zg_11, xh, zbs, if_neg zt, gi_11, zbs, s1, if_pos (by rw [lt10 (by omega)]; exact h10)]
          exact xl S.length 0 zfu (by omega) (zfu_lt (by omega))
        · rw [zup_ne _ _ _ (by decide), zup_ne _ _ _ (by decide), ← hI1, zup_s]; simp
        · rw [zup_s]; simp
        · simp; omega
        · rw [List.nodup_append]
          refine ⟨s4, by simp, ?_⟩
          intro y hy z hz
          simp at hz
          rw [hz]
          intro e
          exact hin (e ▸ hy)
        · rw [zup_ne _ _ _ (by decide), zup_ne _ _ _ (by decide), zup_ne _ _ _ (show 124 ≠ 91 by decide), zup_at, ← hI1, zup_ne _ _ _ (by decide), zup_at, zup_ne _ _ _ (by decide), zup_ne _ _ _ (by decide)]
          by_cases hkl : k = S.length
          · subst hkl
            rw [List.getElem?_append_right (Nat.le_refl _)] at hk
            simp at hk
            rw [if_pos rfl, if_pos rfl, ← hk]
            exact ⟨rfl, rfl, hb⟩
          · have hlt : k < S.length := by
              have := (List.getElem?_eq_some_iff.mp hk).1
              simp at this
              omega
            rw [List.getElem?_append_left hlt] at hk
            rw [if_neg hkl, if_neg hkl]
            exact s5 k c hk
  · rw [h1] at m1
    have xh := g_W_isHere0 (J := J) (t := t) (u := u) (i := i) (f := f) (s := s) (x := x) ht hX.2.1.1 h1
    refine ⟨-1, (zs I J (zPt t u i f s x)), (zs I J (zPt t u i f s x)), ?_, ?_, zIs_mk h⟩
    · show f_W_left _ _ _ = _
      rw [f_W_left, zg_11, xh, zbs]
      exact if_pos zf
    · show f_M_left _ _ _ = _
      rw [hm0, f_M_left_38, m1, zbs]
      exact if_pos zf
end ZFe
