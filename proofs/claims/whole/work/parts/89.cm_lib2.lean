/-! library, together -/
section ZLj
variable {I : Nat → Nat → Int32} {J : Nat → Nat → Int64} {t u i f s x : Nat} {nt nb nr q sh md om im : Nat} {LW BW : List Int32}
theorem zIv_err {I2 : Nat → Nat → Int32} (h : zIv2 I t u nt nb nr q sh md om im LW BW) (hr : ∀ a, a ≠ 24 → a ≠ 25 → a ≠ 0 → (a < u ∨ u + 10 < a) → (a < 91 ∨ a = 97 ∨ a = 98 ∨ a = 99 ∨ 106 < a) → I2 a = I a) (h0 : ∀ k, k ≠ 1 → I2 0 k = I 0 k) (h91 : ∀ k, yAF 91 k = false → I2 91 k = I 91 k) (hT : zTp I2) (h24 : I2 24 0 = I2 91 2 ∧ I2 24 1 = I2 91 3) (hB : yBm I2) : zIv2 I2 t u nt nb nr q sh md om im LW BW := by
  obtain ⟨h1, ⟨ht, hTo, hN, hNb, w0, w1, w2, w3⟩, h3, h4, h5, h6, h7, h8, h9, h10, h11⟩ := h
  have R : ∀ a, (a = t ∨ a = t + 1 ∨ a = t + 3 ∨ a = t + 4 ∨ a = t + 5 ∨ a = t + 6 ∨ a = t + 8 ∨ a = t + 9 ∨ (26 ≤ a ∧ a < 91) ∨ a = 97 ∨ a = 98 ∨ a = 99 ∨ 106 < a) → I2 a = I a := fun a ha => hr a (by omega) (by omega) (by omega) (by omega) (by omega)
  refine ⟨h1, ⟨ht, ?_, ?_, ?_, ?_, ?_, by rw [R 51 (by omega)]; exact w2, by rw [R 51 (by omega)]; exact w3⟩, ?_, hT, h24, hB, zBx_rows h7 (R 132 (by omega)) (R 133 (by omega)) (fun a h1 h2 => R a (by omega)), zAc_rows h8 (R 41 (by omega)) (R 42 (by omega)) (R 43 (by omega)) (R 44 (by omega)) (R 45 (by omega)) (R 46 (by omega)) (R 107 (by omega)) (R 111 (by omega)) (R 116 (by omega)) (h91 56 rfl) (h91 57 rfl), zLf_rows h9 (h0 16 (by decide)) (h91 71 rfl) (R 74 (by omega)) (R 124 (by omega)), zLy_rows h10 (h0 18 (by decide)) (h91 59 rfl) (R 75 (by omega)) (R 117 (by omega)), zLk_rows h11 (h91 78 rfl) (h91 79 rfl) (fun a ha => R a (by omega))⟩
  · unfold zTold zMd zXd zBd at hTo ⊢
    rw [R 97 (by omega), R 98 (by omega), R 99 (by omega), R 107 (by omega), R 109 (by omega), R 110 (by omega), R t (by omega), R (t + 1) (by omega), R (t + 3) (by omega), R (t + 4) (by omega), R (t + 5) (by omega), R (t + 6) (by omega), R (t + 8) (by omega), R (t + 9) (by omega), h91 22 rfl, h91 41 rfl, h91 42 rfl, h91 43 rfl, h91 44 rfl, h91 45 rfl, h91 46 rfl, h91 47 rfl, h91 48 rfl]
    exact hTo
  · rw [R 111 (by omega)]
    exact zNow_rows hN (R 30 (by omega)) (R 31 (by omega)) (R 32 (by omega)) (R 33 (by omega))
  · rw [R 111 (by omega)]; exact hNb
  · rw [R 111 (by omega)]; exact w0
  · rw [R 111 (by omega)]; exact w1
  · rw [R 111 (by omega)]; exact h3
theorem yAF_row {I' : Nat → Nat → Int32} (h : zfr yAF I I') (a : Nat) (ha : a < 91 ∨ a = 92 ∨ a = 97 ∨ a = 98 ∨ a = 99 ∨ 106 < a) : I' a = I a := zfr_row h a (fun k => by
  unfold yAF yLF
  have : a ≠ 91 ∧ a ≠ 94 ∧ a ≠ 95 ∧ a ≠ 96 ∧ a ≠ 100 ∧ a ≠ 103 ∧ a ≠ 104 ∧ a ≠ 105 ∧ a ≠ 106 := by omega
  simp [this])
theorem zTp_0 {I2 : Nat → Nat → Int32} (h1 : I2 0 1 = 0) (h2 : I2 91 1 = 0) : zTp I2 := ⟨0, fun _ => 0, ⟨by decide, fun _ => Nat.zero_lt_succ _, fun k hk => by omega⟩, ⟨by decide, fun _ => Nat.zero_lt_succ _, fun k hk => by omega⟩, h1, h2⟩
theorem zMk_law {I1 I2 : Nat → Nat → Int32} {g : Nat} {M : List Int32} (hk : yMk I1 g M) (hM : M.length ≤ 269) (h : I2 99 g = I1 96 g ∧ ∀ m, m ≤ 300 → I1 96 g = nI m → ∀ j, j < m → I2 97 (320 * g + j) = I1 94 (320 * g + j) ∧ I2 98 (320 * g + j) = I1 95 (320 * g + j)) : I2 99 g = nI M.length ∧ ∀ k, k < M.length → ∃ m, M[k]? = some m ∧ zenc (I2 97 (320 * g + k)) (I2 98 (320 * g + k)) m := by
  refine ⟨h.1.trans hk.1, fun k hk' => ?_⟩
  obtain ⟨m, e1, e2⟩ := hk.2 k hk'
  have := h.2 M.length (by omega) hk.1 k hk'
  exact ⟨m, e1, by rw [this.1, this.2]; exact e2⟩
theorem s_library (h : zIv2 I t u nt nb nr q sh md om im LW BW) : zOKs (zs I J (zPt t u i f s x)) (fun σ => f_W_library σ 0) (fun σ => f_M_library σ 91) := by
  obtain ⟨n, B, hTx, hTm, h01, h911⟩ := h.2.2.2.1
  have hBm := h.2.2.2.2.2.1
  have htu := h.1
  have hu : u = 2 ∨ u = 13 := by omega
  cases hx : ytext B n with
  | error e =>
    obtain ⟨c, pl⟩ := e
    obtain ⟨I1, J1, f1, a1, a2, a3, a4, a5, a6⟩ := x_lib_er (J := J) (t := t) (i := i) (f := f) (s := s) (x := x) hu hTx h01 hx
    have M := m_readAll (I := I1) (J := J1) (t := t) (u := u) (i := u) (f := f1) (s := s) (x := 1) (B := B) (n := n) ⟨hTm.1, hTm.2.1, fun k hk => by rw [a2 92 (by decide) (by decide) (by decide) (by omega)]; exact hTm.2.2 k hk⟩ (by rw [a2 91 (by decide) (by decide) (by decide) (by omega)]; exact h911) (fun g hg => by rw [a2 96 (by decide) (by decide) (by decide) (by omega)]; exact hBm g hg)
    rw [hx] at M
    obtain ⟨I2, J2, b1, b2, b3, b4, b5, b6, b7, b8⟩ := M
    have E : f_M_library (zs I1 J1 (zPt t u u f1 s 1)) 91 = some (-1, zs I2 J2 (zPt t u u f1 s 1)) := by
      rw [f_M_library, zg_12, b1, zbs, gi_12, zbs, if_neg b7]
    refine ⟨_, _, _, a1, E, zIs_mk (zIv_err h (fun a h1 h2 h3 h4 h5 => ?_) (fun k hk => ?_) (fun k hk => ?_) (zTp_0 ?_ b4) ⟨?_, ?_⟩ b8)⟩
    · rw [yAF_row b2 a (by omega)]; exact a2 a h1 h2 h3 h4
    · rw [yAF_row b2 0 (by decide)]; exact a3 k hk
    · rw [b2 91 k hk, a2 91 (by decide) (by decide) (by decide) (by omega)]
    · rw [yAF_row b2 0 (by decide)]; exact a4
    · rw [yAF_row b2 24 (by decide), a5, b5]
    · rw [yAF_row b2 24 (by decide), a6, b6]
  | ok ps =>
    obtain ⟨I1, J1, f1, a1, a2, ⟨a3, a4, a5⟩, hp, hD, ⟨n1, n2, n3, n4, n5⟩, ⟨g1, g2, g3⟩, ⟨k1, k2⟩, hbx⟩ := x_lib_ok (J := J) (t := t) (i := i) (f := f) (s := s) (x := x) hu hTx h01 hx
    have e91 : I1 91 = I 91 := a2 91 (by decide) (by decide) (by decide) (by omega) (by decide) (by decide) (by decide) (by decide)
    have M := m_readAll (I := I1) (J := J1) (t := u) (u := t) (i := u) (f := f1) (s := s) (x := 1) (B := B) (n := n) ⟨hTm.1, hTm.2.1, fun k hk => by rw [a2 92 (by decide) (by decide) (by decide) (by omega) (by decide) (by decide) (by decide) (by decide)]; exact hTm.2.2 k hk⟩ (by rw [e91]; exact h911) (fun g hg => by rw [a2 96 (by decide) (by decide) (by decide) (by omega) (by decide) (by decide) (by decide) (by decide)]; exact hBm g hg)
    rw [hx] at M
    obtain ⟨I2, J2, b1, b2, -, b4, hMD, hz⟩ := M
    obtain ⟨I3, c1, c2, c3, ⟨c41, c42, c43, c44, c45, c46, c47, c48, c22⟩, ⟨d56, d57, d78, d71, d59⟩, d132, d111, d107, d109, d110, hfm⟩ := m_lib_ok b1 hMD hp
    have rx : ∀ a, a < 91 → I3 a = I1 a := fun a ha => by rw [c2 a (by omega) (by omega) (by omega) (by omega), yAF_row b2 a (by omega)]
    have hD3 : yXD I3 J1 u ps := yXD_rows hD (fun a ha => rx a (by omega)) rfl
    obtain ⟨⟨x0, x1, x2, x3, x4, x5, x6, -, x24, x24'⟩, ⟨xW, -, xou, xod⟩, ⟨xl, xb⟩, -⟩ := hD3
    obtain ⟨-, htn, hbn, hrn, -, -, -, ho, hq, hsh, hmd, hwa, hod, hlaw, hbend, hl0, hb0, -⟩ := hp
    have hrow : ∀ k, k < 24 → zrow0 ps.2.2.2.1.length ps.2.2.2.2.2.1 k = ps.2.2.2.2.2.1 k := fun k hk => by
      unfold zrow0
      by_cases e : k < 4 * ps.2.2.2.1.length
      · rw [if_pos e]
      · rw [if_neg e, if_neg (by omega), (hz.2 k (by omega)).1]
    have hrow2 : ∀ k, k < 6 → zrow0 ps.2.2.2.1.length ps.2.2.2.2.2.1 (24 + k) = -1 := fun k hk => by
      unfold zrow0
      rw [if_neg (by omega), if_pos (by omega)]
    have hrow3 : ∀ k, 30 ≤ k → zrow0 ps.2.2.2.1.length ps.2.2.2.2.2.1 k = 0 := fun k hk => by
      unfold zrow0
      rw [if_neg (by omega), if_neg (by omega)]
    have hRow : zRow (I3 111) ps.2.1.length ps.2.2.1.length ps.2.2.2.1.length := by
      refine ⟨⟨fun k hk => ?_, fun k hk => ?_, ⟨0, Nat.two_pow_pos _, ?_⟩, ⟨0, Nat.two_pow_pos _, ?_⟩⟩, fun k hk => ⟨0, by decide, ?_⟩⟩
      · rw [d111 k (by omega), hrow k hk]; exact hwa k
      · rw [d111 _ (by omega), hrow2 k hk]; exact Or.inl rfl
      · rw [d111 _ (by omega), hrow3 _ (by omega)]; rfl
      · rw [d111 _ (by omega), hrow3 _ (by omega)]; rfl
      · rw [d111 _ (by omega), hrow3 _ (by omega)]; rfl
    have hNow : zNow I3 30 (I3 111) := by
      refine ⟨fun k hk => ?_, fun k hk => ?_, ?_, ?_, fun k hk => ?_⟩
      · rw [rx 31 (by decide), n1 k hk, d111 k (by omega), hrow k hk]
      · rw [rx 32 (by decide), n2 k hk, d111 _ (by omega), hrow2 k hk]
      · rw [rx 30 (by decide), n4, d111 _ (by omega), hrow3 _ (by omega)]
      · rw [rx 30 (by decide), n5, d111 _ (by omega), hrow3 _ (by omega)]
      · rw [rx 33 (by decide), n3 k hk, d111 _ (by omega), hrow3 _ (by omega)]
    have hML : ∃ L, L = ps.2.2.2.2.2.2.2.2.2.2.2.2.1.getD [-1] ∧ zval L 0 ∧ L.length ≤ 270 ∧ ((I3 91 47 = 0 ∧ L = [-1]) ∨ (I3 91 47 = 1 ∧ L.length ≤ 270 ∧ I3 99 0 = nI L.length ∧ ∀ k, k < L.length → ∃ m, L[k]? = some m ∧ zenc (I3 97 k) (I3 98 k) m)) := by
      cases hl : ps.2.2.2.2.2.2.2.2.2.2.2.2.1 with
      | none =>
        refine ⟨_, rfl, zval_l1, by decide, Or.inl ⟨?_, rfl⟩⟩
        rw [c47, hl0.mp hl]; rfl
      | some M =>
        have hb : ps.2.2.2.2.2.2.2.2.2.2.2.1.testBit 0 = true := by
          cases e : ps.2.2.2.2.2.2.2.2.2.2.2.1.testBit 0
          · rw [hl0.mpr e] at hl; cases hl
          · rfl
        have := zMk_law (hMD.2.2.1.1 M hl) (hlaw M hl).2 (hfm 0 (by decide))
        refine ⟨_, rfl, (hlaw M hl).1, Nat.le_succ_of_le (hlaw M hl).2, Or.inr ⟨by rw [c47, hb]; rfl, Nat.le_succ_of_le (hlaw M hl).2, this.1, fun k hk => ?_⟩⟩
        have := this.2 k hk
        rw [show 320 * 0 + k = k by omega] at this
        exact this
    have hMB : ∃ L, L = ps.2.2.2.2.2.2.2.2.2.2.2.2.2.1.getD [-3] ∧ zval L 0 ∧ L.length ≤ 270 ∧ ((I3 91 48 = 0 ∧ L = [-3]) ∨ (I3 91 48 = 1 ∧ I3 99 1 = nI L.length ∧ ∀ k, k < L.length → ∃ m, L[k]? = some m ∧ zenc (I3 97 (320 + k)) (I3 98 (320 + k)) m)) := by
      cases hl : ps.2.2.2.2.2.2.2.2.2.2.2.2.2.1 with
      | none =>
        refine ⟨_, rfl, zval_l3, by decide, Or.inl ⟨?_, rfl⟩⟩
        rw [c48, hb0.mp hl]; rfl
      | some M =>
        have hb : ps.2.2.2.2.2.2.2.2.2.2.2.1.testBit 1 = true := by
          cases e : ps.2.2.2.2.2.2.2.2.2.2.2.1.testBit 1
          · rw [hb0.mpr e] at hl; cases hl
          · rfl
        have := zMk_law (hMD.2.2.1.2 M hl) (hbend M hl).2 (hfm 1 (by decide))
        exact ⟨_, rfl, (hbend M hl).1, Nat.le_succ_of_le (hbend M hl).2, Or.inr ⟨by rw [c48, hb]; rfl, this.1, fun k hk => this.2 k hk⟩⟩
    obtain ⟨L, hL, l1, l2, l3⟩ := hML
    obtain ⟨B2, hB2, l4, l5, l6⟩ := hMB
    rw [← hL] at xl
    rw [← hB2] at xb
    obtain ⟨nl, tm, hk⟩ := h.2.2.2.2.2.2.2.2.2.2
    have c91 : ∀ k, k ≠ 22 → (k < 41 ∨ 48 < k) → k ≠ 56 → k ≠ 57 → k ≠ 59 → k ≠ 71 → k ≠ 78 → I3 91 k = I2 91 k := c3
    have hTo : zTold I3 u ps.2.1.length ps.2.2.1.length ps.2.2.2.1.length ps.2.2.2.2.2.2.2.2.1 ps.2.2.2.2.2.2.2.2.2.1 ps.2.2.2.2.2.2.2.2.2.2.1 L B2 := by
      refine ⟨⟨⟨c41, htn⟩, ⟨c42, hbn⟩, ⟨c43, hrn⟩, l1, l3⟩, ⟨⟨x0, htn⟩, ⟨x1, hbn⟩, ⟨x2, hrn⟩, l1, l2, xl.1, fun k hk => xl.2 k hk⟩, ⟨c44, x3, hq⟩, ⟨c45, x4, hsh.1, hsh.2⟩, ⟨c46, x5, hmd⟩, ?_, fun b k hb hk => ?_, fun r k hr hk => ?_, fun r hr => ⟨?_, ?_⟩, l4, l5, xb.1, fun k hk => xb.2 k hk, l6⟩
      · rw [x6, c22]
      · rw [xW _ (by omega), d107 _ (by omega)]
      · rw [xou _ (by omega), d109 _ (by omega)]
      · rw [xod _ (by omega), d110 _ (by omega)]
      · rw [d110 _ (by omega)]; exact hod r
    refine ⟨_, _, _, a1, c1, zIs_mk (t := u) (u := t) (nt := ps.2.1.length) (nb := ps.2.2.1.length) (nr := ps.2.2.2.1.length) (q := ps.2.2.2.2.2.2.2.2.1) (sh := ps.2.2.2.2.2.2.2.2.2.1) (md := ps.2.2.2.2.2.2.2.2.2.2.1) (om := 0) (im := 0) (LW := L) (BW := B2) ⟨by omega, ⟨hu, hTo, hNow, hRow.1, ⟨?_, Nat.two_pow_pos _⟩, ⟨?_, Nat.two_pow_pos _⟩, ?_, ?_⟩, hRow, zTp_0 ?_ ?_, ⟨?_, ?_⟩, ?_, fun b hb => Or.inl ⟨d132 b hb, ?_⟩, ⟨0, 0, 0, fun _ => I3 111, ⟨by decide, by decide⟩, ⟨?_, ?_, ?_, d56, d57⟩, fun j _ => hRow, fun k _ => rfl, fun j hj => by omega, fun j q1 q2 => by omega, fun j hj => by omega⟩, ⟨[], ?_, d71, by decide, List.nodup_nil, fun k b hk => by cases hk⟩, ⟨[], ⟨?_, fun k v hk => by cases hk⟩, ⟨d59, fun k v hk => by cases hk⟩, by decide⟩, 0, tm, ⟨?_, d78, by decide⟩, ⟨?_, ?_, hk.2.1.2.2⟩, fun l hl => by omega⟩⟩
    · rw [d111 31 (by decide), hrow3 31 (by decide)]; rfl
    · rw [d111 30 (by decide), hrow3 30 (by decide)]; rfl
    · rw [rx 51 (by decide), a2 51 (by decide) (by decide) (by decide) (by omega) (by decide) (by decide) (by decide) (by decide)]; exact h.2.1.2.2.2.2.2.2.1
    · rw [rx 51 (by decide), a2 51 (by decide) (by decide) (by decide) (by omega) (by decide) (by decide) (by decide) (by decide)]; exact h.2.1.2.2.2.2.2.2.2
    · rw [rx 0 (by decide)]; exact a3
    · rw [c91 1 (by decide) (by decide) (by decide) (by decide) (by decide) (by decide) (by decide)]; exact b4
    · rw [x24, c91 2 (by decide) (by decide) (by decide) (by decide) (by decide) (by decide) (by decide)]; exact hMD.1.2.2.2.2.2.2.2.2.1.symm
    · rw [x24', c91 3 (by decide) (by decide) (by decide) (by decide) (by decide) (by decide) (by decide)]; exact hMD.1.2.2.2.2.2.2.2.2.2.symm
    · intro g hg
      rw [c2 96 (by decide) (by decide) (by decide) (by decide)]; exact hMD.2.2.2.2 g hg
    · rw [rx _ (by omega)]; exact hbx b hb
    · rw [rx 41 (by decide)]; exact g1
    · rw [rx 41 (by decide)]; exact g2
    · rw [rx 41 (by decide)]; exact g3
    · rw [rx 0 (by decide)]; exact a4
    · rw [rx 0 (by decide)]; exact a5
    · rw [rx 68 (by decide)]; exact k1
    · rw [rx 68 (by decide), k2]; exact hk.2.1.1
    · rw [c91 79 (by decide) (by decide) (by decide) (by decide) (by decide) (by decide) (by decide), b2 91 79 rfl, e91]; exact hk.2.1.2.1
end ZLj
