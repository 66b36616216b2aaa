/-! about, left, look, untell -/
section ZSa
variable {I : Nat → Nat → Int32} {J : Nat → Nat → Int64} {t u i f s x : Nat} {nt nb nr q sh md om im : Nat} {LW BW : List Int32}
theorem s_about (h : zIv2 I t u nt nb nr q sh md om im LW BW) (p : Int32) : zOK0 (zs I J (zPt t u i f s x)) (fun σ => f_W_about σ 0 p) (fun σ => f_M_about σ 91 p) := by
  obtain ⟨-, ⟨ht, hT, hN, -⟩, -, ⟨n, B, g1, g2, g3, g4⟩, -, -, -, ⟨d, w, o, Q, -, ⟨a1, a2, a3, a4, a5⟩, -⟩, ⟨S, s1, s2, -⟩, ⟨V, v1, v2, v3⟩, nl, tm, k1, k2, -⟩ := h
  obtain ⟨hM, hX, hq, hsh, hmd, hun, -⟩ := hT
  by_cases h0 : p = 0
  · subst h0
    exact ⟨nI nt, by show f_W_about _ _ _ = _; rw [f_W_about, zg_11, if_pos (show (0 : Int32) = 0 from rfl), gp_11_2, zbs, gi_10 ht, zbs, hX.1.1], by show f_M_about _ _ _ = _; rw [f_M_about, zg_12, if_pos (show (0 : Int32) = 0 from rfl), gi_12, zbs, hM.1.1]⟩
  by_cases h1 : p = 1
  · subst h1
    exact ⟨nI nb, by show f_W_about _ _ _ = _; rw [f_W_about, zg_11, if_neg (show ¬ (1 : Int32) = 0 by decide), if_pos (show (1 : Int32) = 1 from rfl), gp_11_2, zbs, gi_10 ht, zbs, hX.2.1.1], by show f_M_about _ _ _ = _; rw [f_M_about, zg_12, if_neg (show ¬ (1 : Int32) = 0 by decide), if_pos (show (1 : Int32) = 1 from rfl), gi_12, zbs, hM.2.1.1]⟩
  by_cases h2 : p = 2
  · subst h2
    exact ⟨nI nr, by show f_W_about _ _ _ = _; rw [f_W_about, zg_11, if_neg (show ¬ (2 : Int32) = 0 by decide), if_neg (show ¬ (2 : Int32) = 1 by decide), if_pos (show (2 : Int32) = 2 from rfl), gp_11_2, zbs, gi_10 ht, zbs, hX.2.2.1.1], by show f_M_about _ _ _ = _; rw [f_M_about, zg_12, if_neg (show ¬ (2 : Int32) = 0 by decide), if_neg (show ¬ (2 : Int32) = 1 by decide), if_pos (show (2 : Int32) = 2 from rfl), gi_12, zbs, hM.2.2.1.1]⟩
  by_cases h3 : p = 3
  · subst h3
    exact ⟨I 111 30, by show f_W_about _ _ _ = _; rw [f_W_about, zg_11, if_neg (show ¬ (3 : Int32) = 0 by decide), if_neg (show ¬ (3 : Int32) = 1 by decide), if_neg (show ¬ (3 : Int32) = 2 by decide), if_pos (show (3 : Int32) = 3 from rfl), gp_11_5, zbs, gi_4 (Or.inl rfl), zbs, hN.2.2.1], by show f_M_about _ _ _ = _; rw [f_M_about, zg_12, if_neg (show ¬ (3 : Int32) = 0 by decide), if_neg (show ¬ (3 : Int32) = 1 by decide), if_neg (show ¬ (3 : Int32) = 2 by decide), if_pos (show (3 : Int32) = 3 from rfl), gp_12_49, zbs, al_111_30, zbs]⟩
  by_cases h4 : p = 4
  · subst h4
    exact ⟨I 111 31, by show f_W_about _ _ _ = _; rw [f_W_about, zg_11, if_neg (show ¬ (4 : Int32) = 0 by decide), if_neg (show ¬ (4 : Int32) = 1 by decide), if_neg (show ¬ (4 : Int32) = 2 by decide), if_neg (show ¬ (4 : Int32) = 3 by decide), if_pos (show (4 : Int32) = 4 from rfl), gp_11_5, zbs, gi_4 (Or.inl rfl), zbs, hN.2.2.2.1], by show f_M_about _ _ _ = _; rw [f_M_about, zg_12, if_neg (show ¬ (4 : Int32) = 0 by decide), if_neg (show ¬ (4 : Int32) = 1 by decide), if_neg (show ¬ (4 : Int32) = 2 by decide), if_neg (show ¬ (4 : Int32) = 3 by decide), if_pos (show (4 : Int32) = 4 from rfl), gp_12_49, zbs, al_111_31, zbs]⟩
  by_cases h5 : p = 5
  · subst h5
    exact ⟨zre (I 111), by show f_W_about _ _ _ = _; rw [f_W_about, zg_11, if_neg (show ¬ (5 : Int32) = 0 by decide), if_neg (show ¬ (5 : Int32) = 1 by decide), if_neg (show ¬ (5 : Int32) = 2 by decide), if_neg (show ¬ (5 : Int32) = 3 by decide), if_neg (show ¬ (5 : Int32) = 4 by decide), if_pos (show (5 : Int32) = 5 from rfl), gp_11_5, zbs, g_N_readings (Or.inl rfl) hN, zbs], by show f_M_about _ _ _ = _; rw [f_M_about, zg_12, if_neg (show ¬ (5 : Int32) = 0 by decide), if_neg (show ¬ (5 : Int32) = 1 by decide), if_neg (show ¬ (5 : Int32) = 2 by decide), if_neg (show ¬ (5 : Int32) = 3 by decide), if_neg (show ¬ (5 : Int32) = 4 by decide), if_pos (show (5 : Int32) = 5 from rfl), g_M_readsEver, zbs]⟩
  by_cases h6 : p = 6
  · subst h6
    exact ⟨nI d, by show f_W_about _ _ _ = _; rw [f_W_about, zg_11, if_neg (show ¬ (6 : Int32) = 0 by decide), if_neg (show ¬ (6 : Int32) = 1 by decide), if_neg (show ¬ (6 : Int32) = 2 by decide), if_neg (show ¬ (6 : Int32) = 3 by decide), if_neg (show ¬ (6 : Int32) = 4 by decide), if_neg (show ¬ (6 : Int32) = 5 by decide), if_pos (show (6 : Int32) = 6 from rfl), gp_11_8, zbs, gi_0, zbs, a1], by show f_M_about _ _ _ = _; rw [f_M_about, zg_12, if_neg (show ¬ (6 : Int32) = 0 by decide), if_neg (show ¬ (6 : Int32) = 1 by decide), if_neg (show ¬ (6 : Int32) = 2 by decide), if_neg (show ¬ (6 : Int32) = 3 by decide), if_neg (show ¬ (6 : Int32) = 4 by decide), if_neg (show ¬ (6 : Int32) = 5 by decide), if_pos (show (6 : Int32) = 6 from rfl), gi_12, zbs, a4]⟩
  by_cases h7 : p = 7
  · subst h7
    exact ⟨nI w, by show f_W_about _ _ _ = _; rw [f_W_about, zg_11, if_neg (show ¬ (7 : Int32) = 0 by decide), if_neg (show ¬ (7 : Int32) = 1 by decide), if_neg (show ¬ (7 : Int32) = 2 by decide), if_neg (show ¬ (7 : Int32) = 3 by decide), if_neg (show ¬ (7 : Int32) = 4 by decide), if_neg (show ¬ (7 : Int32) = 5 by decide), if_neg (show ¬ (7 : Int32) = 6 by decide), if_pos (show (7 : Int32) = 7 from rfl), gp_11_8, zbs, gi_0, zbs, a2], by show f_M_about _ _ _ = _; rw [f_M_about, zg_12, if_neg (show ¬ (7 : Int32) = 0 by decide), if_neg (show ¬ (7 : Int32) = 1 by decide), if_neg (show ¬ (7 : Int32) = 2 by decide), if_neg (show ¬ (7 : Int32) = 3 by decide), if_neg (show ¬ (7 : Int32) = 4 by decide), if_neg (show ¬ (7 : Int32) = 5 by decide), if_neg (show ¬ (7 : Int32) = 6 by decide), if_pos (show (7 : Int32) = 7 from rfl), gi_12, zbs, a5]⟩
  by_cases h8 : p = 8
  · subst h8
    exact ⟨nI nl, by show f_W_about _ _ _ = _; rw [f_W_about, zg_11, if_neg (show ¬ (8 : Int32) = 0 by decide), if_neg (show ¬ (8 : Int32) = 1 by decide), if_neg (show ¬ (8 : Int32) = 2 by decide), if_neg (show ¬ (8 : Int32) = 3 by decide), if_neg (show ¬ (8 : Int32) = 4 by decide), if_neg (show ¬ (8 : Int32) = 5 by decide), if_neg (show ¬ (8 : Int32) = 6 by decide), if_neg (show ¬ (8 : Int32) = 7 by decide), if_pos (show (8 : Int32) = 8 from rfl), gp_11_14, zbs, gi_3, zbs, k1.1], by show f_M_about _ _ _ = _; rw [f_M_about, zg_12, if_neg (show ¬ (8 : Int32) = 0 by decide), if_neg (show ¬ (8 : Int32) = 1 by decide), if_neg (show ¬ (8 : Int32) = 2 by decide), if_neg (show ¬ (8 : Int32) = 3 by decide), if_neg (show ¬ (8 : Int32) = 4 by decide), if_neg (show ¬ (8 : Int32) = 5 by decide), if_neg (show ¬ (8 : Int32) = 6 by decide), if_neg (show ¬ (8 : Int32) = 7 by decide), if_pos (show (8 : Int32) = 8 from rfl), gi_12, zbs, k1.2.1]⟩
  by_cases h9 : p = 9
  · subst h9
    exact ⟨nI S.length, by show f_W_about _ _ _ = _; rw [f_W_about, zg_11, if_neg (show ¬ (9 : Int32) = 0 by decide), if_neg (show ¬ (9 : Int32) = 1 by decide), if_neg (show ¬ (9 : Int32) = 2 by decide), if_neg (show ¬ (9 : Int32) = 3 by decide), if_neg (show ¬ (9 : Int32) = 4 by decide), if_neg (show ¬ (9 : Int32) = 5 by decide), if_neg (show ¬ (9 : Int32) = 6 by decide), if_neg (show ¬ (9 : Int32) = 7 by decide), if_neg (show ¬ (9 : Int32) = 8 by decide), if_pos (show (9 : Int32) = 9 from rfl), gi_11, zbs, s1], by show f_M_about _ _ _ = _; rw [f_M_about, zg_12, if_neg (show ¬ (9 : Int32) = 0 by decide), if_neg (show ¬ (9 : Int32) = 1 by decide), if_neg (show ¬ (9 : Int32) = 2 by decide), if_neg (show ¬ (9 : Int32) = 3 by decide), if_neg (show ¬ (9 : Int32) = 4 by decide), if_neg (show ¬ (9 : Int32) = 5 by decide), if_neg (show ¬ (9 : Int32) = 6 by decide), if_neg (show ¬ (9 : Int32) = 7 by decide), if_neg (show ¬ (9 : Int32) = 8 by decide), if_pos (show (9 : Int32) = 9 from rfl), gi_12, zbs, s2]⟩
  by_cases h10 : p = 10
  · subst h10
    exact ⟨nI tm, by show f_W_about _ _ _ = _; rw [f_W_about, zg_11, if_neg (show ¬ (10 : Int32) = 0 by decide), if_neg (show ¬ (10 : Int32) = 1 by decide), if_neg (show ¬ (10 : Int32) = 2 by decide), if_neg (show ¬ (10 : Int32) = 3 by decide), if_neg (show ¬ (10 : Int32) = 4 by decide), if_neg (show ¬ (10 : Int32) = 5 by decide), if_neg (show ¬ (10 : Int32) = 6 by decide), if_neg (show ¬ (10 : Int32) = 7 by decide), if_neg (show ¬ (10 : Int32) = 8 by decide), if_neg (show ¬ (10 : Int32) = 9 by decide), if_pos (show (10 : Int32) = 10 from rfl), gp_11_14, zbs, gi_3, zbs, k2.1], by show f_M_about _ _ _ = _; rw [f_M_about, zg_12, if_neg (show ¬ (10 : Int32) = 0 by decide), if_neg (show ¬ (10 : Int32) = 1 by decide), if_neg (show ¬ (10 : Int32) = 2 by decide), if_neg (show ¬ (10 : Int32) = 3 by decide), if_neg (show ¬ (10 : Int32) = 4 by decide), if_neg (show ¬ (10 : Int32) = 5 by decide), if_neg (show ¬ (10 : Int32) = 6 by decide), if_neg (show ¬ (10 : Int32) = 7 by decide), if_neg (show ¬ (10 : Int32) = 8 by decide), if_neg (show ¬ (10 : Int32) = 9 by decide), if_pos (show (10 : Int32) = 10 from rfl), gi_12, zbs, k2.2.1]⟩
  by_cases h11 : p = 11
  · subst h11
    exact ⟨nI n, by show f_W_about _ _ _ = _; rw [f_W_about, zg_11, if_neg (show ¬ (11 : Int32) = 0 by decide), if_neg (show ¬ (11 : Int32) = 1 by decide), if_neg (show ¬ (11 : Int32) = 2 by decide), if_neg (show ¬ (11 : Int32) = 3 by decide), if_neg (show ¬ (11 : Int32) = 4 by decide), if_neg (show ¬ (11 : Int32) = 5 by decide), if_neg (show ¬ (11 : Int32) = 6 by decide), if_neg (show ¬ (11 : Int32) = 7 by decide), if_neg (show ¬ (11 : Int32) = 8 by decide), if_neg (show ¬ (11 : Int32) = 9 by decide), if_neg (show ¬ (11 : Int32) = 10 by decide), if_pos (show (11 : Int32) = 11 from rfl), gi_11, zbs, g3], by show f_M_about _ _ _ = _; rw [f_M_about, zg_12, if_neg (show ¬ (11 : Int32) = 0 by decide), if_neg (show ¬ (11 : Int32) = 1 by decide), if_neg (show ¬ (11 : Int32) = 2 by decide), if_neg (show ¬ (11 : Int32) = 3 by decide), if_neg (show ¬ (11 : Int32) = 4 by decide), if_neg (show ¬ (11 : Int32) = 5 by decide), if_neg (show ¬ (11 : Int32) = 6 by decide), if_neg (show ¬ (11 : Int32) = 7 by decide), if_neg (show ¬ (11 : Int32) = 8 by decide), if_neg (show ¬ (11 : Int32) = 9 by decide), if_neg (show ¬ (11 : Int32) = 10 by decide), if_pos (show (11 : Int32) = 11 from rfl), gi_12, zbs, g4]⟩
  by_cases h12 : p = 12
  · subst h12
    exact ⟨I 91 22, by show f_W_about _ _ _ = _; rw [f_W_about, zg_11, if_neg (show ¬ (12 : Int32) = 0 by decide), if_neg (show ¬ (12 : Int32) = 1 by decide), if_neg (show ¬ (12 : Int32) = 2 by decide), if_neg (show ¬ (12 : Int32) = 3 by decide), if_neg (show ¬ (12 : Int32) = 4 by decide), if_neg (show ¬ (12 : Int32) = 5 by decide), if_neg (show ¬ (12 : Int32) = 6 by decide), if_neg (show ¬ (12 : Int32) = 7 by decide), if_neg (show ¬ (12 : Int32) = 8 by decide), if_neg (show ¬ (12 : Int32) = 9 by decide), if_neg (show ¬ (12 : Int32) = 10 by decide), if_neg (show ¬ (12 : Int32) = 11 by decide), if_pos (show (12 : Int32) = 12 from rfl), gp_11_2, zbs, gi_10 ht, zbs, hun], by show f_M_about _ _ _ = _; rw [f_M_about, zg_12, if_neg (show ¬ (12 : Int32) = 0 by decide), if_neg (show ¬ (12 : Int32) = 1 by decide), if_neg (show ¬ (12 : Int32) = 2 by decide), if_neg (show ¬ (12 : Int32) = 3 by decide), if_neg (show ¬ (12 : Int32) = 4 by decide), if_neg (show ¬ (12 : Int32) = 5 by decide), if_neg (show ¬ (12 : Int32) = 6 by decide), if_neg (show ¬ (12 : Int32) = 7 by decide), if_neg (show ¬ (12 : Int32) = 8 by decide), if_neg (show ¬ (12 : Int32) = 9 by decide), if_neg (show ¬ (12 : Int32) = 10 by decide), if_neg (show ¬ (12 : Int32) = 11 by decide), if_pos (show (12 : Int32) = 12 from rfl), gi_12, zbs]⟩
  by_cases h13 : p = 13
  · subst h13
    exact ⟨nI V.length, by show f_W_about _ _ _ = _; rw [f_W_about, zg_11, if_neg (show ¬ (13 : Int32) = 0 by decide), if_neg (show ¬ (13 : Int32) = 1 by decide), if_neg (show ¬ (13 : Int32) = 2 by decide), if_neg (show ¬ (13 : Int32) = 3 by decide), if_neg (show ¬ (13 : Int32) = 4 by decide), if_neg (show ¬ (13 : Int32) = 5 by decide), if_neg (show ¬ (13 : Int32) = 6 by decide), if_neg (show ¬ (13 : Int32) = 7 by decide), if_neg (show ¬ (13 : Int32) = 8 by decide), if_neg (show ¬ (13 : Int32) = 9 by decide), if_neg (show ¬ (13 : Int32) = 10 by decide), if_neg (show ¬ (13 : Int32) = 11 by decide), if_neg (show ¬ (13 : Int32) = 12 by decide), if_pos (show (13 : Int32) = 13 from rfl), gi_11, zbs, v1.1], by show f_M_about _ _ _ = _; rw [f_M_about, zg_12, if_neg (show ¬ (13 : Int32) = 0 by decide), if_neg (show ¬ (13 : Int32) = 1 by decide), if_neg (show ¬ (13 : Int32) = 2 by decide), if_neg (show ¬ (13 : Int32) = 3 by decide), if_neg (show ¬ (13 : Int32) = 4 by decide), if_neg (show ¬ (13 : Int32) = 5 by decide), if_neg (show ¬ (13 : Int32) = 6 by decide), if_neg (show ¬ (13 : Int32) = 7 by decide), if_neg (show ¬ (13 : Int32) = 8 by decide), if_neg (show ¬ (13 : Int32) = 9 by decide), if_neg (show ¬ (13 : Int32) = 10 by decide), if_neg (show ¬ (13 : Int32) = 11 by decide), if_neg (show ¬ (13 : Int32) = 12 by decide), if_pos (show (13 : Int32) = 13 from rfl), gi_12, zbs, v2.1]⟩
  by_cases h14 : p = 14
  · subst h14
    exact ⟨nI q, by show f_W_about _ _ _ = _; rw [f_W_about, zg_11, if_neg (show ¬ (14 : Int32) = 0 by decide), if_neg (show ¬ (14 : Int32) = 1 by decide), if_neg (show ¬ (14 : Int32) = 2 by decide), if_neg (show ¬ (14 : Int32) = 3 by decide), if_neg (show ¬ (14 : Int32) = 4 by decide), if_neg (show ¬ (14 : Int32) = 5 by decide), if_neg (show ¬ (14 : Int32) = 6 by decide), if_neg (show ¬ (14 : Int32) = 7 by decide), if_neg (show ¬ (14 : Int32) = 8 by decide), if_neg (show ¬ (14 : Int32) = 9 by decide), if_neg (show ¬ (14 : Int32) = 10 by decide), if_neg (show ¬ (14 : Int32) = 11 by decide), if_neg (show ¬ (14 : Int32) = 12 by decide), if_neg (show ¬ (14 : Int32) = 13 by decide), if_pos (show (14 : Int32) = 14 from rfl), gp_11_2, zbs, gi_10 ht, zbs, hq.2.1], by show f_M_about _ _ _ = _; rw [f_M_about, zg_12, if_neg (show ¬ (14 : Int32) = 0 by decide), if_neg (show ¬ (14 : Int32) = 1 by decide), if_neg (show ¬ (14 : Int32) = 2 by decide), if_neg (show ¬ (14 : Int32) = 3 by decide), if_neg (show ¬ (14 : Int32) = 4 by decide), if_neg (show ¬ (14 : Int32) = 5 by decide), if_neg (show ¬ (14 : Int32) = 6 by decide), if_neg (show ¬ (14 : Int32) = 7 by decide), if_neg (show ¬ (14 : Int32) = 8 by decide), if_neg (show ¬ (14 : Int32) = 9 by decide), if_neg (show ¬ (14 : Int32) = 10 by decide), if_neg (show ¬ (14 : Int32) = 11 by decide), if_neg (show ¬ (14 : Int32) = 12 by decide), if_neg (show ¬ (14 : Int32) = 13 by decide), if_pos (show (14 : Int32) = 14 from rfl), gi_12, zbs, hq.1]⟩
  exact ⟨-1, by show f_W_about _ _ _ = _; rw [f_W_about, zg_11, if_neg h0, if_neg h1, if_neg h2, if_neg h3, if_neg h4, if_neg h5, if_neg h6, if_neg h7, if_neg h8, if_neg h9, if_neg h10, if_neg h11, if_neg h12, if_neg h13, if_neg h14], by show f_M_about _ _ _ = _; rw [f_M_about, zg_12, if_neg h0, if_neg h1, if_neg h2, if_neg h3, if_neg h4, if_neg h5, if_neg h6, if_neg h7, if_neg h8, if_neg h9, if_neg h10, if_neg h11, if_neg h12, if_neg h13, if_neg h14]⟩
theorem s_untell (h : zIv2 I t u nt nb nr q sh md om im LW BW) (p : Int32) : zOKs (zs I J (zPt t u i f s x)) (fun σ => f_W_untell σ 0 p) (fun σ => f_M_untell σ 91 p) := by
  obtain ⟨nl, tm, k1, k2, k3⟩ := h.2.2.2.2.2.2.2.2.2.2
  have hin := g_M_isIn p (n := nl) (by omega)
  have c0 := k1.1
  have c1 := k1.2.1
  have same : f_W_untell (zs I J (zPt t u i f s x)) 0 p = some (0, (zs I J (zPt t u i f s x))) → f_M_untell (zs I J (zPt t u i f s x)) 91 p = some (0, (zs I J (zPt t u i f s x))) → zOKs (zs I J (zPt t u i f s x)) (fun σ => f_W_untell σ 0 p) (fun σ => f_M_untell σ 91 p) := fun e1 e2 => ⟨0, _, _, e1, e2, zIs_mk h⟩
  rcases zlt_cases p (n := nl) (by omega) with ⟨h1, k, hk, rfl⟩ | h1
  · rw [h1] at hin
    obtain ⟨l1, l2, l3, l4, l5, l6, l7, l8, l9⟩ := k3 k hk
    have hle : ¬ nl ≤ k := by omega
    have hk30 : k < 30 := by omega
    rcases l9 with l9 | l9
    · have e1 : I 73 k = -1 := l8.trans l9
      have hm1 : (-1 : Int32) < 0 := by decide
      have t1 := k2.1
      have t2' : zup I 73 k (nI tm) 91 79 = nI tm := by rw [zup_ne _ _ _ (by decide)]; exact k2.2.1
      have c1' : zup I 73 k (nI tm) 91 78 = nI nl := by rw [zup_ne _ _ _ (by decide)]; exact c1
      have e2' : zup I 73 k (nI tm) 130 k = -1 := by rw [zup_ne _ _ _ (by decide)]; exact l9
      have hfr : zfr zSq I (zup (zup I 73 k (nI tm)) 130 k (nI tm)) := zfr_up (zfr_up (zfr_refl _ _) rfl) rfl
      have hr : ∀ a, a ≠ 73 → a ≠ 130 → zup (zup I 73 k (nI tm)) 130 k (nI tm) a = I a := fun a h1 h2 => (zup_ne _ _ _ h2).trans (zup_ne _ _ _ h1)
      refine ⟨1, (zs (zup I 73 k (nI tm)) J (zPt t u i f s x)), (zs (zup (zup I 73 k (nI tm)) 130 k (nI tm)) J (zPt t u i f s x)), ?_, ?_, zIs_mk (zIv_frq h hfr (zTp_rows h.2.2.2.1 (hr 1 (by decide) (by decide)) (hr 92 (by decide) (by decide)) (by rw [hr 0 (by decide) (by decide)]) (by rw [hr 91 (by decide) (by decide)])) (zLf_rows h.2.2.2.2.2.2.2.2.1 (by rw [hr 0 (by decide) (by decide)]) (by rw [hr 91 (by decide) (by decide)]) (hr 74 (by decide) (by decide)) (hr 124 (by decide) (by decide))) (zLy_rows h.2.2.2.2.2.2.2.2.2.1 (by rw [hr 0 (by decide) (by decide)]) (by rw [hr 91 (by decide) (by decide)]) (hr 75 (by decide) (by decide)) (hr 117 (by decide) (by decide))) ⟨nl, tm, ?_⟩)⟩
      · show f_W_untell _ _ _ = _
        simp (disch := (first | omega | assumption)) only [f_W_untell, f_L_takeOut, zg_11, gp_11_14, zg_3, gi_3, gp_3_6, ai_73, wi_73, zbs, nI_add, pk_mul, znI_add1, znI_sub1, znI_subm, zle_nI, zlt_nI, zeq_nI, zle_0, zeq_0, zlt_0, zeq_m, zeq_1, zge_0, zbt0, zbt1, zB_0, zB_1, zB_b, zbool_0, zbool_1, ↓reduceIte, c0, hle, e1, t1]
      · show f_M_untell _ _ _ = _
        simp (disch := (first | omega | assumption)) only [f_M_untell, zg_12, gi_12, gp_12_77, ai_130, wi_130, zbs, nI_add, pk_mul, znI_add1, znI_sub1, znI_subm, zle_nI, zlt_nI, zeq_nI, zle_0, zeq_0, zlt_0, zeq_m, zeq_1, zge_0, zbt0, zbt1, zB_0, zB_1, zB_b, zbool_0, zbool_1, ↓reduceIte, c1', hin, e2', hm1, t2', Bool.true_eq_false]
      · unfold zLk
        rw [hr 68 (by decide) (by decide), hr 91 (by decide) (by decide), hr 69 (by decide) (by decide), hr 70 (by decide) (by decide), hr 71 (by decide) (by decide), hr 72 (by decide) (by decide), hr 126 (by decide) (by decide), hr 127 (by decide) (by decide), hr 128 (by decide) (by decide), hr 129 (by decide) (by decide)]
        refine ⟨k1, k2, fun l hl => ?_⟩
        obtain ⟨b1, b2, b3, b4, b5, b6, b7, b8, b9⟩ := k3 l hl
        refine ⟨b1, b2, b3, b4, b5, b6, b7, ?_, ?_⟩
        · rw [zup_ne _ _ _ (by decide), zup_at, zup_at]
          by_cases e : l = k
          · rw [if_pos e, if_pos e]
          · rw [if_neg e, if_neg e, zup_ne _ _ _ (by decide)]; exact b8
        · rw [zup_at]
          by_cases e : l = k
          · rw [if_pos e]
            right
            rw [zlt_0 (by omega)]
            exact fun h => h
          · rw [if_neg e, zup_ne _ _ _ (by decide)]; exact b9
    · have hm1 : ¬ I 130 k < 0 := l9
      have e1 : ¬ I 73 k = -1 := by
        rw [l8]
        intro e
        rw [e] at l9
        exact l9 (by decide)
      refine same ?_ ?_
      · simp (disch := (first | omega | assumption)) only [f_W_untell, f_L_takeOut, zg_11, gp_11_14, zg_3, gi_3, gp_3_6, ai_73, wi_73, zbs, nI_add, pk_mul, znI_add1, znI_sub1, znI_subm, zle_nI, zlt_nI, zeq_nI, zle_0, zeq_0, zlt_0, zeq_m, zeq_1, zge_0, zbt0, zbt1, zB_0, zB_1, zB_b, zbool_0, zbool_1, ↓reduceIte, c0, hle, e1]
      · simp (disch := (first | omega | assumption)) only [f_M_untell, zg_12, gi_12, gp_12_77, ai_130, wi_130, zbs, nI_add, pk_mul, znI_add1, znI_sub1, znI_subm, zle_nI, zlt_nI, zeq_nI, zle_0, zeq_0, zlt_0, zeq_m, zeq_1, zge_0, zbt0, zbt1, zB_0, zB_1, zB_b, zbool_0, zbool_1, ↓reduceIte, c1, hin, hm1, Bool.true_eq_false]
  · rw [h1] at hin
    refine same ?_ ?_
    · by_cases h0 : p < 0
      · simp (disch := (first | omega | assumption)) only [f_W_untell, f_L_takeOut, zg_11, gp_11_14, zg_3, gi_3, gp_3_6, ai_73, wi_73, zbs, nI_add, pk_mul, znI_add1, znI_sub1, znI_subm, zle_nI, zlt_nI, zeq_nI, zle_0, zeq_0, zlt_0, zeq_m, zeq_1, zge_0, zbt0, zbt1, zB_0, zB_1, zB_b, zbool_0, zbool_1, ↓reduceIte, h0]
      · have h2 : nI nl ≤ p := by
          unfold zlt at h1
          simp [h0] at h1
          exact h1
        simp (disch := (first | omega | assumption)) only [f_W_untell, f_L_takeOut, zg_11, gp_11_14, zg_3, gi_3, gp_3_6, ai_73, wi_73, zbs, nI_add, pk_mul, znI_add1, znI_sub1, znI_subm, zle_nI, zlt_nI, zeq_nI, zle_0, zeq_0, zlt_0, zeq_m, zeq_1, zge_0, zbt0, zbt1, zB_0, zB_1, zB_b, zbool_0, zbool_1, ↓reduceIte, h0, c0, h2]
    · simp (disch := (first | omega | assumption)) only [f_M_untell, zg_12, gi_12, gp_12_77, ai_130, wi_130, zbs, nI_add, pk_mul, znI_add1, znI_sub1, znI_subm, zle_nI, zlt_nI, zeq_nI, zle_0, zeq_0, zlt_0, zeq_m, zeq_1, zge_0, zbt0, zbt1, zB_0, zB_1, zB_b, zbool_0, zbool_1, ↓reduceIte, c1, hin]
theorem s_look (h : zIv2 I t u nt nb nr q sh md om im LW BW) (p a b : Int32) : zOKs (zs I J (zPt t u i f s x)) (fun σ => f_W_look σ 0 p a b) (fun σ => f_M_look σ 91 p a b) := by
  obtain ⟨nl, tm, k1, k2, k3⟩ := h.2.2.2.2.2.2.2.2.2.2
  obtain ⟨ht, hT, -⟩ := h.2.1
  obtain ⟨hM, hX, -⟩ := hT
  have hnr := hM.2.2.1.2
  have hnb := hM.2.1.2
  have c0 := k1.1
  have c1 := k1.2.1
  have x1 := g_W_isReader (J := J) (t := t) (u := u) (i := i) (f := f) (s := s) (x := x) ht hX.2.2.1.1 p
  have x2 := g_W_isBook (J := J) (t := t) (u := u) (i := i) (f := f) (s := s) (x := x) ht hX.2.1.1 a
  have x3 := g_W_isBook (J := J) (t := t) (u := u) (i := i) (f := f) (s := s) (x := x) ht hX.2.1.1 b
  have m1 := fun I' (h : I' 91 = I 91) => g_M_isReader (I := I') (J := J) (t := t) (u := u) (i := i) (f := f) (s := s) (x := x) (by rw [h]; exact hM.2.2.1.1) hnr p
  have m2 := fun I' (h : I' 91 = I 91) => g_M_isBook (I := I') (J := J) (t := t) (u := u) (i := i) (f := f) (s := s) (x := x) (by rw [h]; exact hM.2.1.1) hnb a
  have m3 := fun I' (h : I' 91 = I 91) => g_M_isBook (I := I') (J := J) (t := t) (u := u) (i := i) (f := f) (s := s) (x := x) (by rw [h]; exact hM.2.1.1) hnb b
  have same : f_W_look (zs I J (zPt t u i f s x)) 0 p a b = some (-1, (zs I J (zPt t u i f s x))) → f_M_look (zs I J (zPt t u i f s x)) 91 p a b = some (-1, (zs I J (zPt t u i f s x))) → zOKs (zs I J (zPt t u i f s x)) (fun σ => f_W_look σ 0 p a b) (fun σ => f_M_look σ 91 p a b) := fun e1 e2 => ⟨-1, _, _, e1, e2, zIs_mk h⟩
  have zt : ¬ zB true = 0 := by decide
  have zf : zB false = 0 := rfl
  rcases zlt_cases p (n := nr) (by omega) with ⟨h1, r, hr, rfl⟩ | h1
  rotate_left
  · rw [h1] at x1 m1
    refine same ?_ ?_
    · rw [f_W_look, zg_11, x1, zbs, if_pos zf]
    · rw [f_M_look, zg_12, m1 I rfl, zbs, if_pos zf]
  rcases zlt_cases a (n := nb) (by omega) with ⟨h2, c, hc, rfl⟩ | h2
  rotate_left
  · rw [h1] at x1 m1
    rw [h2] at x2 m2
    refine same ?_ ?_
    · rw [f_W_look, zg_11, x1, zbs, if_neg zt, x2, zbs, if_pos zf]
    · rw [f_M_look, zg_12, m1 I rfl, zbs, if_neg zt, m2 I rfl, zbs, if_pos zf]
  rcases zlt_cases b (n := nb) (by omega) with ⟨h3, e, he, rfl⟩ | h3
  rotate_left
  · rw [h1] at x1 m1
    rw [h2] at x2 m2
    rw [h3] at x3 m3
    refine same ?_ ?_
    · rw [f_W_look, zg_11, x1, zbs, if_neg zt, x2, zbs, if_neg zt, x3, zbs, if_pos zf]
    · rw [f_M_look, zg_12, m1 I rfl, zbs, if_neg zt, m2 I rfl, zbs, if_neg zt, m3 I rfl, zbs, if_pos zf]
  rw [h1] at x1 m1
  rw [h2] at x2 m2
  rw [h3] at x3 m3
  by_cases hce : nI c = nI e
  · refine same ?_ ?_
    · rw [f_W_look, zg_11, x1, zbs, if_neg zt, x2, zbs, if_neg zt, x3, zbs, if_neg zt, if_pos hce]
    · rw [f_M_look, zg_12, m1 I rfl, zbs, if_neg zt, m2 I rfl, zbs, if_neg zt, m3 I rfl, zbs, if_neg zt, if_pos hce]
  by_cases hl : nl < 30
  rotate_left
  · have hn : nl = 30 := by omega
    have l30 : ¬ nI nl < 30 := by rw [lt30 (by omega)]; exact hl
    have l31 : nI nl = 30 := by rw [hn]; rfl
    refine same ?_ ?_
    · rw [f_W_look, zg_11, x1, zbs, if_neg zt, x2, zbs, if_neg zt, x3, zbs, if_neg zt, if_neg hce, gp_11_14, zbs, f_L_add, zg_3, gi_3, zbs, c0, if_neg l30, zbs]
    · rw [f_M_look, zg_12, m1 I rfl, zbs, if_neg zt, m2 I rfl, zbs, if_neg zt, m3 I rfl, zbs, if_neg zt, if_neg hce, gi_12, zbs, c1, if_pos l31]
  have l30 : nI nl < 30 := by rw [lt30 (by omega)]; exact hl
  generalize hI1 : zup (zup (zup (zup (zup (zup I 71 nl (nI r)) 69 nl (nI c)) 70 nl (nI e)) 72 nl (nI tm)) 73 nl (-1)) 68 0 (nI (nl + 1)) = I1
  have r1 : ∀ a, a ≠ 68 → a ≠ 69 → a ≠ 70 → a ≠ 71 → a ≠ 72 → a ≠ 73 → I1 a = I a := fun a q1 q2 q3 q4 q5 q6 => by rw [← hI1, zup_ne _ _ _ q1, zup_ne _ _ _ q6, zup_ne _ _ _ q5, zup_ne _ _ _ q3, zup_ne _ _ _ q2, zup_ne _ _ _ q4]
  have hx : f_W_look (zs I J (zPt t u i f s x)) 0 (nI r) (nI c) (nI e) = some (nI nl, (zs I1 J (zPt t u i f s x))) := by
    have z1 : ∀ v, zup I 71 nl v 68 0 = nI nl := fun v => by rw [zup_ne _ _ _ (by decide)]; exact c0
    have z2 : zup (zup I 71 nl (nI r)) 69 nl (nI c) 68 0 = nI nl := by rw [zup_ne _ _ _ (by decide)]; exact z1 _
    have z3 : zup (zup (zup I 71 nl (nI r)) 69 nl (nI c)) 70 nl (nI e) 68 0 = nI nl := by rw [zup_ne _ _ _ (by decide)]; exact z2
    have z3' : zup (zup (zup I 71 nl (nI r)) 69 nl (nI c)) 70 nl (nI e) 68 1 = nI tm := by rw [zup_ne _ _ _ (by decide), zup_ne _ _ _ (by decide), zup_ne _ _ _ (by decide)]; exact k2.1
    have z4 : zup (zup (zup (zup I 71 nl (nI r)) 69 nl (nI c)) 70 nl (nI e)) 72 nl (nI tm) 68 0 = nI nl := by rw [zup_ne _ _ _ (by decide)]; exact z3
    have z5 : zup (zup (zup (zup (zup I 71 nl (nI r)) 69 nl (nI c)) 70 nl (nI e)) 72 nl (nI tm)) 73 nl (-1) 68 0 = nI nl := by rw [zup_ne _ _ _ (by decide)]; exact z4
    have z6 : zup (zup (zup (zup (zup (zup I 71 nl (nI r)) 69 nl (nI c)) 70 nl (nI e)) 72 nl (nI tm)) 73 nl (-1)) 68 0 (nI (nl + 1)) 68 0 = nI (nl + 1) := zup_s _ _ _ _
    rw [f_W_look, zg_11, x1, zbs, if_neg zt, x2, zbs, if_neg zt, x3, zbs, if_neg zt, if_neg hce, gp_11_14, zbs, f_L_add, zg_3, gi_3, zbs, c0, if_pos l30, gp_3_4, zbs, zbs, wi_71 hl, zbs, gp_3_2, zbs, gi_3, zbs, z1, wi_69 hl, zbs, gp_3_3, zbs, gi_3, zbs, z2, wi_70 hl, zbs, gp_3_5, zbs, gi_3, zbs, gi_3, zbs, z3, z3', wi_72 hl, zbs, gp_3_6, zbs, gi_3, zbs, z4, wi_73 hl, zbs, gi_3, zbs, z5, znI_add1, si_3, zbs, gi_3, zbs, z6, znI_sub1, zbs, hI1]
  have c1' : I1 91 78 = nI nl := by rw [r1 91 (by decide) (by decide) (by decide) (by decide) (by decide) (by decide)]; exact c1
  have t1' : I1 91 79 = nI tm := by rw [r1 91 (by decide) (by decide) (by decide) (by decide) (by decide) (by decide)]; exact k2.2.1
  generalize hI2 : zup (zup (zup (zup (zup (zup I1 126 nl (nI r)) 127 nl (nI c)) 128 nl (nI e)) 129 nl (nI tm)) 130 nl (-1)) 91 78 (nI (nl + 1)) = I2
  have r2 : ∀ a, a ≠ 91 → a ≠ 126 → a ≠ 127 → a ≠ 128 → a ≠ 129 → a ≠ 130 → I2 a = I1 a := fun a q1 q2 q3 q4 q5 q6 => by rw [← hI2, zup_ne _ _ _ q1, zup_ne _ _ _ q6, zup_ne _ _ _ q5, zup_ne _ _ _ q4, zup_ne _ _ _ q3, zup_ne _ _ _ q2]
  have n30 : ¬ nI nl = 30 := by rw [eq30 (by omega)]; omega
  have e91 : I1 91 = I 91 := r1 91 (by decide) (by decide) (by decide) (by decide) (by decide) (by decide)
  have hm : f_M_look (zs I1 J (zPt t u i f s x)) 91 (nI r) (nI c) (nI e) = some (nI nl, (zs I2 J (zPt t u i f s x))) := by
    have z1 : zup I1 126 nl (nI r) 91 78 = nI nl := by rw [zup_ne _ _ _ (by decide)]; exact c1'
    have z2 : zup (zup I1 126 nl (nI r)) 127 nl (nI c) 91 78 = nI nl := by rw [zup_ne _ _ _ (by decide)]; exact z1
    have z3 : zup (zup (zup I1 126 nl (nI r)) 127 nl (nI c)) 128 nl (nI e) 91 78 = nI nl := by rw [zup_ne _ _ _ (by decide)]; exact z2
    have z3' : zup (zup (zup I1 126 nl (nI r)) 127 nl (nI c)) 128 nl (nI e) 91 79 = nI tm := by rw [zup_ne _ _ _ (by decide), zup_ne _ _ _ (by decide), zup_ne _ _ _ (by decide)]; exact t1'
    have z4 : zup (zup (zup (zup I1 126 nl (nI r)) 127 nl (nI c)) 128 nl (nI e)) 129 nl (nI tm) 91 78 = nI nl := by rw [zup_ne _ _ _ (by decide)]; exact z3
    have z5 : zup (zup (zup (zup (zup I1 126 nl (nI r)) 127 nl (nI c)) 128 nl (nI e)) 129 nl (nI tm)) 130 nl (-1) 91 78 = nI nl := by rw [zup_ne _ _ _ (by decide)]; exact z4
    have z6 : zup (zup (zup (zup (zup (zup I1 126 nl (nI r)) 127 nl (nI c)) 128 nl (nI e)) 129 nl (nI tm)) 130 nl (-1)) 91 78 (nI (nl + 1)) 91 78 = nI (nl + 1) := zup_s _ _ _ _
    rw [f_M_look, zg_12, m1 I1 e91, zbs, if_neg zt, m2 I1 e91, zbs, if_neg zt, m3 I1 e91, zbs, if_neg zt, if_neg hce, gi_12, zbs, c1', if_neg n30, gp_12_73, zbs, zbs, wi_126 hl, zbs, gp_12_74, zbs, gi_12, zbs, z1, wi_127 hl, zbs, gp_12_75, zbs, gi_12, zbs, z2, wi_128 hl, zbs, gp_12_76, zbs, gi_12, zbs, gi_12, zbs, z3, z3', wi_129 hl, zbs, gp_12_77, zbs, gi_12, zbs, z4, wi_130 hl, zbs, gi_12, zbs, z5, znI_add1, si_12, zbs, gi_12, zbs, z6, znI_sub1, hI2]
  have hfr : zfr zSq I I2 := by
    rw [← hI2, ← hI1]
    iterate 12 refine zfr_up ?_ rfl
    exact zfr_refl _ _
  have hr12 : ∀ a, a ≠ 91 → (a < 68 ∨ 73 < a) → (a < 126 ∨ 130 < a) → I2 a = I a := fun a q1 q2 q3 => (r2 a q1 (by omega) (by omega) (by omega) (by omega) (by omega)).trans (r1 a (by omega) (by omega) (by omega) (by omega) (by omega) (by omega))
  have h91 : ∀ k, k ≠ 78 → I2 91 k = I 91 k := fun k hk => by rw [← hI2, zup_k _ _ hk, zup_ne _ _ _ (by decide), zup_ne _ _ _ (by decide), zup_ne _ _ _ (by decide), zup_ne _ _ _ (by decide), zup_ne _ _ _ (by decide), e91]
  refine ⟨nI nl, (zs I1 J (zPt t u i f s x)), (zs I2 J (zPt t u i f s x)), hx, hm, zIs_mk (zIv_frq h hfr (zTp_rows h.2.2.2.1 (hr12 1 (by decide) (by decide) (by decide)) (hr12 92 (by decide) (by decide) (by decide)) (by rw [hr12 0 (by decide) (by decide) (by decide)]) (h91 1 (by decide))) (zLf_rows h.2.2.2.2.2.2.2.2.1 (by rw [hr12 0 (by decide) (by decide) (by decide)]) (h91 71 (by decide)) (hr12 74 (by decide) (by decide) (by decide)) (hr12 124 (by decide) (by decide) (by decide))) (zLy_rows h.2.2.2.2.2.2.2.2.2.1 (by rw [hr12 0 (by decide) (by decide) (by decide)]) (h91 59 (by decide)) (hr12 75 (by decide) (by decide) (by decide)) (hr12 117 (by decide) (by decide) (by decide))) ⟨nl + 1, tm, ?_⟩)⟩
  have q68 : I2 68 = I1 68 := r2 68 (by decide) (by decide) (by decide) (by decide) (by decide) (by decide)
  have at1 : ∀ a v, (a = 69 ∧ v = nI c) ∨ (a = 70 ∧ v = nI e) ∨ (a = 71 ∧ v = nI r) ∨ (a = 72 ∧ v = nI tm) ∨ (a = 73 ∧ v = -1) → ∀ l, I2 a l = if l = nl then v else I a l := by
    intro a v hav l
    rcases hav with ⟨rfl, rfl⟩ | ⟨rfl, rfl⟩ | ⟨rfl, rfl⟩ | ⟨rfl, rfl⟩ | ⟨rfl, rfl⟩ <;> rw [← hI2, ← hI1] <;> simp [zup, zro, va_up]
  have at2 : ∀ a v, (a = 126 ∧ v = nI r) ∨ (a = 127 ∧ v = nI c) ∨ (a = 128 ∧ v = nI e) ∨ (a = 129 ∧ v = nI tm) ∨ (a = 130 ∧ v = -1) → ∀ l, I2 a l = if l = nl then v else I a l := by
    intro a v hav l
    rcases hav with ⟨rfl, rfl⟩ | ⟨rfl, rfl⟩ | ⟨rfl, rfl⟩ | ⟨rfl, rfl⟩ | ⟨rfl, rfl⟩ <;> rw [← hI2, ← hI1] <;> simp [zup, zro, va_up]
  refine ⟨⟨?_, ?_, by omega⟩, ⟨?_, ?_, k2.2.2⟩, fun l hl2 => ?_⟩
  · rw [q68, ← hI1, zup_s]
  · rw [← hI2, zup_s]
  · rw [q68, ← hI1, zup_k _ _ (by decide), zup_ne _ _ _ (by decide), zup_ne _ _ _ (by decide), zup_ne _ _ _ (by decide), zup_ne _ _ _ (by decide), zup_ne _ _ _ (by decide)]; exact k2.1
  · rw [h91 79 (by decide)]; exact k2.2.1
  · rw [at1 71 (nI r) (by simp), at1 69 (nI c) (by simp), at1 70 (nI e) (by simp), at1 72 (nI tm) (by simp), at1 73 (-1) (by simp), at2 126 (nI r) (by simp), at2 127 (nI c) (by simp), at2 128 (nI e) (by simp), at2 129 (nI tm) (by simp), at2 130 (-1) (by simp)]
    by_cases hll : l = nl
    · simp only [if_pos hll]
      exact ⟨trivial, ⟨r, hr, rfl⟩, trivial, ⟨c, hc, rfl⟩, trivial, ⟨e, he, rfl⟩, trivial, trivial, Or.inl trivial⟩
    · simp only [if_neg hll]
      exact k3 l (by omega)
end ZSa
