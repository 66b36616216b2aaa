/-! the law -/
theorem zsc_at {xs : Nat → Int32} {L j : Nat} (hj : j < L) (hL : L ≤ 3072) : zsc xs L (nI j) = some (xs j) := by
  rw [zsc, if_pos (zin_nI hj (by omega)), nI_clamp (by omega)]
theorem lg_self (v : Int64) : lg_cmp v v = 0 := by simp [lg_cmp]
section ZLaw
variable {xs : Nat → Int32} {L j : Nat} {k18 : zSt → Nat → Nat → Int32 → Option (Int32 × zSt)} {σ : zSt}
theorem law_208 (hs : zIs σ) (hk : ∀ σ2, zIs σ2 → ∃ σ3, k18 σ2 0 91 (nI j + 6) = some (1, σ3)) (e1 : zsc xs L (nI j + 1) = some (xs (j + 1))) (e2 : zsc xs L (nI j + 2) = some (xs (j + 2))) (e3 : zsc xs L (nI j + 3) = some (xs (j + 3))) (e4 : zsc xs L (nI j + 4) = some (xs (j + 4))) (e5 : zsc xs L (nI j + 5) = some (xs (j + 5))) : ∃ σ3, f_Q_law_208 xs L k18 σ 0 91 (nI j) = some (1, σ3) := by
  obtain ⟨I, J, t, u, i, f, s, x, rfl, nt, nb, nr, q, sh, md, om, im, LW, BW, h⟩ := hs
  obtain ⟨v, σ1, σ2, h1, h2, h3⟩ := s_feed (J := J) (t := t) (u := u) (i := i) (f := f) (s := s) (x := x) h (xs (j + 1)) (xs (j + 2)) (xs (j + 3)) (xs (j + 4)) (xs (j + 5))
  have h1 : f_W_feed (zs I J (zPt t u i f s x)) 0 (xs (j + 1)) (xs (j + 2)) (xs (j + 3)) (xs (j + 4)) (xs (j + 5)) = some (v, σ1) := h1
  have h2 : f_M_feed σ1 91 (xs (j + 1)) (xs (j + 2)) (xs (j + 3)) (xs (j + 4)) (xs (j + 5)) = some (v, σ2) := h2
  obtain ⟨σ3, h4⟩ := hk σ2 h3
  exact ⟨σ3, by simp only [f_Q_law_208, e1, e2, e3, e4, e5, zbs, h1, h2, h4, if_true]⟩
theorem law_271 (hs : zIs σ) (hk : ∀ σ2, zIs σ2 → ∃ σ3, k18 σ2 0 91 (nI j + 6) = some (1, σ3)) (e1 : zsc xs L (nI j + 1) = some (xs (j + 1))) (e2 : zsc xs L (nI j + 2) = some (xs (j + 2))) (e3 : zsc xs L (nI j + 3) = some (xs (j + 3))) (e4 : zsc xs L (nI j + 4) = some (xs (j + 4))) (e5 : zsc xs L (nI j + 5) = some (xs (j + 5))) : ∃ σ3, f_Q_law_271 xs L k18 σ 0 91 (nI j) = some (1, σ3) := by
  obtain ⟨I, J, t, u, i, f, s, x, rfl, nt, nb, nr, q, sh, md, om, im, LW, BW, h⟩ := hs
  obtain ⟨v, σ1, σ2, h1, h2, h3⟩ := s_end (J := J) (t := t) (u := u) (i := i) (f := f) (s := s) (x := x) h (xs (j + 1))
  have h1 : f_W_end (zs I J (zPt t u i f s x)) 0 (xs (j + 1)) = some (v, σ1) := h1
  have h2 : f_M_end σ1 91 (xs (j + 1)) = some (v, σ2) := h2
  obtain ⟨σ3, h4⟩ := hk σ2 h3
  exact ⟨σ3, by simp only [f_Q_law_271, e1, zbs, h1, h2, h4, if_true]⟩
theorem law_294 (hs : zIs σ) (hk : ∀ σ2, zIs σ2 → ∃ σ3, k18 σ2 0 91 (nI j + 6) = some (1, σ3)) (e1 : zsc xs L (nI j + 1) = some (xs (j + 1))) (e2 : zsc xs L (nI j + 2) = some (xs (j + 2))) (e3 : zsc xs L (nI j + 3) = some (xs (j + 3))) (e4 : zsc xs L (nI j + 4) = some (xs (j + 4))) (e5 : zsc xs L (nI j + 5) = some (xs (j + 5))) : ∃ σ3, f_Q_law_294 xs L k18 σ 0 91 (nI j) = some (1, σ3) := by
  obtain ⟨I, J, t, u, i, f, s, x, rfl, nt, nb, nr, q, sh, md, om, im, LW, BW, h⟩ := hs
  obtain ⟨v, σ1, σ2, h1, h2, h3⟩ := s_library (J := J) (t := t) (u := u) (i := i) (f := f) (s := s) (x := x) h
  have h1 : f_W_library (zs I J (zPt t u i f s x)) 0 = some (v, σ1) := h1
  have h2 : f_M_library σ1 91 = some (v, σ2) := h2
  obtain ⟨σ3, h4⟩ := hk σ2 h3
  exact ⟨σ3, by simp only [f_Q_law_294, zbs, h1, h2, h4, if_true]⟩
theorem law_307 (hs : zIs σ) (hk : ∀ σ2, zIs σ2 → ∃ σ3, k18 σ2 0 91 (nI j + 6) = some (1, σ3)) (e1 : zsc xs L (nI j + 1) = some (xs (j + 1))) (e2 : zsc xs L (nI j + 2) = some (xs (j + 2))) (e3 : zsc xs L (nI j + 3) = some (xs (j + 3))) (e4 : zsc xs L (nI j + 4) = some (xs (j + 4))) (e5 : zsc xs L (nI j + 5) = some (xs (j + 5))) : ∃ σ3, f_Q_law_307 xs L k18 σ 0 91 (nI j) = some (1, σ3) := by
  obtain ⟨I, J, t, u, i, f, s, x, rfl, nt, nb, nr, q, sh, md, om, im, LW, BW, h⟩ := hs
  obtain ⟨v, h1, h2⟩ := s_fault (J := J) (t := t) (u := u) (i := i) (f := f) (s := s) (x := x) h (xs (j + 1))
  have h1 : f_W_fault (zs I J (zPt t u i f s x)) 0 (xs (j + 1)) = some v := h1
  have h2 : f_M_fault (zs I J (zPt t u i f s x)) 91 (xs (j + 1)) = some v := h2
  obtain ⟨σ3, h4⟩ := hk (zs I J (zPt t u i f s x)) (zIs_mk h)
  exact ⟨σ3, by simp only [f_Q_law_307, e1, zbs, h1, h2, h4, if_true]⟩
theorem law_330 (hs : zIs σ) (hk : ∀ σ2, zIs σ2 → ∃ σ3, k18 σ2 0 91 (nI j + 6) = some (1, σ3)) (e1 : zsc xs L (nI j + 1) = some (xs (j + 1))) (e2 : zsc xs L (nI j + 2) = some (xs (j + 2))) (e3 : zsc xs L (nI j + 3) = some (xs (j + 3))) (e4 : zsc xs L (nI j + 4) = some (xs (j + 4))) (e5 : zsc xs L (nI j + 5) = some (xs (j + 5))) : ∃ σ3, f_Q_law_330 xs L k18 σ 0 91 (nI j) = some (1, σ3) := by
  obtain ⟨I, J, t, u, i, f, s, x, rfl, nt, nb, nr, q, sh, md, om, im, LW, BW, h⟩ := hs
  obtain ⟨v, h1, h2⟩ := s_weight (J := J) (t := t) (u := u) (i := i) (f := f) (s := s) (x := x) h (xs (j + 1)) (xs (j + 2))
  have h1 : f_W_weight (zs I J (zPt t u i f s x)) 0 (xs (j + 1)) (xs (j + 2)) = some v := h1
  have h2 : f_M_weight (zs I J (zPt t u i f s x)) 91 (xs (j + 1)) (xs (j + 2)) = some v := h2
  obtain ⟨σ3, h4⟩ := hk (zs I J (zPt t u i f s x)) (zIs_mk h)
  exact ⟨σ3, by simp only [f_Q_law_330, e1, e2, zbs, h1, h2, h4, if_true]⟩
theorem law_363 (hs : zIs σ) (hk : ∀ σ2, zIs σ2 → ∃ σ3, k18 σ2 0 91 (nI j + 6) = some (1, σ3)) (e1 : zsc xs L (nI j + 1) = some (xs (j + 1))) (e2 : zsc xs L (nI j + 2) = some (xs (j + 2))) (e3 : zsc xs L (nI j + 3) = some (xs (j + 3))) (e4 : zsc xs L (nI j + 4) = some (xs (j + 4))) (e5 : zsc xs L (nI j + 5) = some (xs (j + 5))) : ∃ σ3, f_Q_law_363 xs L k18 σ 0 91 (nI j) = some (1, σ3) := by
  obtain ⟨I, J, t, u, i, f, s, x, rfl, nt, nb, nr, q, sh, md, om, im, LW, BW, h⟩ := hs
  obtain ⟨v, h1, h2⟩ := s_wants (J := J) (t := t) (u := u) (i := i) (f := f) (s := s) (x := x) h (xs (j + 1)) (xs (j + 2))
  have h1 : f_W_wants (zs I J (zPt t u i f s x)) 0 (xs (j + 1)) (xs (j + 2)) = some v := h1
  have h2 : f_M_wants (zs I J (zPt t u i f s x)) 91 (xs (j + 1)) (xs (j + 2)) = some v := h2
  obtain ⟨σ3, h4⟩ := hk (zs I J (zPt t u i f s x)) (zIs_mk h)
  exact ⟨σ3, by simp only [f_Q_law_363, e1, e2, zbs, h1, h2, h4, if_true]⟩
theorem law_396 (hs : zIs σ) (hk : ∀ σ2, zIs σ2 → ∃ σ3, k18 σ2 0 91 (nI j + 6) = some (1, σ3)) (e1 : zsc xs L (nI j + 1) = some (xs (j + 1))) (e2 : zsc xs L (nI j + 2) = some (xs (j + 2))) (e3 : zsc xs L (nI j + 3) = some (xs (j + 3))) (e4 : zsc xs L (nI j + 4) = some (xs (j + 4))) (e5 : zsc xs L (nI j + 5) = some (xs (j + 5))) : ∃ σ3, f_Q_law_396 xs L k18 σ 0 91 (nI j) = some (1, σ3) := by
  obtain ⟨I, J, t, u, i, f, s, x, rfl, nt, nb, nr, q, sh, md, om, im, LW, BW, h⟩ := hs
  obtain ⟨v, h1, h2⟩ := s_reader (J := J) (t := t) (u := u) (i := i) (f := f) (s := s) (x := x) h (xs (j + 1)) (xs (j + 2))
  have h1 : f_W_reader (zs I J (zPt t u i f s x)) 0 (xs (j + 1)) (xs (j + 2)) = some v := h1
  have h2 : f_M_reader (zs I J (zPt t u i f s x)) 91 (xs (j + 1)) (xs (j + 2)) = some v := h2
  obtain ⟨σ3, h4⟩ := hk (zs I J (zPt t u i f s x)) (zIs_mk h)
  exact ⟨σ3, by simp only [f_Q_law_396, e1, e2, zbs, h1, h2, h4, if_true]⟩
theorem law_429 (hs : zIs σ) (hk : ∀ σ2, zIs σ2 → ∃ σ3, k18 σ2 0 91 (nI j + 6) = some (1, σ3)) (e1 : zsc xs L (nI j + 1) = some (xs (j + 1))) (e2 : zsc xs L (nI j + 2) = some (xs (j + 2))) (e3 : zsc xs L (nI j + 3) = some (xs (j + 3))) (e4 : zsc xs L (nI j + 4) = some (xs (j + 4))) (e5 : zsc xs L (nI j + 5) = some (xs (j + 5))) : ∃ σ3, f_Q_law_429 xs L k18 σ 0 91 (nI j) = some (1, σ3) := by
  obtain ⟨I, J, t, u, i, f, s, x, rfl, nt, nb, nr, q, sh, md, om, im, LW, BW, h⟩ := hs
  obtain ⟨v, σ1, σ2, h1, h2, h3⟩ := zOKs_2 h (q_key (J := J) (t := t) (u := u) (i := i) (f := f) (s := s) (x := x) h.2.1 (xs (j + 1)) (xs (j + 2)))
  have h1 : f_W_key (zs I J (zPt t u i f s x)) 0 (xs (j + 1)) (xs (j + 2)) = some (v, σ1) := h1
  have h2 : f_M_key σ1 91 (xs (j + 1)) (xs (j + 2)) = some (v, σ2) := h2
  obtain ⟨σ3, h4⟩ := hk σ2 h3
  exact ⟨σ3, by simp only [f_Q_law_429, e1, e2, zbs, h1, h2, h4, if_true]⟩
theorem law_462 (hs : zIs σ) (hk : ∀ σ2, zIs σ2 → ∃ σ3, k18 σ2 0 91 (nI j + 6) = some (1, σ3)) (e1 : zsc xs L (nI j + 1) = some (xs (j + 1))) (e2 : zsc xs L (nI j + 2) = some (xs (j + 2))) (e3 : zsc xs L (nI j + 3) = some (xs (j + 3))) (e4 : zsc xs L (nI j + 4) = some (xs (j + 4))) (e5 : zsc xs L (nI j + 5) = some (xs (j + 5))) : ∃ σ3, f_Q_law_462 xs L k18 σ 0 91 (nI j) = some (1, σ3) := by
  obtain ⟨I, J, t, u, i, f, s, x, rfl, nt, nb, nr, q, sh, md, om, im, LW, BW, h⟩ := hs
  obtain ⟨v, σ1, σ2, h1, h2, h3⟩ := zOKs_2 h (q_place (J := J) (t := t) (u := u) (i := i) (f := f) (s := s) (x := x) h.2.1 (xs (j + 1)) (xs (j + 2)))
  have h1 : f_W_place (zs I J (zPt t u i f s x)) 0 (xs (j + 1)) (xs (j + 2)) = some (v, σ1) := h1
  have h2 : f_M_place σ1 91 (xs (j + 1)) (xs (j + 2)) = some (v, σ2) := h2
  obtain ⟨σ3, h4⟩ := hk σ2 h3
  exact ⟨σ3, by simp only [f_Q_law_462, e1, e2, zbs, h1, h2, h4, if_true]⟩
theorem law_495 (hs : zIs σ) (hk : ∀ σ2, zIs σ2 → ∃ σ3, k18 σ2 0 91 (nI j + 6) = some (1, σ3)) (e1 : zsc xs L (nI j + 1) = some (xs (j + 1))) (e2 : zsc xs L (nI j + 2) = some (xs (j + 2))) (e3 : zsc xs L (nI j + 3) = some (xs (j + 3))) (e4 : zsc xs L (nI j + 4) = some (xs (j + 4))) (e5 : zsc xs L (nI j + 5) = some (xs (j + 5))) : ∃ σ3, f_Q_law_495 xs L k18 σ 0 91 (nI j) = some (1, σ3) := by
  obtain ⟨I, J, t, u, i, f, s, x, rfl, nt, nb, nr, q, sh, md, om, im, LW, BW, h⟩ := hs
  obtain ⟨v, σ1, σ2, h1, h2, h3⟩ := zOKs_2 h (q_book (J := J) (t := t) (u := u) (i := i) (f := f) (s := s) (x := x) h.2.1 (xs (j + 1)) (xs (j + 2)))
  have h1 : f_W_book (zs I J (zPt t u i f s x)) 0 (xs (j + 1)) (xs (j + 2)) = some (v, σ1) := h1
  have h2 : f_M_book σ1 91 (xs (j + 1)) (xs (j + 2)) = some (v, σ2) := h2
  obtain ⟨σ3, h4⟩ := hk σ2 h3
  exact ⟨σ3, by simp only [f_Q_law_495, e1, e2, zbs, h1, h2, h4, if_true]⟩
theorem law_528 (hs : zIs σ) (hk : ∀ σ2, zIs σ2 → ∃ σ3, k18 σ2 0 91 (nI j + 6) = some (1, σ3)) (e1 : zsc xs L (nI j + 1) = some (xs (j + 1))) (e2 : zsc xs L (nI j + 2) = some (xs (j + 2))) (e3 : zsc xs L (nI j + 3) = some (xs (j + 3))) (e4 : zsc xs L (nI j + 4) = some (xs (j + 4))) (e5 : zsc xs L (nI j + 5) = some (xs (j + 5))) : ∃ σ3, f_Q_law_528 xs L k18 σ 0 91 (nI j) = some (1, σ3) := by
  obtain ⟨I, J, t, u, i, f, s, x, rfl, nt, nb, nr, q, sh, md, om, im, LW, BW, h⟩ := hs
  obtain ⟨v, σ1, σ2, h1, h2, h3⟩ := zOKs_2 h (q_steps (J := J) (t := t) (u := u) (i := i) (f := f) (s := s) (x := x) h.2.1 (xs (j + 1)))
  have h1 : f_W_steps (zs I J (zPt t u i f s x)) 0 (xs (j + 1)) = some (v, σ1) := h1
  have h2 : f_M_steps σ1 91 (xs (j + 1)) = some (v, σ2) := h2
  obtain ⟨σ3, h4⟩ := hk σ2 h3
  exact ⟨σ3, by simp only [f_Q_law_528, e1, zbs, h1, h2, h4, if_true]⟩
theorem law_551 (hs : zIs σ) (hk : ∀ σ2, zIs σ2 → ∃ σ3, k18 σ2 0 91 (nI j + 6) = some (1, σ3)) (e1 : zsc xs L (nI j + 1) = some (xs (j + 1))) (e2 : zsc xs L (nI j + 2) = some (xs (j + 2))) (e3 : zsc xs L (nI j + 3) = some (xs (j + 3))) (e4 : zsc xs L (nI j + 4) = some (xs (j + 4))) (e5 : zsc xs L (nI j + 5) = some (xs (j + 5))) : ∃ σ3, f_Q_law_551 xs L k18 σ 0 91 (nI j) = some (1, σ3) := by
  obtain ⟨I, J, t, u, i, f, s, x, rfl, nt, nb, nr, q, sh, md, om, im, LW, BW, h⟩ := hs
  obtain ⟨v, σ1, σ2, h1, h2, h3⟩ := s_comes (J := J) (t := t) (u := u) (i := i) (f := f) (s := s) (x := x) h (xs (j + 1))
  have h1 : f_W_comes (zs I J (zPt t u i f s x)) 0 (xs (j + 1)) = some (v, σ1) := h1
  have h2 : f_M_comes σ1 91 (xs (j + 1)) = some (v, σ2) := h2
  obtain ⟨σ3, h4⟩ := hk σ2 h3
  exact ⟨σ3, by simp only [f_Q_law_551, e1, zbs, h1, h2, h4, if_true]⟩
theorem law_574 (hs : zIs σ) (hk : ∀ σ2, zIs σ2 → ∃ σ3, k18 σ2 0 91 (nI j + 6) = some (1, σ3)) (e1 : zsc xs L (nI j + 1) = some (xs (j + 1))) (e2 : zsc xs L (nI j + 2) = some (xs (j + 2))) (e3 : zsc xs L (nI j + 3) = some (xs (j + 3))) (e4 : zsc xs L (nI j + 4) = some (xs (j + 4))) (e5 : zsc xs L (nI j + 5) = some (xs (j + 5))) : ∃ σ3, f_Q_law_574 xs L k18 σ 0 91 (nI j) = some (1, σ3) := by
  obtain ⟨I, J, t, u, i, f, s, x, rfl, nt, nb, nr, q, sh, md, om, im, LW, BW, h⟩ := hs
  obtain ⟨v, σ1, σ2, h1, h2, h3⟩ := s_mood (J := J) (t := t) (u := u) (i := i) (f := f) (s := s) (x := x) h (xs (j + 1)) (xs (j + 2))
  have h1 : f_W_mood (zs I J (zPt t u i f s x)) 0 (xs (j + 1)) (xs (j + 2)) = some (v, σ1) := h1
  have h2 : f_M_mood σ1 91 (xs (j + 1)) (xs (j + 2)) = some (v, σ2) := h2
  obtain ⟨σ3, h4⟩ := hk σ2 h3
  exact ⟨σ3, by simp only [f_Q_law_574, e1, e2, zbs, h1, h2, h4, if_true]⟩
theorem law_607 (hs : zIs σ) (hk : ∀ σ2, zIs σ2 → ∃ σ3, k18 σ2 0 91 (nI j + 6) = some (1, σ3)) (e1 : zsc xs L (nI j + 1) = some (xs (j + 1))) (e2 : zsc xs L (nI j + 2) = some (xs (j + 2))) (e3 : zsc xs L (nI j + 3) = some (xs (j + 3))) (e4 : zsc xs L (nI j + 4) = some (xs (j + 4))) (e5 : zsc xs L (nI j + 5) = some (xs (j + 5))) : ∃ σ3, f_Q_law_607 xs L k18 σ 0 91 (nI j) = some (1, σ3) := by
  obtain ⟨I, J, t, u, i, f, s, x, rfl, nt, nb, nr, q, sh, md, om, im, LW, BW, h⟩ := hs
  obtain ⟨v, σ1, σ2, h1, h2, h3⟩ := s_out (J := J) (t := t) (u := u) (i := i) (f := f) (s := s) (x := x) h (xs (j + 1))
  have h1 : f_W_out (zs I J (zPt t u i f s x)) 0 (xs (j + 1)) = some (v, σ1) := h1
  have h2 : f_M_out σ1 91 (xs (j + 1)) = some (v, σ2) := h2
  obtain ⟨σ3, h4⟩ := hk σ2 h3
  exact ⟨σ3, by simp only [f_Q_law_607, e1, zbs, h1, h2, h4, if_true]⟩
theorem law_630 (hs : zIs σ) (hk : ∀ σ2, zIs σ2 → ∃ σ3, k18 σ2 0 91 (nI j + 6) = some (1, σ3)) (e1 : zsc xs L (nI j + 1) = some (xs (j + 1))) (e2 : zsc xs L (nI j + 2) = some (xs (j + 2))) (e3 : zsc xs L (nI j + 3) = some (xs (j + 3))) (e4 : zsc xs L (nI j + 4) = some (xs (j + 4))) (e5 : zsc xs L (nI j + 5) = some (xs (j + 5))) : ∃ σ3, f_Q_law_630 xs L k18 σ 0 91 (nI j) = some (1, σ3) := by
  obtain ⟨I, J, t, u, i, f, s, x, rfl, nt, nb, nr, q, sh, md, om, im, LW, BW, h⟩ := hs
  obtain ⟨v, σ1, σ2, h1, h2, h3⟩ := s_read (J := J) (t := t) (u := u) (i := i) (f := f) (s := s) (x := x) h (xs (j + 1)) (xs (j + 2))
  have h1 : f_W_read (zs I J (zPt t u i f s x)) 0 (xs (j + 1)) (xs (j + 2)) = some (v, σ1) := h1
  have h2 : f_M_read σ1 91 (xs (j + 1)) (xs (j + 2)) = some (v, σ2) := h2
  obtain ⟨σ3, h4⟩ := hk σ2 h3
  exact ⟨σ3, by simp only [f_Q_law_630, e1, e2, zbs, h1, h2, h4, if_true]⟩
theorem law_663 (hs : zIs σ) (hk : ∀ σ2, zIs σ2 → ∃ σ3, k18 σ2 0 91 (nI j + 6) = some (1, σ3)) (e1 : zsc xs L (nI j + 1) = some (xs (j + 1))) (e2 : zsc xs L (nI j + 2) = some (xs (j + 2))) (e3 : zsc xs L (nI j + 3) = some (xs (j + 3))) (e4 : zsc xs L (nI j + 4) = some (xs (j + 4))) (e5 : zsc xs L (nI j + 5) = some (xs (j + 5))) : ∃ σ3, f_Q_law_663 xs L k18 σ 0 91 (nI j) = some (1, σ3) := by
  obtain ⟨I, J, t, u, i, f, s, x, rfl, nt, nb, nr, q, sh, md, om, im, LW, BW, h⟩ := hs
  obtain ⟨v, σ1, σ2, h1, h2, h3⟩ := s_undo (J := J) (t := t) (u := u) (i := i) (f := f) (s := s) (x := x) h
  have h1 : f_W_undo (zs I J (zPt t u i f s x)) 0 = some (v, σ1) := h1
  have h2 : f_M_undo σ1 91 = some (v, σ2) := h2
  obtain ⟨σ3, h4⟩ := hk σ2 h3
  exact ⟨σ3, by simp only [f_Q_law_663, zbs, h1, h2, h4, if_true]⟩
theorem law_676 (hs : zIs σ) (hk : ∀ σ2, zIs σ2 → ∃ σ3, k18 σ2 0 91 (nI j + 6) = some (1, σ3)) (e1 : zsc xs L (nI j + 1) = some (xs (j + 1))) (e2 : zsc xs L (nI j + 2) = some (xs (j + 2))) (e3 : zsc xs L (nI j + 3) = some (xs (j + 3))) (e4 : zsc xs L (nI j + 4) = some (xs (j + 4))) (e5 : zsc xs L (nI j + 5) = some (xs (j + 5))) : ∃ σ3, f_Q_law_676 xs L k18 σ 0 91 (nI j) = some (1, σ3) := by
  obtain ⟨I, J, t, u, i, f, s, x, rfl, nt, nb, nr, q, sh, md, om, im, LW, BW, h⟩ := hs
  obtain ⟨v, σ1, σ2, h1, h2, h3⟩ := s_redo (J := J) (t := t) (u := u) (i := i) (f := f) (s := s) (x := x) h
  have h1 : f_W_redo (zs I J (zPt t u i f s x)) 0 = some (v, σ1) := h1
  have h2 : f_M_redo σ1 91 = some (v, σ2) := h2
  obtain ⟨σ3, h4⟩ := hk σ2 h3
  exact ⟨σ3, by simp only [f_Q_law_676, zbs, h1, h2, h4, if_true]⟩
theorem law_689 (hs : zIs σ) (hk : ∀ σ2, zIs σ2 → ∃ σ3, k18 σ2 0 91 (nI j + 6) = some (1, σ3)) (e1 : zsc xs L (nI j + 1) = some (xs (j + 1))) (e2 : zsc xs L (nI j + 2) = some (xs (j + 2))) (e3 : zsc xs L (nI j + 3) = some (xs (j + 3))) (e4 : zsc xs L (nI j + 4) = some (xs (j + 4))) (e5 : zsc xs L (nI j + 5) = some (xs (j + 5))) : ∃ σ3, f_Q_law_689 xs L k18 σ 0 91 (nI j) = some (1, σ3) := by
  obtain ⟨I, J, t, u, i, f, s, x, rfl, nt, nb, nr, q, sh, md, om, im, LW, BW, h⟩ := hs
  obtain ⟨v, σ1, σ2, h1, h2, h3⟩ := zOKs_3 h (q_unlike (J := J) (t := t) (u := u) (i := i) (f := f) (s := s) (x := x) h.2.1 (xs (j + 1)) (xs (j + 2)))
  have h1 : f_W_unlike (zs I J (zPt t u i f s x)) 0 (xs (j + 1)) (xs (j + 2)) = some (v, σ1) := h1
  have h2 : f_M_unlike σ1 91 (xs (j + 1)) (xs (j + 2)) = some (v, σ2) := h2
  obtain ⟨σ3, h4⟩ := hk σ2 h3
  exact ⟨σ3, by simp only [f_Q_law_689, e1, e2, zbs, h1, h2, h4, if_true]⟩
theorem law_722 (hs : zIs σ) (hk : ∀ σ2, zIs σ2 → ∃ σ3, k18 σ2 0 91 (nI j + 6) = some (1, σ3)) (e1 : zsc xs L (nI j + 1) = some (xs (j + 1))) (e2 : zsc xs L (nI j + 2) = some (xs (j + 2))) (e3 : zsc xs L (nI j + 3) = some (xs (j + 3))) (e4 : zsc xs L (nI j + 4) = some (xs (j + 4))) (e5 : zsc xs L (nI j + 5) = some (xs (j + 5))) : ∃ σ3, f_Q_law_722 xs L k18 σ 0 91 (nI j) = some (1, σ3) := by
  obtain ⟨I, J, t, u, i, f, s, x, rfl, nt, nb, nr, q, sh, md, om, im, LW, BW, h⟩ := hs
  obtain ⟨v, σ1, σ2, h1, h2, h3⟩ := zOKs_2 h (q_send (J := J) (t := t) (u := u) (i := i) (f := f) (s := s) (x := x) h.2.1 (xs (j + 1)) (xs (j + 2)))
  have h1 : f_W_send (zs I J (zPt t u i f s x)) 0 (xs (j + 1)) (xs (j + 2)) = some (v, σ1) := h1
  have h2 : f_M_send σ1 91 (xs (j + 1)) (xs (j + 2)) = some (v, σ2) := h2
  obtain ⟨σ3, h4⟩ := hk σ2 h3
  exact ⟨σ3, by simp only [f_Q_law_722, e1, e2, zbs, h1, h2, h4, if_true]⟩
theorem law_755 (hs : zIs σ) (hk : ∀ σ2, zIs σ2 → ∃ σ3, k18 σ2 0 91 (nI j + 6) = some (1, σ3)) (e1 : zsc xs L (nI j + 1) = some (xs (j + 1))) (e2 : zsc xs L (nI j + 2) = some (xs (j + 2))) (e3 : zsc xs L (nI j + 3) = some (xs (j + 3))) (e4 : zsc xs L (nI j + 4) = some (xs (j + 4))) (e5 : zsc xs L (nI j + 5) = some (xs (j + 5))) : ∃ σ3, f_Q_law_755 xs L k18 σ 0 91 (nI j) = some (1, σ3) := by
  obtain ⟨I, J, t, u, i, f, s, x, rfl, nt, nb, nr, q, sh, md, om, im, LW, BW, h⟩ := hs
  obtain ⟨v, σ1, σ2, h1, h2, h3⟩ := zOKs_2 h (q_think (J := J) (t := t) (u := u) (i := i) (f := f) (s := s) (x := x) h.2.1 (xs (j + 1)) (xs (j + 2)) (xs (j + 3)))
  have h1 : f_W_think (zs I J (zPt t u i f s x)) 0 (xs (j + 1)) (xs (j + 2)) (xs (j + 3)) = some (v, σ1) := h1
  have h2 : f_M_think σ1 91 (xs (j + 1)) (xs (j + 2)) (xs (j + 3)) = some (v, σ2) := h2
  obtain ⟨σ3, h4⟩ := hk σ2 h3
  exact ⟨σ3, by simp only [f_Q_law_755, e1, e2, e3, zbs, h1, h2, h4, if_true]⟩
theorem law_798 (hs : zIs σ) (hk : ∀ σ2, zIs σ2 → ∃ σ3, k18 σ2 0 91 (nI j + 6) = some (1, σ3)) (e1 : zsc xs L (nI j + 1) = some (xs (j + 1))) (e2 : zsc xs L (nI j + 2) = some (xs (j + 2))) (e3 : zsc xs L (nI j + 3) = some (xs (j + 3))) (e4 : zsc xs L (nI j + 4) = some (xs (j + 4))) (e5 : zsc xs L (nI j + 5) = some (xs (j + 5))) : ∃ σ3, f_Q_law_798 xs L k18 σ 0 91 (nI j) = some (1, σ3) := by
  obtain ⟨I, J, t, u, i, f, s, x, rfl, nt, nb, nr, q, sh, md, om, im, LW, BW, h⟩ := hs
  obtain ⟨v, σ1, σ2, h1, h2, h3⟩ := zOKs_2 h (q_errand (J := J) (t := t) (u := u) (i := i) (f := f) (s := s) (x := x) h.2.1 (xs (j + 1)) (xs (j + 2)))
  have h1 : f_W_errand (zs I J (zPt t u i f s x)) 0 (xs (j + 1)) (xs (j + 2)) = some (v, σ1) := h1
  have h2 : f_M_errand σ1 91 (xs (j + 1)) (xs (j + 2)) = some (v, σ2) := h2
  obtain ⟨σ3, h4⟩ := hk σ2 h3
  exact ⟨σ3, by simp only [f_Q_law_798, e1, e2, zbs, h1, h2, h4, if_true]⟩
theorem law_831 (hs : zIs σ) (hk : ∀ σ2, zIs σ2 → ∃ σ3, k18 σ2 0 91 (nI j + 6) = some (1, σ3)) (e1 : zsc xs L (nI j + 1) = some (xs (j + 1))) (e2 : zsc xs L (nI j + 2) = some (xs (j + 2))) (e3 : zsc xs L (nI j + 3) = some (xs (j + 3))) (e4 : zsc xs L (nI j + 4) = some (xs (j + 4))) (e5 : zsc xs L (nI j + 5) = some (xs (j + 5))) : ∃ σ3, f_Q_law_831 xs L k18 σ 0 91 (nI j) = some (1, σ3) := by
  obtain ⟨I, J, t, u, i, f, s, x, rfl, nt, nb, nr, q, sh, md, om, im, LW, BW, h⟩ := hs
  obtain ⟨v, σ1, σ2, h1, h2, h3⟩ := zOKs_2 h (q_leads (J := J) (t := t) (u := u) (i := i) (f := f) (s := s) (x := x) h.2.1 (xs (j + 1)) (xs (j + 2)))
  have h1 : f_W_leads (zs I J (zPt t u i f s x)) 0 (xs (j + 1)) (xs (j + 2)) = some (v, σ1) := h1
  have h2 : f_M_leads σ1 91 (xs (j + 1)) (xs (j + 2)) = some (v, σ2) := h2
  obtain ⟨σ3, h4⟩ := hk σ2 h3
  exact ⟨σ3, by simp only [f_Q_law_831, e1, e2, zbs, h1, h2, h4, if_true]⟩
theorem law_864 (hs : zIs σ) (hk : ∀ σ2, zIs σ2 → ∃ σ3, k18 σ2 0 91 (nI j + 6) = some (1, σ3)) (e1 : zsc xs L (nI j + 1) = some (xs (j + 1))) (e2 : zsc xs L (nI j + 2) = some (xs (j + 2))) (e3 : zsc xs L (nI j + 3) = some (xs (j + 3))) (e4 : zsc xs L (nI j + 4) = some (xs (j + 4))) (e5 : zsc xs L (nI j + 5) = some (xs (j + 5))) : ∃ σ3, f_Q_law_864 xs L k18 σ 0 91 (nI j) = some (1, σ3) := by
  obtain ⟨I, J, t, u, i, f, s, x, rfl, nt, nb, nr, q, sh, md, om, im, LW, BW, h⟩ := hs
  obtain ⟨v, σ1, σ2, h1, h2, h3⟩ := zOKs_3 h (q_hide (J := J) (t := t) (u := u) (i := i) (f := f) (s := s) (x := x) h.2.1 (xs (j + 1)) (xs (j + 2)) (xs (j + 3)) (xs (j + 4)))
  have h1 : f_W_hide (zs I J (zPt t u i f s x)) 0 (xs (j + 1)) (xs (j + 2)) (xs (j + 3)) (xs (j + 4)) = some (v, σ1) := h1
  have h2 : f_M_hide σ1 91 (xs (j + 1)) (xs (j + 2)) (xs (j + 3)) (xs (j + 4)) = some (v, σ2) := h2
  obtain ⟨σ3, h4⟩ := hk σ2 h3
  exact ⟨σ3, by simp only [f_Q_law_864, e1, e2, e3, e4, zbs, h1, h2, h4, if_true]⟩
theorem law_917 (hs : zIs σ) (hk : ∀ σ2, zIs σ2 → ∃ σ3, k18 σ2 0 91 (nI j + 6) = some (1, σ3)) (e1 : zsc xs L (nI j + 1) = some (xs (j + 1))) (e2 : zsc xs L (nI j + 2) = some (xs (j + 2))) (e3 : zsc xs L (nI j + 3) = some (xs (j + 3))) (e4 : zsc xs L (nI j + 4) = some (xs (j + 4))) (e5 : zsc xs L (nI j + 5) = some (xs (j + 5))) : ∃ σ3, f_Q_law_917 xs L k18 σ 0 91 (nI j) = some (1, σ3) := by
  obtain ⟨I, J, t, u, i, f, s, x, rfl, nt, nb, nr, q, sh, md, om, im, LW, BW, h⟩ := hs
  obtain ⟨v, σ1, σ2, h1, h2, h3⟩ := zOKs_3 h (q_pretend (J := J) (t := t) (u := u) (i := i) (f := f) (s := s) (x := x) h.2.1 (xs (j + 1)) (xs (j + 2)) (xs (j + 3)))
  have h1 : f_W_pretend (zs I J (zPt t u i f s x)) 0 (xs (j + 1)) (xs (j + 2)) (xs (j + 3)) = some (v, σ1) := h1
  have h2 : f_M_pretend σ1 91 (xs (j + 1)) (xs (j + 2)) (xs (j + 3)) = some (v, σ2) := h2
  obtain ⟨σ3, h4⟩ := hk σ2 h3
  exact ⟨σ3, by simp only [f_Q_law_917, e1, e2, e3, zbs, h1, h2, h4, if_true]⟩
theorem law_960 (hs : zIs σ) (hk : ∀ σ2, zIs σ2 → ∃ σ3, k18 σ2 0 91 (nI j + 6) = some (1, σ3)) (e1 : zsc xs L (nI j + 1) = some (xs (j + 1))) (e2 : zsc xs L (nI j + 2) = some (xs (j + 2))) (e3 : zsc xs L (nI j + 3) = some (xs (j + 3))) (e4 : zsc xs L (nI j + 4) = some (xs (j + 4))) (e5 : zsc xs L (nI j + 5) = some (xs (j + 5))) : ∃ σ3, f_Q_law_960 xs L k18 σ 0 91 (nI j) = some (1, σ3) := by
  obtain ⟨I, J, t, u, i, f, s, x, rfl, nt, nb, nr, q, sh, md, om, im, LW, BW, h⟩ := hs
  obtain ⟨v, σ1, σ2, h1, h2, h3⟩ := zOKs_3 h (q_rest (J := J) (t := t) (u := u) (i := i) (f := f) (s := s) (x := x) h.2.1 (xs (j + 1)) (xs (j + 2)) (xs (j + 3)))
  have h1 : f_W_rest (zs I J (zPt t u i f s x)) 0 (xs (j + 1)) (xs (j + 2)) (xs (j + 3)) = some (v, σ1) := h1
  have h2 : f_M_rest σ1 91 (xs (j + 1)) (xs (j + 2)) (xs (j + 3)) = some (v, σ2) := h2
  obtain ⟨σ3, h4⟩ := hk σ2 h3
  exact ⟨σ3, by simp only [f_Q_law_960, e1, e2, e3, zbs, h1, h2, h4, if_true]⟩
theorem law_1003 (hs : zIs σ) (hk : ∀ σ2, zIs σ2 → ∃ σ3, k18 σ2 0 91 (nI j + 6) = some (1, σ3)) (e1 : zsc xs L (nI j + 1) = some (xs (j + 1))) (e2 : zsc xs L (nI j + 2) = some (xs (j + 2))) (e3 : zsc xs L (nI j + 3) = some (xs (j + 3))) (e4 : zsc xs L (nI j + 4) = some (xs (j + 4))) (e5 : zsc xs L (nI j + 5) = some (xs (j + 5))) : ∃ σ3, f_Q_law_1003 xs L k18 σ 0 91 (nI j) = some (1, σ3) := by
  obtain ⟨I, J, t, u, i, f, s, x, rfl, nt, nb, nr, q, sh, md, om, im, LW, BW, h⟩ := hs
  obtain ⟨v, σ1, σ2, h1, h2, h3⟩ := s_left (J := J) (t := t) (u := u) (i := i) (f := f) (s := s) (x := x) h (xs (j + 1))
  have h1 : f_W_left (zs I J (zPt t u i f s x)) 0 (xs (j + 1)) = some (v, σ1) := h1
  have h2 : f_M_left σ1 91 (xs (j + 1)) = some (v, σ2) := h2
  obtain ⟨σ3, h4⟩ := hk σ2 h3
  exact ⟨σ3, by simp only [f_Q_law_1003, e1, zbs, h1, h2, h4, if_true]⟩
theorem law_1026 (hs : zIs σ) (hk : ∀ σ2, zIs σ2 → ∃ σ3, k18 σ2 0 91 (nI j + 6) = some (1, σ3)) (e1 : zsc xs L (nI j + 1) = some (xs (j + 1))) (e2 : zsc xs L (nI j + 2) = some (xs (j + 2))) (e3 : zsc xs L (nI j + 3) = some (xs (j + 3))) (e4 : zsc xs L (nI j + 4) = some (xs (j + 4))) (e5 : zsc xs L (nI j + 5) = some (xs (j + 5))) : ∃ σ3, f_Q_law_1026 xs L k18 σ 0 91 (nI j) = some (1, σ3) := by
  obtain ⟨I, J, t, u, i, f, s, x, rfl, nt, nb, nr, q, sh, md, om, im, LW, BW, h⟩ := hs
  obtain ⟨v, σ1, σ2, h1, h2, h3⟩ := s_hush (J := J) (t := t) (u := u) (i := i) (f := f) (s := s) (x := x) h
  have h1 : f_W_hush (zs I J (zPt t u i f s x)) 0 = some (v, σ1) := h1
  have h2 : f_M_hush σ1 91 = some (v, σ2) := h2
  obtain ⟨σ3, h4⟩ := hk σ2 h3
  exact ⟨σ3, by simp only [f_Q_law_1026, zbs, h1, h2, h4, if_true]⟩
theorem law_1039 (hs : zIs σ) (hk : ∀ σ2, zIs σ2 → ∃ σ3, k18 σ2 0 91 (nI j + 6) = some (1, σ3)) (e1 : zsc xs L (nI j + 1) = some (xs (j + 1))) (e2 : zsc xs L (nI j + 2) = some (xs (j + 2))) (e3 : zsc xs L (nI j + 3) = some (xs (j + 3))) (e4 : zsc xs L (nI j + 4) = some (xs (j + 4))) (e5 : zsc xs L (nI j + 5) = some (xs (j + 5))) : ∃ σ3, f_Q_law_1039 xs L k18 σ 0 91 (nI j) = some (1, σ3) := by
  obtain ⟨I, J, t, u, i, f, s, x, rfl, nt, nb, nr, q, sh, md, om, im, LW, BW, h⟩ := hs
  obtain ⟨Z, hZ⟩ := h.2.2.2.2.2.2.2.2.1
  obtain ⟨v, σ1, σ2, h1, h2, h3⟩ := zOKs_2 h (q_was (J := J) (t := t) (u := u) (i := i) (f := f) (s := s) (x := x) h.2.1 hZ (xs (j + 1)))
  have h1 : f_W_was (zs I J (zPt t u i f s x)) 0 (xs (j + 1)) = some (v, σ1) := h1
  have h2 : f_M_was σ1 91 (xs (j + 1)) = some (v, σ2) := h2
  obtain ⟨σ3, h4⟩ := hk σ2 h3
  exact ⟨σ3, by simp only [f_Q_law_1039, e1, zbs, h1, h2, h4, if_true]⟩
theorem law_1062 (hs : zIs σ) (hk : ∀ σ2, zIs σ2 → ∃ σ3, k18 σ2 0 91 (nI j + 6) = some (1, σ3)) (e1 : zsc xs L (nI j + 1) = some (xs (j + 1))) (e2 : zsc xs L (nI j + 2) = some (xs (j + 2))) (e3 : zsc xs L (nI j + 3) = some (xs (j + 3))) (e4 : zsc xs L (nI j + 4) = some (xs (j + 4))) (e5 : zsc xs L (nI j + 5) = some (xs (j + 5))) : ∃ σ3, f_Q_law_1062 xs L k18 σ 0 91 (nI j) = some (1, σ3) := by
  obtain ⟨I, J, t, u, i, f, s, x, rfl, nt, nb, nr, q, sh, md, om, im, LW, BW, h⟩ := hs
  obtain ⟨v, σ1, σ2, h1, h2, h3⟩ := zOKs_3 h (q_one (J := J) (t := t) (u := u) (i := i) (f := f) (s := s) (x := x) h.2.1)
  have h1 : f_W_one (zs I J (zPt t u i f s x)) 0 = some (v, σ1) := h1
  have h2 : f_M_one σ1 91 = some (v, σ2) := h2
  obtain ⟨σ3, h4⟩ := hk σ2 h3
  exact ⟨σ3, by simp only [f_Q_law_1062, zbs, h1, h2, h4, if_true]⟩
theorem law_1075 (hs : zIs σ) (hk : ∀ σ2, zIs σ2 → ∃ σ3, k18 σ2 0 91 (nI j + 6) = some (1, σ3)) (e1 : zsc xs L (nI j + 1) = some (xs (j + 1))) (e2 : zsc xs L (nI j + 2) = some (xs (j + 2))) (e3 : zsc xs L (nI j + 3) = some (xs (j + 3))) (e4 : zsc xs L (nI j + 4) = some (xs (j + 4))) (e5 : zsc xs L (nI j + 5) = some (xs (j + 5))) : ∃ σ3, f_Q_law_1075 xs L k18 σ 0 91 (nI j) = some (1, σ3) := by
  obtain ⟨I, J, t, u, i, f, s, x, rfl, nt, nb, nr, q, sh, md, om, im, LW, BW, h⟩ := hs
  obtain ⟨v, σ1, σ2, h1, h2, h3⟩ := zOKs_2J h (q_crowd (J := J) (t := t) (u := u) (i := i) (f := f) (s := s) (x := x) h.2.1 (xs (j + 1)) (xs (j + 2)) (xs (j + 3)))
  have h1 : f_W_crowd (zs I J (zPt t u i f s x)) 0 (xs (j + 1)) (xs (j + 2)) (xs (j + 3)) = some (v, σ1) := h1
  have h2 : f_M_crowd σ1 91 (xs (j + 1)) (xs (j + 2)) (xs (j + 3)) = some (v, σ2) := h2
  obtain ⟨σ3, h4⟩ := hk σ2 h3
  exact ⟨σ3, by simp only [f_Q_law_1075, e1, e2, e3, zbs, h1, h2, h4, if_true, lg_self]⟩
theorem law_1119 (hs : zIs σ) (hk : ∀ σ2, zIs σ2 → ∃ σ3, k18 σ2 0 91 (nI j + 6) = some (1, σ3)) (e1 : zsc xs L (nI j + 1) = some (xs (j + 1))) (e2 : zsc xs L (nI j + 2) = some (xs (j + 2))) (e3 : zsc xs L (nI j + 3) = some (xs (j + 3))) (e4 : zsc xs L (nI j + 4) = some (xs (j + 4))) (e5 : zsc xs L (nI j + 5) = some (xs (j + 5))) : ∃ σ3, f_Q_law_1119 xs L k18 σ 0 91 (nI j) = some (1, σ3) := by
  obtain ⟨I, J, t, u, i, f, s, x, rfl, nt, nb, nr, q, sh, md, om, im, LW, BW, h⟩ := hs
  obtain ⟨v, h1, h2⟩ := s_lies (J := J) (t := t) (u := u) (i := i) (f := f) (s := s) (x := x) h (xs (j + 1))
  have h1 : f_W_lies (zs I J (zPt t u i f s x)) 0 (xs (j + 1)) = some v := h1
  have h2 : f_M_lies (zs I J (zPt t u i f s x)) 91 (xs (j + 1)) = some v := h2
  obtain ⟨σ3, h4⟩ := hk (zs I J (zPt t u i f s x)) (zIs_mk h)
  exact ⟨σ3, by simp only [f_Q_law_1119, e1, zbs, h1, h2, h4, if_true]⟩
theorem law_1142 (hs : zIs σ) (hk : ∀ σ2, zIs σ2 → ∃ σ3, k18 σ2 0 91 (nI j + 6) = some (1, σ3)) (e1 : zsc xs L (nI j + 1) = some (xs (j + 1))) (e2 : zsc xs L (nI j + 2) = some (xs (j + 2))) (e3 : zsc xs L (nI j + 3) = some (xs (j + 3))) (e4 : zsc xs L (nI j + 4) = some (xs (j + 4))) (e5 : zsc xs L (nI j + 5) = some (xs (j + 5))) : ∃ σ3, f_Q_law_1142 xs L k18 σ 0 91 (nI j) = some (1, σ3) := by
  obtain ⟨I, J, t, u, i, f, s, x, rfl, nt, nb, nr, q, sh, md, om, im, LW, BW, h⟩ := hs
  obtain ⟨v, σ1, σ2, h1, h2, h3⟩ := s_look (J := J) (t := t) (u := u) (i := i) (f := f) (s := s) (x := x) h (xs (j + 1)) (xs (j + 2)) (xs (j + 3))
  have h1 : f_W_look (zs I J (zPt t u i f s x)) 0 (xs (j + 1)) (xs (j + 2)) (xs (j + 3)) = some (v, σ1) := h1
  have h2 : f_M_look σ1 91 (xs (j + 1)) (xs (j + 2)) (xs (j + 3)) = some (v, σ2) := h2
  obtain ⟨σ3, h4⟩ := hk σ2 h3
  exact ⟨σ3, by simp only [f_Q_law_1142, e1, e2, e3, zbs, h1, h2, h4, if_true]⟩
theorem law_1185 (hs : zIs σ) (hk : ∀ σ2, zIs σ2 → ∃ σ3, k18 σ2 0 91 (nI j + 6) = some (1, σ3)) (e1 : zsc xs L (nI j + 1) = some (xs (j + 1))) (e2 : zsc xs L (nI j + 2) = some (xs (j + 2))) (e3 : zsc xs L (nI j + 3) = some (xs (j + 3))) (e4 : zsc xs L (nI j + 4) = some (xs (j + 4))) (e5 : zsc xs L (nI j + 5) = some (xs (j + 5))) : ∃ σ3, f_Q_law_1185 xs L k18 σ 0 91 (nI j) = some (1, σ3) := by
  obtain ⟨I, J, t, u, i, f, s, x, rfl, nt, nb, nr, q, sh, md, om, im, LW, BW, h⟩ := hs
  obtain ⟨v, σ1, σ2, h1, h2, h3⟩ := s_untell (J := J) (t := t) (u := u) (i := i) (f := f) (s := s) (x := x) h (xs (j + 1))
  have h1 : f_W_untell (zs I J (zPt t u i f s x)) 0 (xs (j + 1)) = some (v, σ1) := h1
  have h2 : f_M_untell σ1 91 (xs (j + 1)) = some (v, σ2) := h2
  obtain ⟨σ3, h4⟩ := hk σ2 h3
  exact ⟨σ3, by simp only [f_Q_law_1185, e1, zbs, h1, h2, h4, if_true]⟩
theorem law_1208 (hs : zIs σ) (hk : ∀ σ2, zIs σ2 → ∃ σ3, k18 σ2 0 91 (nI j + 6) = some (1, σ3)) (e1 : zsc xs L (nI j + 1) = some (xs (j + 1))) (e2 : zsc xs L (nI j + 2) = some (xs (j + 2))) (e3 : zsc xs L (nI j + 3) = some (xs (j + 3))) (e4 : zsc xs L (nI j + 4) = some (xs (j + 4))) (e5 : zsc xs L (nI j + 5) = some (xs (j + 5))) : ∃ σ3, f_Q_law_1208 xs L k18 σ 0 91 (nI j) = some (1, σ3) := by
  obtain ⟨I, J, t, u, i, f, s, x, rfl, nt, nb, nr, q, sh, md, om, im, LW, BW, h⟩ := hs
  obtain ⟨v, σ1, σ2, h1, h2, h3⟩ := s_later (J := J) (t := t) (u := u) (i := i) (f := f) (s := s) (x := x) h (xs (j + 1))
  have h1 : f_W_later (zs I J (zPt t u i f s x)) 0 (xs (j + 1)) = some (v, σ1) := h1
  have h2 : f_M_later σ1 91 (xs (j + 1)) = some (v, σ2) := h2
  obtain ⟨σ3, h4⟩ := hk σ2 h3
  exact ⟨σ3, by simp only [f_Q_law_1208, e1, zbs, h1, h2, h4, if_true]⟩
theorem law_1231 (hs : zIs σ) (hk : ∀ σ2, zIs σ2 → ∃ σ3, k18 σ2 0 91 (nI j + 6) = some (1, σ3)) (e1 : zsc xs L (nI j + 1) = some (xs (j + 1))) (e2 : zsc xs L (nI j + 2) = some (xs (j + 2))) (e3 : zsc xs L (nI j + 3) = some (xs (j + 3))) (e4 : zsc xs L (nI j + 4) = some (xs (j + 4))) (e5 : zsc xs L (nI j + 5) = some (xs (j + 5))) : ∃ σ3, f_Q_law_1231 xs L k18 σ 0 91 (nI j) = some (1, σ3) := by
  obtain ⟨I, J, t, u, i, f, s, x, rfl, nt, nb, nr, q, sh, md, om, im, LW, BW, h⟩ := hs
  obtain ⟨nl, tm, hlk⟩ := h.2.2.2.2.2.2.2.2.2.2
  obtain ⟨v, σ1, σ2, h1, h2, h3⟩ := zOKs_2 h (q_fit (J := J) (t := t) (u := u) (i := i) (f := f) (s := s) (x := x) h.2.1 hlk (xs (j + 1)) (xs (j + 2)) (xs (j + 3)))
  have h1 : f_W_fit (zs I J (zPt t u i f s x)) 0 (xs (j + 1)) (xs (j + 2)) (xs (j + 3)) = some (v, σ1) := h1
  have h2 : f_M_fit σ1 91 (xs (j + 1)) (xs (j + 2)) (xs (j + 3)) = some (v, σ2) := h2
  obtain ⟨σ3, h4⟩ := hk σ2 h3
  exact ⟨σ3, by simp only [f_Q_law_1231, e1, e2, e3, zbs, h1, h2, h4, if_true]⟩
theorem law_1274 (hs : zIs σ) (hk : ∀ σ2, zIs σ2 → ∃ σ3, k18 σ2 0 91 (nI j + 6) = some (1, σ3)) (e1 : zsc xs L (nI j + 1) = some (xs (j + 1))) (e2 : zsc xs L (nI j + 2) = some (xs (j + 2))) (e3 : zsc xs L (nI j + 3) = some (xs (j + 3))) (e4 : zsc xs L (nI j + 4) = some (xs (j + 4))) (e5 : zsc xs L (nI j + 5) = some (xs (j + 5))) : ∃ σ3, f_Q_law_1274 xs L k18 σ 0 91 (nI j) = some (1, σ3) := by
  obtain ⟨I, J, t, u, i, f, s, x, rfl, nt, nb, nr, q, sh, md, om, im, LW, BW, h⟩ := hs
  obtain ⟨nl, tm, hlk⟩ := h.2.2.2.2.2.2.2.2.2.2
  have go : ∀ mo : Bool, ∃ σ3, f_Q_law_1298 xs L k18 (zs I J (zPt t u i f s x)) 0 91 (nI j) (zB mo) (xs (j + 2)) (xs (j + 1)) 0 = some (1, σ3) ∨ mo ≠ (if xs (j + 3) = 0 then false else true) := fun mo => by
    obtain ⟨v, σ1, σ2, h1, h2, h3⟩ := zOKs_2 h (q_sure (J := J) (t := t) (u := u) (i := i) (f := f) (s := s) (x := x) h.2.1 hlk (xs (j + 1)) (xs (j + 2)) mo (xs (j + 4)) (xs (j + 5)))
    have h1 : f_W_sure (zs I J (zPt t u i f s x)) 0 (xs (j + 1)) (xs (j + 2)) (zB mo) (xs (j + 4)) (xs (j + 5)) = some (v, σ1) := h1
    have h2 : f_M_sure σ1 91 (xs (j + 1)) (xs (j + 2)) (zB mo) (xs (j + 4)) (xs (j + 5)) = some (v, σ2) := h2
    obtain ⟨σ3, h4⟩ := hk σ2 h3
    refine ⟨σ3, ?_⟩
    by_cases hx : xs (j + 3) = 0
    · cases mo
      · left
        have h2 : f_M_sure σ1 91 (xs (j + 1)) (xs (j + 2)) 0 (xs (j + 4)) (xs (j + 5)) = some (v, σ2) := h2
        simp only [f_Q_law_1298, e1, e2, e3, e4, e5, h1, zbs, hx, if_true, f_Q_law_1335, h2, h4]
      · right; simp [hx]
    · cases mo
      · right; simp [hx]
      · left
        have h2 : f_M_sure σ1 91 (xs (j + 1)) (xs (j + 2)) 1 (xs (j + 4)) (xs (j + 5)) = some (v, σ2) := h2
        simp only [f_Q_law_1298, e1, e2, e3, e4, e5, h1, zbs, hx, if_true, if_false, f_Q_law_1335, h2, h4]
  by_cases hx : xs (j + 3) = 0
  · obtain ⟨σ3, h4 | h4⟩ := go false
    · exact ⟨σ3, by simp only [f_Q_law_1274, e1, e2, e3, zbs, hx, if_true]; exact h4⟩
    · exact absurd (by simp [hx]) h4
  · obtain ⟨σ3, h4 | h4⟩ := go true
    · exact ⟨σ3, by simp only [f_Q_law_1274, e1, e2, e3, zbs, hx, if_false]; exact h4⟩
    · exact absurd (by simp [hx]) h4
theorem law_1353 (hs : zIs σ) (hk : ∀ σ2, zIs σ2 → ∃ σ3, k18 σ2 0 91 (nI j + 6) = some (1, σ3)) (e1 : zsc xs L (nI j + 1) = some (xs (j + 1))) (e2 : zsc xs L (nI j + 2) = some (xs (j + 2))) (e3 : zsc xs L (nI j + 3) = some (xs (j + 3))) (e4 : zsc xs L (nI j + 4) = some (xs (j + 4))) (e5 : zsc xs L (nI j + 5) = some (xs (j + 5))) : ∃ σ3, f_Q_law_1353 xs L k18 σ 0 91 (nI j) = some (1, σ3) := by
  obtain ⟨I, J, t, u, i, f, s, x, rfl, nt, nb, nr, q, sh, md, om, im, LW, BW, h⟩ := hs
  obtain ⟨nl, tm, hlk⟩ := h.2.2.2.2.2.2.2.2.2.2
  obtain ⟨v, σ1, σ2, h1, h2, h3⟩ := zOKs_2 h (q_ask (J := J) (t := t) (u := u) (i := i) (f := f) (s := s) (x := x) h.2.1 hlk (xs (j + 1)) (xs (j + 2)) (xs (j + 3)) (xs (j + 4)))
  have h1 : f_W_ask (zs I J (zPt t u i f s x)) 0 (xs (j + 1)) (xs (j + 2)) (xs (j + 3)) (xs (j + 4)) = some (v, σ1) := h1
  have h2 : f_M_ask σ1 91 (xs (j + 1)) (xs (j + 2)) (xs (j + 3)) (xs (j + 4)) = some (v, σ2) := h2
  obtain ⟨σ3, h4⟩ := hk σ2 h3
  exact ⟨σ3, by simp only [f_Q_law_1353, e1, e2, e3, e4, zbs, h1, h2, h4, if_true]⟩
theorem law_1406 (hs : zIs σ) (hk : ∀ σ2, zIs σ2 → ∃ σ3, k18 σ2 0 91 (nI j + 6) = some (1, σ3)) (e1 : zsc xs L (nI j + 1) = some (xs (j + 1))) (e2 : zsc xs L (nI j + 2) = some (xs (j + 2))) (e3 : zsc xs L (nI j + 3) = some (xs (j + 3))) (e4 : zsc xs L (nI j + 4) = some (xs (j + 4))) (e5 : zsc xs L (nI j + 5) = some (xs (j + 5))) : ∃ σ3, f_Q_law_1406 xs L k18 σ 0 91 (nI j) = some (1, σ3) := by
  obtain ⟨I, J, t, u, i, f, s, x, rfl, nt, nb, nr, q, sh, md, om, im, LW, BW, h⟩ := hs
  obtain ⟨v, σ1, σ2, h1, h2, h3⟩ := s_image (J := J) (t := t) (u := u) (i := i) (f := f) (s := s) (x := x) h (xs (j + 1))
  have h1 : f_W_image (zs I J (zPt t u i f s x)) 0 (xs (j + 1)) = some (v, σ1) := h1
  have h2 : f_M_image σ1 91 (xs (j + 1)) = some (v, σ2) := h2
  obtain ⟨σ3, h4⟩ := hk σ2 h3
  exact ⟨σ3, by simp only [f_Q_law_1406, e1, zbs, h1, h2, h4, if_true]⟩
theorem law_1429 (hs : zIs σ) (hk : ∀ σ2, zIs σ2 → ∃ σ3, k18 σ2 0 91 (nI j + 6) = some (1, σ3)) (e1 : zsc xs L (nI j + 1) = some (xs (j + 1))) (e2 : zsc xs L (nI j + 2) = some (xs (j + 2))) (e3 : zsc xs L (nI j + 3) = some (xs (j + 3))) (e4 : zsc xs L (nI j + 4) = some (xs (j + 4))) (e5 : zsc xs L (nI j + 5) = some (xs (j + 5))) : ∃ σ3, f_Q_law_1429 xs L k18 σ 0 91 (nI j) = some (1, σ3) := by
  obtain ⟨I, J, t, u, i, f, s, x, rfl, nt, nb, nr, q, sh, md, om, im, LW, BW, h⟩ := hs
  obtain ⟨v, σ1, σ2, h1, h2, h3⟩ := s_back (J := J) (t := t) (u := u) (i := i) (f := f) (s := s) (x := x) h (xs (j + 1))
  have h1 : f_W_back (zs I J (zPt t u i f s x)) 0 (xs (j + 1)) = some (v, σ1) := h1
  have h2 : f_M_back σ1 91 (xs (j + 1)) = some (v, σ2) := h2
  obtain ⟨σ3, h4⟩ := hk σ2 h3
  exact ⟨σ3, by simp only [f_Q_law_1429, e1, zbs, h1, h2, h4, if_true]⟩
theorem law_1452 (hs : zIs σ) (hk : ∀ σ2, zIs σ2 → ∃ σ3, k18 σ2 0 91 (nI j + 6) = some (1, σ3)) (e1 : zsc xs L (nI j + 1) = some (xs (j + 1))) (e2 : zsc xs L (nI j + 2) = some (xs (j + 2))) (e3 : zsc xs L (nI j + 3) = some (xs (j + 3))) (e4 : zsc xs L (nI j + 4) = some (xs (j + 4))) (e5 : zsc xs L (nI j + 5) = some (xs (j + 5))) : ∃ σ3, f_Q_law_1452 xs L k18 σ 0 91 (nI j) = some (1, σ3) := by
  obtain ⟨I, J, t, u, i, f, s, x, rfl, nt, nb, nr, q, sh, md, om, im, LW, BW, h⟩ := hs
  obtain ⟨v, h1, h2⟩ := s_about (J := J) (t := t) (u := u) (i := i) (f := f) (s := s) (x := x) h (xs (j + 1))
  have h1 : f_W_about (zs I J (zPt t u i f s x)) 0 (xs (j + 1)) = some v := h1
  have h2 : f_M_about (zs I J (zPt t u i f s x)) 91 (xs (j + 1)) = some v := h2
  obtain ⟨σ3, h4⟩ := hk (zs I J (zPt t u i f s x)) (zIs_mk h)
  exact ⟨σ3, by simp only [f_Q_law_1452, e1, zbs, h1, h2, h4, if_true]⟩
theorem law_step (hs : zIs σ) (hk : ∀ σ2, zIs σ2 → ∃ σ3, k18 σ2 0 91 (nI j + 6) = some (1, σ3)) (e1 : zsc xs L (nI j + 1) = some (xs (j + 1))) (e2 : zsc xs L (nI j + 2) = some (xs (j + 2))) (e3 : zsc xs L (nI j + 3) = some (xs (j + 3))) (e4 : zsc xs L (nI j + 4) = some (xs (j + 4))) (e5 : zsc xs L (nI j + 5) = some (xs (j + 5))) (e0 : zsc xs L (nI j) = some (xs j)) (hn : ¬ (Int32.ofNat L) - 6 < nI j) : ∃ σ3, f_Q_law_18 xs L k18 σ 0 91 (nI j) = some (1, σ3) := by
  rw [f_Q_law_18, if_neg hn, e0, zbs]
  by_cases c0 : xs j &&& 63 = 0
  · rw [if_pos c0]; exact law_208 hs hk e1 e2 e3 e4 e5
  rw [if_neg c0]
  by_cases c1 : xs j &&& 63 = 1
  · rw [if_pos c1]; exact law_271 hs hk e1 e2 e3 e4 e5
  rw [if_neg c1]
  by_cases c2 : xs j &&& 63 = 2
  · rw [if_pos c2]; exact law_294 hs hk e1 e2 e3 e4 e5
  rw [if_neg c2]
  by_cases c3 : xs j &&& 63 = 3
  · rw [if_pos c3]; exact law_307 hs hk e1 e2 e3 e4 e5
  rw [if_neg c3]
  by_cases c4 : xs j &&& 63 = 4
  · rw [if_pos c4]; exact law_330 hs hk e1 e2 e3 e4 e5
  rw [if_neg c4]
  by_cases c5 : xs j &&& 63 = 5
  · rw [if_pos c5]; exact law_363 hs hk e1 e2 e3 e4 e5
  rw [if_neg c5]
  by_cases c6 : xs j &&& 63 = 6
  · rw [if_pos c6]; exact law_396 hs hk e1 e2 e3 e4 e5
  rw [if_neg c6]
  by_cases c7 : xs j &&& 63 = 7
  · rw [if_pos c7]; exact law_429 hs hk e1 e2 e3 e4 e5
  rw [if_neg c7]
  by_cases c8 : xs j &&& 63 = 8
  · rw [if_pos c8]; exact law_462 hs hk e1 e2 e3 e4 e5
  rw [if_neg c8]
  by_cases c9 : xs j &&& 63 = 9
  · rw [if_pos c9]; exact law_495 hs hk e1 e2 e3 e4 e5
  rw [if_neg c9]
  by_cases c10 : xs j &&& 63 = 10
  · rw [if_pos c10]; exact law_528 hs hk e1 e2 e3 e4 e5
  rw [if_neg c10]
  by_cases c11 : xs j &&& 63 = 11
  · rw [if_pos c11]; exact law_551 hs hk e1 e2 e3 e4 e5
  rw [if_neg c11]
  by_cases c12 : xs j &&& 63 = 12
  · rw [if_pos c12]; exact law_574 hs hk e1 e2 e3 e4 e5
  rw [if_neg c12]
  by_cases c13 : xs j &&& 63 = 13
  · rw [if_pos c13]; exact law_607 hs hk e1 e2 e3 e4 e5
  rw [if_neg c13]
  by_cases c14 : xs j &&& 63 = 14
  · rw [if_pos c14]; exact law_630 hs hk e1 e2 e3 e4 e5
  rw [if_neg c14]
  by_cases c15 : xs j &&& 63 = 15
  · rw [if_pos c15]; exact law_663 hs hk e1 e2 e3 e4 e5
  rw [if_neg c15]
  by_cases c16 : xs j &&& 63 = 16
  · rw [if_pos c16]; exact law_676 hs hk e1 e2 e3 e4 e5
  rw [if_neg c16]
  by_cases c17 : xs j &&& 63 = 17
  · rw [if_pos c17]; exact law_689 hs hk e1 e2 e3 e4 e5
  rw [if_neg c17]
  by_cases c18 : xs j &&& 63 = 18
  · rw [if_pos c18]; exact law_722 hs hk e1 e2 e3 e4 e5
  rw [if_neg c18]
  by_cases c19 : xs j &&& 63 = 19
  · rw [if_pos c19]; exact law_755 hs hk e1 e2 e3 e4 e5
  rw [if_neg c19]
  by_cases c20 : xs j &&& 63 = 20
  · rw [if_pos c20]; exact law_798 hs hk e1 e2 e3 e4 e5
  rw [if_neg c20]
  by_cases c21 : xs j &&& 63 = 21
  · rw [if_pos c21]; exact law_831 hs hk e1 e2 e3 e4 e5
  rw [if_neg c21]
  by_cases c22 : xs j &&& 63 = 22
  · rw [if_pos c22]; exact law_864 hs hk e1 e2 e3 e4 e5
  rw [if_neg c22]
  by_cases c23 : xs j &&& 63 = 23
  · rw [if_pos c23]; exact law_917 hs hk e1 e2 e3 e4 e5
  rw [if_neg c23]
  by_cases c24 : xs j &&& 63 = 24
  · rw [if_pos c24]; exact law_960 hs hk e1 e2 e3 e4 e5
  rw [if_neg c24]
  by_cases c25 : xs j &&& 63 = 25
  · rw [if_pos c25]; exact law_1003 hs hk e1 e2 e3 e4 e5
  rw [if_neg c25]
  by_cases c26 : xs j &&& 63 = 26
  · rw [if_pos c26]; exact law_1026 hs hk e1 e2 e3 e4 e5
  rw [if_neg c26]
  by_cases c27 : xs j &&& 63 = 27
  · rw [if_pos c27]; exact law_1039 hs hk e1 e2 e3 e4 e5
  rw [if_neg c27]
  by_cases c28 : xs j &&& 63 = 28
  · rw [if_pos c28]; exact law_1062 hs hk e1 e2 e3 e4 e5
  rw [if_neg c28]
  by_cases c29 : xs j &&& 63 = 29
  · rw [if_pos c29]; exact law_1075 hs hk e1 e2 e3 e4 e5
  rw [if_neg c29]
  by_cases c30 : xs j &&& 63 = 30
  · rw [if_pos c30]; exact law_1119 hs hk e1 e2 e3 e4 e5
  rw [if_neg c30]
  by_cases c31 : xs j &&& 63 = 31
  · rw [if_pos c31]; exact law_1142 hs hk e1 e2 e3 e4 e5
  rw [if_neg c31]
  by_cases c32 : xs j &&& 63 = 32
  · rw [if_pos c32]; exact law_1185 hs hk e1 e2 e3 e4 e5
  rw [if_neg c32]
  by_cases c33 : xs j &&& 63 = 33
  · rw [if_pos c33]; exact law_1208 hs hk e1 e2 e3 e4 e5
  rw [if_neg c33]
  by_cases c34 : xs j &&& 63 = 34
  · rw [if_pos c34]; exact law_1231 hs hk e1 e2 e3 e4 e5
  rw [if_neg c34]
  by_cases c35 : xs j &&& 63 = 35
  · rw [if_pos c35]; exact law_1274 hs hk e1 e2 e3 e4 e5
  rw [if_neg c35]
  by_cases c36 : xs j &&& 63 = 36
  · rw [if_pos c36]; exact law_1353 hs hk e1 e2 e3 e4 e5
  rw [if_neg c36]
  by_cases c37 : xs j &&& 63 = 37
  · rw [if_pos c37]; exact law_1406 hs hk e1 e2 e3 e4 e5
  rw [if_neg c37]
  by_cases c38 : xs j &&& 63 = 38
  · rw [if_pos c38]; exact law_1429 hs hk e1 e2 e3 e4 e5
  rw [if_neg c38]
  by_cases c39 : xs j &&& 63 = 39
  · rw [if_pos c39]; exact law_1452 hs hk e1 e2 e3 e4 e5
  rw [if_neg c39]
  exact hk σ hs
theorem law_loop (hL : L ≤ 3072) : ∀ (d fuel k : Nat) (σ : zSt), L ≤ 6 * (k + d) → d < fuel → 6 * k ≤ L + 6 → zIs σ → ∃ σ3, f_Q_law_18L xs L fuel σ 0 91 (nI (6 * k)) = some (1, σ3) := by
  have h6 : ∀ k, 6 * k ≤ L + 6 → ((Int32.ofNat L) - 6 < nI (6 * k)) = (L < 6 * k + 6) := fun k hk => by
    by_cases hl : 6 ≤ L
    · rw [show (Int32.ofNat L) - 6 = nI (L - 6) from sr6 hl, zlt_nI (by omega) (by omega)]
      apply propext; omega
    · have hL6 : L = 0 ∨ L = 1 ∨ L = 2 ∨ L = 3 ∨ L = 4 ∨ L = 5 := by omega
      have hk1 : k = 0 ∨ k = 1 := by omega
      apply propext
      refine ⟨fun _ => by omega, fun _ => ?_⟩
      rcases hL6 with rfl | rfl | rfl | rfl | rfl | rfl <;> rcases hk1 with rfl | rfl <;> decide
  intro d
  induction d with
  | zero =>
    intro fuel k σ hd hf hk hs
    obtain ⟨m, rfl⟩ : ∃ m, fuel = m + 1 := ⟨fuel - 1, by omega⟩
    refine ⟨σ, ?_⟩
    rw [f_Q_law_18L, f_Q_law_18, if_pos (by rw [h6 k hk]; omega)]
  | succ d ih =>
    intro fuel k σ hd hf hk hs
    obtain ⟨m, rfl⟩ : ∃ m, fuel = m + 1 := ⟨fuel - 1, by omega⟩
    rw [f_Q_law_18L]
    by_cases hc : L < 6 * k + 6
    · refine ⟨σ, ?_⟩
      rw [f_Q_law_18, if_pos (by rw [h6 k hk]; exact hc)]
    · have ad : ∀ c : Nat, c < 6 → zsc xs L (nI (6 * k) + nI c) = some (xs (6 * k + c)) := fun c hc => by rw [nI_add]; exact zsc_at (by omega) hL
      refine law_step hs (fun σ2 h2 => ?_) (ad 1 (by decide)) (ad 2 (by decide)) (ad 3 (by decide)) (ad 4 (by decide)) (ad 5 (by decide)) (zsc_at (by omega) hL) (by rw [h6 k hk]; exact hc)
      have := ih m (k + 1) σ2 (by omega) (by omega) (by omega) h2
      rw [show 6 * (k + 1) = 6 * k + 6 by omega, ← nI_add] at this
      exact this
end ZLaw
