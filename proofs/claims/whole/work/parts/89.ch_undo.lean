/-! acts: undo, redo -/
theorem zxx (a m : Int32) : (a ^^^ m) ^^^ m = a := by rw [Int32.xor_assoc, Int32.xor_self, Int32.xor_zero]
theorem zas1 (a : Int32) : a + 1 - 1 = a := Int32.add_sub_cancel a 1
section ZAd
variable {I : Nat → Nat → Int32} {J : Nat → Nat → Int64} {t u i f s x : Nat} {nt nb nr q sh md om im : Nat} {LW BW : List Int32}
theorem zNow_as {N : Nat} {a b : Nat → Int32} (h : zNow I N a) (e : zAs b a) : zNow I N b :=
  ⟨fun k hk => (h.1 k hk).trans (e k (by omega)).symm, fun k hk => (h.2.1 k hk).trans (e _ (by omega)).symm, h.2.2.1.trans (e 30 (by decide)).symm, h.2.2.2.1.trans (e 31 (by decide)).symm, fun k hk => (h.2.2.2.2 k hk).trans (e _ (by omega)).symm⟩
theorem zRow_as {a b : Nat → Int32} (h : zRow a nt nb nr) (e : zAs b a) : zRow b nt nb nr := by
  refine ⟨⟨fun k hk => ?_, fun k hk => ?_, ?_, ?_⟩, fun k hk => ?_⟩
  · rw [e k (by omega)]; exact h.1.1 k hk
  · rw [e _ (by omega)]; exact h.1.2.1 k hk
  · rw [e 30 (by decide)]; exact h.1.2.2.1
  · rw [e 31 (by decide)]; exact h.1.2.2.2
  · rw [e _ (by omega)]; exact h.2 k hk
theorem zNow_rows {I' : Nat → Nat → Int32} {N : Nat} {a : Nat → Int32} (h : zNow I N a) (e0 : I' N = I N) (e1 : I' (N + 1) = I (N + 1)) (e2 : I' (N + 2) = I (N + 2)) (e3 : I' (N + 3) = I (N + 3)) : zNow I' N a := by
  unfold zNow
  rw [e0, e1, e2, e3]
  exact h
theorem zNow_30 {a : Nat → Int32} {v : Int32} (h : zNow I 30 a) : zNow (zup I 30 3 v) 30 (va_up a 30 v) := by
  refine ⟨fun k hk => ?_, fun k hk => ?_, ?_, ?_, fun k hk => ?_⟩
  · rw [zup_ne _ _ _ (by decide), h.1 k hk]; unfold va_up; rw [if_neg (by omega)]
  · rw [zup_ne _ _ _ (by decide), h.2.1 k hk]; unfold va_up; rw [if_neg (by omega)]
  · rw [zup_s]; unfold va_up; rw [if_pos rfl]
  · rw [zup_k _ _ (by decide), h.2.2.2.1]; unfold va_up; rw [if_neg (by omega)]
  · rw [zup_ne _ _ _ (by decide), h.2.2.2.2 k hk]; unfold va_up; rw [if_neg (by omega)]
theorem zNow_31 {a : Nat → Int32} {v : Int32} (h : zNow I 30 a) : zNow (zup I 30 4 v) 30 (va_up a 31 v) := by
  refine ⟨fun k hk => ?_, fun k hk => ?_, ?_, ?_, fun k hk => ?_⟩
  · rw [zup_ne _ _ _ (by decide), h.1 k hk]; unfold va_up; rw [if_neg (by omega)]
  · rw [zup_ne _ _ _ (by decide), h.2.1 k hk]; unfold va_up; rw [if_neg (by omega)]
  · rw [zup_k _ _ (by decide), h.2.2.1]; unfold va_up; rw [if_neg (by omega)]
  · rw [zup_s]; unfold va_up; rw [if_pos rfl]
  · rw [zup_ne _ _ _ (by decide), h.2.2.2.2 k hk]; unfold va_up; rw [if_neg (by omega)]
theorem zNow_24 {a : Nat → Int32} {v : Int32} {r : Nat} (hr : r < 6) (h : zNow I 30 a) : zNow (zup I 32 r v) 30 (va_up a (24 + r) v) := by
  refine ⟨fun k hk => ?_, fun k hk => ?_, ?_, ?_, fun k hk => ?_⟩
  · rw [zup_ne _ _ _ (by decide), h.1 k hk]; unfold va_up; rw [if_neg (by omega)]
  · rw [zup_at]
    unfold va_up
    by_cases e : k = r
    · rw [if_pos e, if_pos (by omega)]
    · rw [if_neg e, if_neg (by omega)]; exact h.2.1 k hk
  · rw [zup_ne _ _ _ (by decide), h.2.2.1]; unfold va_up; rw [if_neg (by omega)]
  · rw [zup_ne _ _ _ (by decide), h.2.2.2.1]; unfold va_up; rw [if_neg (by omega)]
  · rw [zup_ne _ _ _ (by decide), h.2.2.2.2 k hk]; unfold va_up; rw [if_neg (by omega)]
theorem zNow_32 {a : Nat → Int32} {v : Int32} {r : Nat} (hr : r < 60) (h : zNow I 30 a) : zNow (zup I 33 r v) 30 (va_up a (32 + r) v) := by
  refine ⟨fun k hk => ?_, fun k hk => ?_, ?_, ?_, fun k hk => ?_⟩
  · rw [zup_ne _ _ _ (by decide), h.1 k hk]; unfold va_up; rw [if_neg (by omega)]
  · rw [zup_ne _ _ _ (by decide), h.2.1 k hk]; unfold va_up; rw [if_neg (by omega)]
  · rw [zup_ne _ _ _ (by decide), h.2.2.1]; unfold va_up; rw [if_neg (by omega)]
  · rw [zup_ne _ _ _ (by decide), h.2.2.2.1]; unfold va_up; rw [if_neg (by omega)]
  · rw [zup_at]
    unfold va_up
    by_cases e : k = r
    · rw [if_pos e, if_pos (by omega)]
    · rw [if_neg e, if_neg (by omega)]; exact h.2.2.2.2 k hk
theorem zNow_0 {a src : Nat → Int32} {sp r : Nat} (hr : r < 6) (h : zNow I 30 a) : zNow (zro I 31 (va_cpy src (I 31) sp (4 * r) 4)) 30 (fun k => if 4 * r ≤ k ∧ k < 4 * r + 4 then src (sp + (k - 4 * r)) else a k) := by
  refine ⟨fun k hk => ?_, fun k hk => ?_, ?_, ?_, fun k hk => ?_⟩
  · rw [zro_self]
    unfold va_cpy
    simp only
    by_cases e : 4 * r ≤ k ∧ k < 4 * r + 4
    · rw [if_pos e, if_pos e]
    · rw [if_neg e, if_neg e]; exact h.1 k hk
  · rw [zro_ne _ _ (by decide), h.2.1 k hk]; simp only; rw [if_neg (by omega)]
  · rw [zro_ne _ _ (by decide), h.2.2.1]; simp only; rw [if_neg (by omega)]
  · rw [zro_ne _ _ (by decide), h.2.2.2.1]; simp only; rw [if_neg (by omega)]
  · rw [zro_ne _ _ (by decide), h.2.2.2.2 k hk]; simp only; rw [if_neg (by omega)]
/-- the reference changes its row with a kept one -/
theorem m_exch {j : Nat} (hj : j < 40) : ∃ I', f_M_exchange (zs I J (zPt t u i f s x)) 91 (nI (96 * j)) = some (zs I' J (zPt t u i f s x)) ∧ (∀ a, a ≠ 111 → a ≠ 116 → I' a = I a) ∧ (∀ k, k < 92 → I' 111 k = I 116 (96 * j + k) ∧ I' 116 (96 * j + k) = I 111 k) ∧ ∀ k, (k < 96 * j ∨ 96 * j + 92 ≤ k) → I' 116 k = I 116 k := by
  obtain ⟨I2, ⟨a1, a2, a3, a4⟩, a5⟩ := zfor (fun fuel I' k => f_M_exchange_2L fuel (zs I' J (zPt t u i f s x)) 91 (nI (96 * j)) (nI k)) 92 (fun k I' => (∀ a, a ≠ 111 → a ≠ 116 → I' a = I a) ∧ (∀ m, m < k → I' 111 m = I 116 (96 * j + m) ∧ I' 116 (96 * j + m) = I 111 m) ∧ (∀ m, k ≤ m → I' 111 m = I 111 m) ∧ ∀ m, (m < 96 * j ∨ 96 * j + k ≤ m) → I' 116 m = I 116 m) (fun I' => some (zs I' J (zPt t u i f s x)))
    (fun m k I' hk hi => by
      refine ⟨zup (zup I' 116 (96 * j + k) (I 111 k)) 111 k (I 116 (96 * j + k)), ⟨fun a h1 h2 => ?_, fun l hl => ?_, fun l hl => ?_, fun l hl => ?_⟩, ?_⟩
      · rw [zup_ne _ _ _ h1, zup_ne _ _ _ h2]; exact hi.1 a h1 h2
      · rw [zup_at, zup_ne _ _ _ (by decide), zup_ne _ _ _ (by decide), zup_at]
        by_cases e : l = k
        · rw [if_pos e, if_pos (by omega), e]; exact ⟨rfl, rfl⟩
        · rw [if_neg e, if_neg (by omega)]; exact hi.2.1 l (by omega)
      · rw [zup_k _ _ (by omega), zup_ne _ _ _ (by decide)]; exact hi.2.2.1 l (by omega)
      · rw [zup_ne _ _ _ (by decide), zup_k _ _ (by omega)]; exact hi.2.2.2 l (by omega)
      · show f_M_exchange_2L (m + 1) _ _ _ _ = _
        have hle : ¬ (92 : Int32) ≤ nI k := by rw [ge92 (by omega)]; omega
        rw [f_M_exchange_2L, f_M_exchange_2, if_neg hle, gp_12_55, zbs, nI_add, ai_116 (by omega), zbs, hi.2.2.2 _ (by omega), zbs, gp_12_49, zbs, ai_111 (by omega), zbs, hi.2.2.1 k (by omega), wi_116 (by omega), zbs, gp_12_49, zbs, wi_111 (by omega), zbs, znI_add1])
    (fun m I' hi => by
      show f_M_exchange_2L (m + 1) _ _ _ _ = _
      rw [f_M_exchange_2L, f_M_exchange_2, if_pos (by decide)]) 92 0 I zfu rfl ⟨fun _ _ _ => rfl, fun _ h => by omega, fun _ _ => rfl, fun _ _ => rfl⟩ (zfu_lt (by decide))
  have a5 : f_M_exchange_2L zfu (zs I J (zPt t u i f s x)) 91 (nI (96 * j)) 0 = some (zs I2 J (zPt t u i f s x)) := a5
  exact ⟨I2, by rw [f_M_exchange, zg_12, a5], a1, a2, a4⟩
/-- the class takes the act in a slot back -/
theorem x_back {d w o : Nat} {a b : Nat → Int32} (hnt : nt ≤ 4) (hnr : nr ≤ 6) (hnb : nb ≤ 10) (ho : o < 40) (hd : d < 40) (h0 : I 41 0 = nI (d + 1)) (h1 : I 41 1 = nI w) (h2 : I 41 2 = nI o) (hD : zDs I ((o + d) % 40) nt nb nr BW a b) (hN : zNow I 30 b) : ∃ I', f_A_takeBack (zs I J (zPt t u i f s x)) 41 30 = some (1, (zs I' J (zPt t u i f s x))) ∧ (∀ k, (k < 30 ∨ 33 < k) → k ≠ 41 → I' k = I k) ∧ (I' 41 0 = nI d ∧ I' 41 1 = nI (w + 1) ∧ I' 41 2 = nI o) ∧ zNow I' 30 a := by
  have hsl : (o + d) % 40 < 40 := Nat.mod_lt _ (by decide)
  generalize hs : (o + d) % 40 = sl at *
  have hn0 : ¬ nI (d + 1) = 0 := (by rw [show (0 : Int32) = nI 0 from rfl, zeq_nI (by omega) (by decide)]; omega)
  generalize hI5 : zup (zup I 41 0 (nI d)) 41 1 (nI (w + 1)) = I5
  have r5 : ∀ k, k ≠ 41 → I5 k = I k := fun k hk => by rw [← hI5, zup_ne _ _ _ hk, zup_ne _ _ _ hk]
  have c5 : I5 41 0 = nI d ∧ I5 41 1 = nI (w + 1) ∧ I5 41 2 = nI o := by
    rw [← hI5]
    refine ⟨?_, zup_s _ _ _ _, ?_⟩
    · rw [zup_k _ _ (by decide), zup_s]
    · rw [zup_k _ _ (by decide), zup_k _ _ (by decide)]; exact h2
  have e42 : I5 42 = I 42 := r5 42 (by decide)
  have e43 : I5 43 = I 43 := r5 43 (by decide)
  have e44 : I5 44 = I 44 := r5 44 (by decide)
  have e45 : I5 45 = I 45 := r5 45 (by decide)
  have e46 : I5 46 = I 46 := r5 46 (by decide)
  have hN5 : zNow I5 30 b := zNow_rows hN (r5 30 (by decide)) (r5 31 (by decide)) (r5 32 (by decide)) (r5 33 (by decide))
  have hsl5 := g_A_slotOf (I := I5) (J := J) (t := t) (u := u) (i := i) (f := f) (s := s) (x := x) (k := d) c5.2.2 (by omega)
  rw [hs] at hsl5
  have hst : zup I 41 0 (nI d) 41 1 = nI w := by rw [zup_k _ _ (by decide)]; exact h1
  rcases hD with ⟨g1, r, g2, g3, g4⟩ | ⟨g1, r, g2, g3, g4, g5⟩ | ⟨g1, r, g2, g3, g4⟩ | ⟨g1, r, c, g2, g3, g4, g5, g6, g7⟩
  · refine ⟨zup I5 30 3 (I5 30 3 ^^^ (1 <<< (nI r &&& 31))), ?_, fun k h1 h2 => ?_, ?_, ?_⟩
    · rw [f_A_takeBack, zg_0, gi_0, zbs, h0, if_neg hn0, zbs, znI_sub1, si_0, zbs, gi_0, zbs, hst, znI_add1, si_0, zbs, hI5, gi_0, zbs, c5.1, hsl5, zbs, gp_0_3, zbs, ai_42 hsl, zbs, e42, g1, if_pos rfl, gp_0_4, zbs, ai_43 hsl, zbs, e43, g3, f_N_turnIn, zg_4 (Or.inl rfl), gi_4 (Or.inl rfl), zbs, si_4 (Or.inl rfl), zbs, zbs, yzb1]
    · rw [zup_ne _ _ _ (by omega)]; exact r5 k h2
    · rw [zup_ne _ _ _ (by decide)]; exact c5
    · refine zNow_as (zNow_30 hN5) (fun k hk => ?_)
      unfold va_up
      by_cases e : k = 30
      · rw [if_pos e, hN5.2.2.1, g4 30 (by decide)]
        unfold va_up
        rw [if_pos rfl, zxx, e]
      · rw [if_neg e, g4 k hk]
        unfold va_up
        rw [if_neg e]
  · have hr6 : r < 6 := by omega
    refine ⟨zup I5 32 r (I 44 sl), ?_, fun k h1 h2 => ?_, ?_, ?_⟩
    · rw [f_A_takeBack, zg_0, gi_0, zbs, h0, if_neg hn0, zbs, znI_sub1, si_0, zbs, gi_0, zbs, hst, znI_add1, si_0, zbs, hI5, gi_0, zbs, c5.1, hsl5, zbs, gp_0_3, zbs, ai_42 hsl, zbs, e42, g1, if_neg (by decide), if_pos rfl, gp_4_1 (Or.inl rfl), zbs, gp_0_4, zbs, ai_43 hsl, zbs, e43, g3, gp_0_5, zbs, ai_44 hsl, zbs, e44, wi_4_1 (Or.inl rfl) hr6, zbs, yzb1]
    · rw [zup_ne _ _ _ (by omega)]; exact r5 k h2
    · rw [zup_ne _ _ _ (by decide)]; exact c5
    · refine zNow_as (zNow_24 hr6 hN5) (fun k hk => ?_)
      unfold va_up
      by_cases e : k = 24 + r
      · rw [if_pos e, g4, e]
      · rw [if_neg e, g5 k hk]
        unfold va_up
        rw [if_neg e]
  · refine ⟨zup I5 30 4 (I5 30 4 ^^^ (1 <<< (nI r &&& 31))), ?_, fun k h1 h2 => ?_, ?_, ?_⟩
    · rw [f_A_takeBack, zg_0, gi_0, zbs, h0, if_neg hn0, zbs, znI_sub1, si_0, zbs, gi_0, zbs, hst, znI_add1, si_0, zbs, hI5, gi_0, zbs, c5.1, hsl5, zbs, gp_0_3, zbs, ai_42 hsl, zbs, e42, g1, if_neg (by decide), if_neg (by decide), if_pos rfl, gp_0_4, zbs, ai_43 hsl, zbs, e43, g3, f_N_turnOut, zg_4 (Or.inl rfl), gi_4 (Or.inl rfl), zbs, si_4 (Or.inl rfl), zbs, zbs, yzb1]
    · rw [zup_ne _ _ _ (by omega)]; exact r5 k h2
    · rw [zup_ne _ _ _ (by decide)]; exact c5
    · refine zNow_as (zNow_31 hN5) (fun k hk => ?_)
      unfold va_up
      by_cases e : k = 31
      · rw [if_pos e, hN5.2.2.2.1, g4 31 (by decide)]
        unfold va_up
        rw [if_pos rfl, zxx, e]
      · rw [if_neg e, g4 k hk]
        unfold va_up
        rw [if_neg e]
  · have hr6 : r < 6 := by omega
    have hc10 : c < 10 := by omega
    have ix : nI r * 10 + nI c = nI (10 * r + c) := by rw [mr10, nI_add]
    generalize hI6 : zup I5 33 (10 * r + c) (I5 33 (10 * r + c) - 1) = I6
    have r6 : ∀ k, k ≠ 33 → I6 k = I5 k := fun k hk => by rw [← hI6, zup_ne _ _ _ hk]
    have hc : zcpy (zs I6 J (zPt t u i f s x)) 46 (nI (4 * sl)) 31 (nI (4 * r)) 4 = some (zs (zro I6 31 (va_cpy (I6 46) (I6 31) (4 * sl) (4 * r) 4)) J (zPt t u i f s x)) := zcp (n := 4) zl_46 zl_31 (by omega) (by omega) (by decide) (by decide)
    refine ⟨zro I6 31 (va_cpy (I6 46) (I6 31) (4 * sl) (4 * r) 4), ?_, fun k h1 h2 => ?_, ?_, ?_⟩
    · rw [f_A_takeBack, zg_0, gi_0, zbs, h0, if_neg hn0, zbs, znI_sub1, si_0, zbs, gi_0, zbs, hst, znI_add1, si_0, zbs, hI5, gi_0, zbs, c5.1, hsl5, zbs, gp_0_3, zbs, ai_42 hsl, zbs, e42, g1, if_neg (by decide), if_neg (by decide), if_neg (by decide), gp_4_2 (Or.inl rfl), zbs, gp_0_4, zbs, ai_43 hsl, zbs, e43, g4, gp_0_6, zbs, ai_45 hsl, zbs, e45, g5, ix, ai_4_2 (Or.inl rfl) (by omega), zbs, wi_4_2 (Or.inl rfl) (by omega), zbs, hI6, gp_0_7, zbs, gp_4_0 (Or.inl rfl), zbs, gp_0_4, zbs, ai_43 hsl, zbs, r6 43 (by decide), e43, g4, mr4, mr4, hc, zbs, yzb1]
    · rw [zro_ne _ _ (by omega), r6 k (by omega)]; exact r5 k h2
    · rw [zro_ne _ _ (by decide), r6 41 (by decide)]; exact c5
    · have hN6 : zNow I6 30 (va_up b (32 + (10 * r + c)) (I5 33 (10 * r + c) - 1)) := by
        rw [← hI6]
        exact zNow_32 (by omega) hN5
      refine zNow_as (zNow_0 hr6 hN6) (fun k hk => ?_)
      by_cases e : 4 * r ≤ k ∧ k < 4 * r + 4
      · have := g6 (k - 4 * r) (by omega)
        rw [show 4 * r + (k - 4 * r) = k by omega] at this
        rw [if_pos e, r6 46 (by decide), e46, this]
      · rw [if_neg e]
        unfold va_up
        by_cases e2 : k = 32 + (10 * r + c)
        · rw [if_pos e2, hN5.2.2.2.2 (10 * r + c) (by omega), g7 _ (by omega)]
          unfold zread
          rw [if_pos (by omega), zas1, e2]
        · rw [if_neg e2, g7 k hk]
          unfold zread
          rw [if_neg (by omega), if_neg (by omega)]
/-- the class does the act in a slot again -/
theorem x_again {d w o : Nat} {a b : Nat → Int32} (ht : t = 2 ∨ t = 13) (hX0 : I t 0 = nI nt) (hBd : zBd I t BW) (hwt : ∀ b k, b < nb → k < nt → I (t + 1) (4 * b + k) = I 107 (4 * b + k)) (hnt : nt ≤ 4) (hnr : nr ≤ 6) (hnb : nb ≤ 10) (ho : o < 40) (hd : d < 40) (hw : w < 40) (h0 : I 41 0 = nI d) (h1 : I 41 1 = nI (w + 1)) (h2 : I 41 2 = nI o) (hD : zDs I ((o + d) % 40) nt nb nr BW a b) (hN : zNow I 30 a) : ∃ I', f_A_doAgain (zs I J (zPt t u i f s x)) 41 30 t = some (1, (zs I' J (zPt t u i f s x))) ∧ (∀ k, (k < 30 ∨ 34 < k) → k ≠ 41 → k ≠ t + 10 → I' k = I k) ∧ (I' 41 0 = nI (d + 1) ∧ I' 41 1 = nI w ∧ I' 41 2 = nI o) ∧ zNow I' 30 b := by
  have hsl : (o + d) % 40 < 40 := Nat.mod_lt _ (by decide)
  generalize hs : (o + d) % 40 = sl at *
  have hn0 : ¬ nI (w + 1) = 0 := (by rw [show (0 : Int32) = nI 0 from rfl, zeq_nI (by omega) (by decide)]; omega)
  generalize hI5 : zup (zup I 41 0 (nI (d + 1))) 41 1 (nI w) = I5
  have r5 : ∀ k, k ≠ 41 → I5 k = I k := fun k hk => by rw [← hI5, zup_ne _ _ _ hk, zup_ne _ _ _ hk]
  have c5 : I5 41 0 = nI (d + 1) ∧ I5 41 1 = nI w ∧ I5 41 2 = nI o := by
    rw [← hI5]
    refine ⟨?_, zup_s _ _ _ _, ?_⟩
    · rw [zup_k _ _ (by decide), zup_s]
    · rw [zup_k _ _ (by decide), zup_k _ _ (by decide)]; exact h2
  have e42 : I5 42 = I 42 := r5 42 (by decide)
  have e43 : I5 43 = I 43 := r5 43 (by decide)
  have e45 : I5 45 = I 45 := r5 45 (by decide)
  have hN5 : zNow I5 30 a := zNow_rows hN (r5 30 (by decide)) (r5 31 (by decide)) (r5 32 (by decide)) (r5 33 (by decide))
  have hsl5 := g_A_slotOf (I := I) (J := J) (t := t) (u := u) (i := i) (f := f) (s := s) (x := x) (k := d) h2 (by omega)
  rw [hs] at hsl5
  have hst : zup I 41 0 (nI (d + 1)) 41 1 = nI (w + 1) := by rw [zup_k _ _ (by decide)]; exact h1
  rcases hD with ⟨g1, r, g2, g3, g4⟩ | ⟨g1, r, g2, g3, g4, g5⟩ | ⟨g1, r, g2, g3, g4⟩ | ⟨g1, r, c, g2, g3, g4, g5, g6, g7⟩
  · refine ⟨zup I5 30 3 (I5 30 3 ^^^ (1 <<< (nI r &&& 31))), ?_, fun k h1 h2 _ => ?_, ?_, ?_⟩
    · rw [f_A_doAgain, zg_0, gi_0, zbs, h1, if_neg hn0, gi_0, zbs, h0, hsl5, zbs, zbs, znI_add1, si_0, zbs, gi_0, zbs, hst, znI_sub1, si_0, zbs, hI5, gp_0_3, zbs, ai_42 hsl, zbs, e42, g1, if_pos rfl, gp_0_4, zbs, ai_43 hsl, zbs, e43, g3, f_N_turnIn, zg_4 (Or.inl rfl), gi_4 (Or.inl rfl), zbs, si_4 (Or.inl rfl), zbs, zbs, yzb1]
    · rw [zup_ne _ _ _ (by omega)]; exact r5 k h2
    · rw [zup_ne _ _ _ (by decide)]; exact c5
    · refine zNow_as (zNow_30 hN5) (fun k hk => ?_)
      rw [g4 k hk, hN5.2.2.1]
  · have hr6 : r < 6 := by omega
    refine ⟨zup I5 32 r (I 45 sl), ?_, fun k h1 h2 _ => ?_, ?_, ?_⟩
    · rw [f_A_doAgain, zg_0, gi_0, zbs, h1, if_neg hn0, gi_0, zbs, h0, hsl5, zbs, zbs, znI_add1, si_0, zbs, gi_0, zbs, hst, znI_sub1, si_0, zbs, hI5, gp_0_3, zbs, ai_42 hsl, zbs, e42, g1, if_neg (by decide), if_pos rfl, gp_4_1 (Or.inl rfl), zbs, gp_0_4, zbs, ai_43 hsl, zbs, e43, g3, gp_0_6, zbs, ai_45 hsl, zbs, e45, wi_4_1 (Or.inl rfl) hr6, zbs, yzb1]
    · rw [zup_ne _ _ _ (by omega)]; exact r5 k h2
    · rw [zup_ne _ _ _ (by decide)]; exact c5
    · exact zNow_as (zNow_24 hr6 hN5) g5
  · refine ⟨zup I5 30 4 (I5 30 4 ^^^ (1 <<< (nI r &&& 31))), ?_, fun k h1 h2 _ => ?_, ?_, ?_⟩
    · rw [f_A_doAgain, zg_0, gi_0, zbs, h1, if_neg hn0, gi_0, zbs, h0, hsl5, zbs, zbs, znI_add1, si_0, zbs, gi_0, zbs, hst, znI_sub1, si_0, zbs, hI5, gp_0_3, zbs, ai_42 hsl, zbs, e42, g1, if_neg (by decide), if_neg (by decide), if_pos rfl, gp_0_4, zbs, ai_43 hsl, zbs, e43, g3, f_N_turnOut, zg_4 (Or.inl rfl), gi_4 (Or.inl rfl), zbs, si_4 (Or.inl rfl), zbs, zbs, yzb1]
    · rw [zup_ne _ _ _ (by omega)]; exact r5 k h2
    · rw [zup_ne _ _ _ (by decide)]; exact c5
    · refine zNow_as (zNow_31 hN5) (fun k hk => ?_)
      rw [g4 k hk, hN5.2.2.2.1]
  · have hr6 : r < 6 := by omega
    have hc10 : c < 10 := by omega
    have hbd5 : zBd I5 t BW := by
      unfold zBd at hBd ⊢
      rw [r5 (t + 8) (by omega), r5 (t + 9) (by omega), r5 91 (by omega), r5 99 (by omega), r5 97 (by omega), r5 98 (by omega)]
      exact hBd
    obtain ⟨I6, b1, b2, b3⟩ := x_bend (I := I5) (J := J) (t := t) (u := u) (i := i) (f := f) (s := s) (x := x) (N := 30) ht (Or.inl rfl) (by rw [r5 t (by omega)]; exact hX0) hnt hbd5 (I 107) a hr6 hc10 (fun k hk => by rw [r5 (t + 1) (by omega)]; exact hwt c k g3 hk) hN5
    have r6 : ∀ k, k ≠ 31 → k ≠ 33 → k ≠ 34 → k ≠ t + 10 → I6 k = I5 k := fun k q1 q2 q3 q4 => zfr_row b2 k (fun _ => by simp [q1, q2, q3, q4])
    refine ⟨I6, ?_, fun k h1 h2 h3 => ?_, ?_, zNow_as b3 g7⟩
    · rw [f_A_doAgain, zg_0, gi_0, zbs, h1, if_neg hn0, gi_0, zbs, h0, hsl5, zbs, zbs, znI_add1, si_0, zbs, gi_0, zbs, hst, znI_sub1, si_0, zbs, hI5, gp_0_3, zbs, ai_42 hsl, zbs, e42, g1, if_neg (by decide), if_neg (by decide), if_neg (by decide), gp_0_4, zbs, ai_43 hsl, zbs, e43, g4, gp_0_6, zbs, ai_45 hsl, zbs, e45, g5, b1, zbs, yzb1]
    · rw [r6 k (by omega) (by omega) (by omega) h3]; exact r5 k h2
    · rw [r6 41 (by omega) (by omega) (by omega) (by omega)]; exact c5
theorem s_undo (h : zIv2 I t u nt nb nr q sh md om im LW BW) : zOKs (zs I J (zPt t u i f s x)) (fun σ => f_W_undo σ 0) (fun σ => f_M_undo σ 91) := by
  obtain ⟨d, w, o, Q, hA⟩ := h.2.2.2.2.2.2.2.1
  obtain ⟨ht, hT, hN, hNb, -⟩ := h.2.1
  obtain ⟨hM, hX, -⟩ := hT
  have hnr := hM.2.2.1.2
  have hnb := hM.2.1.2
  have hnt := hM.1.2
  obtain ⟨⟨g1, g1'⟩, ⟨c0, c1, c2, c56, c57⟩, g3, g4, g5, g6, g7⟩ := hA
  cases d with
  | zero =>
    refine ⟨0, (zs I J (zPt t u i f s x)), (zs I J (zPt t u i f s x)), ?_, ?_, zIs_mk h⟩
    · show f_W_undo _ _ = _
      rw [f_W_undo, zg_11, gp_11_8, zbs, gp_11_5, zbs, f_A_takeBack, zg_0, gi_0, zbs, c0, if_pos (show nI 0 = 0 from rfl), yzb0, zbs, yzb0]
    · show f_M_undo _ _ = _
      rw [f_M_undo, zg_12, gi_12, zbs, c56, if_pos (show nI 0 = 0 from rfl), yzb0]
  | succ d =>
    have hn0 : ¬ nI (d + 1) = 0 := (by rw [show (0 : Int32) = nI 0 from rfl, zeq_nI (by omega) (by decide)]; omega)
    obtain ⟨I1, a1, a2, a3, a4⟩ := x_back (J := J) (t := t) (u := u) (i := i) (f := f) (s := s) (x := x) hnt hnr hnb g1' (show d < 40 by omega) c0 c1 c2 (g7 d (by omega)) (zNow_as hN g4)
    have e91 : I1 91 = I 91 := a2 91 (by decide) (by decide)
    generalize hI2 : zup (zup I1 91 56 (nI d)) 91 57 (nI (w + 1)) = I2
    have r2 : ∀ k, k ≠ 91 → I2 k = I1 k := fun k hk => by rw [← hI2, zup_ne _ _ _ hk, zup_ne _ _ _ hk]
    have c2' : ∀ k, k ≠ 56 → k ≠ 57 → I2 91 k = I 91 k := fun k h1 h2 => by rw [← hI2, zup_k _ _ h2, zup_k _ _ h1, e91]
    have k56 : I2 91 56 = nI d := by rw [← hI2, zup_k _ _ (by decide), zup_s]
    have k57 : I2 91 57 = nI (w + 1) := by rw [← hI2, zup_s]
    have hst : zup I1 91 56 (nI d) 91 57 = nI w := by rw [zup_k _ _ (by decide), e91]; exact c57
    obtain ⟨I3, b1, b2, b3, b4⟩ := m_exch (I := I2) (J := J) (t := t) (u := u) (i := i) (f := f) (s := s) (x := x) (show d < 40 by omega)
    have hx : f_W_undo (zs I J (zPt t u i f s x)) 0 = some (1, (zs I1 J (zPt t u i f s x))) := by
      rw [f_W_undo, zg_11, gp_11_8, zbs, gp_11_5, zbs, a1, zbs, yzb1]
    have hm : f_M_undo (zs I1 J (zPt t u i f s x)) 91 = some (1, (zs I3 J (zPt t u i f s x))) := by
      rw [f_M_undo, zg_12, gi_12, zbs, e91, c56, if_neg hn0, zbs, znI_sub1, si_12, zbs, gi_12, zbs, hst, znI_add1, si_12, zbs, hI2, gi_12, zbs, k56, ml96, b1, zbs, yzb1]
    have e111 : I2 111 = I 111 := (r2 111 (by decide)).trans (a2 111 (by decide) (by decide))
    have e116 : I2 116 = I 116 := (r2 116 (by decide)).trans (a2 116 (by decide) (by decide))
    rw [e111, e116] at b3
    rw [e116] at b4
    have rr : ∀ k, k ≠ 91 → k ≠ 111 → k ≠ 116 → k ≠ 41 → (k < 30 ∨ 33 < k) → I3 k = I k := fun k q1 q2 q3 q4 q5 => by rw [b2 k q2 q3, r2 k q1, a2 k q5 q4]
    have hQ : zAs (Q d) (I3 111) := fun k hk => by rw [(b3 k hk).1]; exact (g5 d (by omega) k hk).symm
    have hrow : zRow (I3 111) nt nb nr := zRow_as (g3 d (by omega)) (fun k hk => (hQ k hk).symm)
    refine ⟨_, _, _, hx, hm, zIs_ex (zIv_act h (fun a k ha => ?_) ?_ hrow (zBx_ac h.2.2.2.2.2.2.1 (fun a ha => rr a (by omega) (by omega) (by omega) (by omega) (by omega))) ⟨d, w + 1, o, Q, ⟨by omega, g1'⟩, ⟨?_, ?_, ?_, ?_, ?_⟩, fun j hj => g3 j (by omega), hQ, fun j hj k hk => ?_, fun j h1 h2 k hk => ?_, fun j hj => ?_⟩)⟩
    · have hz := zSa_n ha
      by_cases q91 : a = 91
      · subst q91
        rw [b2 91 (by decide) (by decide), c2' k (by omega) (by omega)]
      · rw [rr a q91 (by omega) (by omega) (by omega) (by omega)]
    · exact zNow_as (zNow_rows a4 (by rw [b2 30 (by decide) (by decide), r2 30 (by decide)]) (by rw [b2 31 (by decide) (by decide), r2 31 (by decide)]) (by rw [b2 32 (by decide) (by decide), r2 32 (by decide)]) (by rw [b2 33 (by decide) (by decide), r2 33 (by decide)])) (fun k hk => (hQ k hk).symm)
    · rw [b2 41 (by decide) (by decide), r2 41 (by decide)]; exact a3.1
    · rw [b2 41 (by decide) (by decide), r2 41 (by decide)]; exact a3.2.1
    · rw [b2 41 (by decide) (by decide), r2 41 (by decide)]; exact a3.2.2
    · rw [b2 91 (by decide) (by decide)]; exact k56
    · rw [b2 91 (by decide) (by decide)]; exact k57
    · show I3 116 (96 * j + k) = _
      rw [b4 _ (by omega)]; exact g5 j (by omega) k hk
    · show I3 116 (96 * j + k) = _
      by_cases e : j = d
      · rw [e, (b3 k hk).2]; exact (g4 k hk).symm
      · rw [b4 _ (by omega)]; exact g6 j (by omega) (by omega) k hk
    · exact zDs_rows (g7 j (by omega)) (rr 42 (by decide) (by decide) (by decide) (by decide) (by decide)) (rr 43 (by decide) (by decide) (by decide) (by decide) (by decide)) (rr 44 (by decide) (by decide) (by decide) (by decide) (by decide)) (rr 45 (by decide) (by decide) (by decide) (by decide) (by decide)) (rr 46 (by decide) (by decide) (by decide) (by decide) (by decide)) (rr 107 (by decide) (by decide) (by decide) (by decide) (by decide))
theorem s_redo (h : zIv2 I t u nt nb nr q sh md om im LW BW) : zOKs (zs I J (zPt t u i f s x)) (fun σ => f_W_redo σ 0) (fun σ => f_M_redo σ 91) := by
  obtain ⟨d, w, o, Q, hA⟩ := h.2.2.2.2.2.2.2.1
  obtain ⟨ht, hT, hN, hNb, -⟩ := h.2.1
  obtain ⟨hM, hX, hq, hsh, hmd, hun, hw, hou, hod, hbd⟩ := hT
  have hnr := hM.2.2.1.2
  have hnb := hM.2.1.2
  have hnt := hM.1.2
  obtain ⟨⟨g1, g1'⟩, ⟨c0, c1, c2, c56, c57⟩, g3, g4, g5, g6, g7⟩ := hA
  cases w with
  | zero =>
    refine ⟨0, (zs I J (zPt t u i f s x)), (zs I J (zPt t u i f s x)), ?_, ?_, zIs_mk h⟩
    · show f_W_redo _ _ = _
      rw [f_W_redo, zg_11, gp_11_8, zbs, gp_11_5, zbs, gp_11_2, zbs, f_A_doAgain, zg_0, gi_0, zbs, c1, if_pos (show nI 0 = 0 from rfl), yzb0, zbs, yzb0]
    · show f_M_redo _ _ = _
      rw [f_M_redo, zg_12, gi_12, zbs, c57, if_pos (show nI 0 = 0 from rfl), yzb0]
  | succ w =>
    have hn0 : ¬ nI (w + 1) = 0 := (by rw [show (0 : Int32) = nI 0 from rfl, zeq_nI (by omega) (by decide)]; omega)
    obtain ⟨I1, a1, a2, a3, a4⟩ := x_again (J := J) (t := t) (u := u) (i := i) (f := f) (s := s) (x := x) ht hX.1.1 hbd hw hnt hnr hnb g1' (show d < 40 by omega) (show w < 40 by omega) c0 c1 c2 (g7 d (by omega)) (zNow_as hN g4)
    have e91 : I1 91 = I 91 := a2 91 (by decide) (by decide) (by omega)
    obtain ⟨I2, b1, b2, b3, b4⟩ := m_exch (I := I1) (J := J) (t := t) (u := u) (i := i) (f := f) (s := s) (x := x) (show d < 40 by omega)
    have e91' : I2 91 = I 91 := (b2 91 (by decide) (by decide)).trans e91
    generalize hI3 : zup (zup I2 91 56 (nI (d + 1))) 91 57 (nI w) = I3
    have r2 : ∀ k, k ≠ 91 → I3 k = I2 k := fun k hk => by rw [← hI3, zup_ne _ _ _ hk, zup_ne _ _ _ hk]
    have c2' : ∀ k, k ≠ 56 → k ≠ 57 → I3 91 k = I 91 k := fun k h1 h2 => by rw [← hI3, zup_k _ _ h2, zup_k _ _ h1, e91']
    have k56 : I3 91 56 = nI (d + 1) := by rw [← hI3, zup_k _ _ (by decide), zup_s]
    have k57 : I3 91 57 = nI w := by rw [← hI3, zup_s]
    have hst : zup I2 91 56 (nI (d + 1)) 91 57 = nI (w + 1) := by rw [zup_k _ _ (by decide), e91']; exact c57
    have hx : f_W_redo (zs I J (zPt t u i f s x)) 0 = some (1, (zs I1 J (zPt t u i f s x))) := by
      rw [f_W_redo, zg_11, gp_11_8, zbs, gp_11_5, zbs, gp_11_2, zbs, a1, zbs, yzb1]
    have hm : f_M_redo (zs I1 J (zPt t u i f s x)) 91 = some (1, (zs I3 J (zPt t u i f s x))) := by
      rw [f_M_redo, zg_12, gi_12, zbs, e91, c57, if_neg hn0, gi_12, zbs, e91, c56, ml96, b1, zbs, gi_12, zbs, e91', c56, znI_add1, si_12, zbs, gi_12, zbs, hst, znI_sub1, si_12, zbs, hI3, yzb1]
    have e111 : I1 111 = I 111 := a2 111 (by decide) (by decide) (by omega)
    have e116 : I1 116 = I 116 := a2 116 (by decide) (by decide) (by omega)
    rw [e111, e116] at b3
    rw [e116] at b4
    have rr : ∀ k, k ≠ 91 → k ≠ 111 → k ≠ 116 → k ≠ 41 → k ≠ t + 10 → (k < 30 ∨ 34 < k) → I3 k = I k := fun k q1 q2 q3 q4 q5 q6 => by rw [r2 k q1, b2 k q2 q3, a2 k q6 q4 q5]
    have r11 : I3 111 = I2 111 := r2 111 (by decide)
    have r16 : I3 116 = I2 116 := r2 116 (by decide)
    have hQ : zAs (Q (d + 1)) (I3 111) := fun k hk => by rw [r11, (b3 k hk).1]; exact (g6 d (Nat.le_refl _) (by omega) k hk).symm
    have hrow : zRow (I3 111) nt nb nr := zRow_as (g3 (d + 1) (by omega)) (fun k hk => (hQ k hk).symm)
    refine ⟨_, _, _, hx, hm, zIs_ex (zIv_act h (fun a k ha => ?_) ?_ hrow (zBx_ac h.2.2.2.2.2.2.1 (fun a ha => rr a (by omega) (by omega) (by omega) (by omega) (by omega) (by omega))) ⟨d + 1, w, o, Q, ⟨by omega, g1'⟩, ⟨?_, ?_, ?_, ?_, ?_⟩, fun j hj => g3 j (by omega), hQ, fun j hj k hk => ?_, fun j h1 h2 k hk => ?_, fun j hj => ?_⟩)⟩
    · have hz := zSa_n ha
      by_cases q91 : a = 91
      · subst q91
        rw [c2' k (by omega) (by omega)]
      · rw [rr a q91 (by omega) (by omega) (by omega) (by omega) (by omega)]
    · exact zNow_as (zNow_rows a4 (by rw [r2 30 (by decide), b2 30 (by decide) (by decide)]) (by rw [r2 31 (by decide), b2 31 (by decide) (by decide)]) (by rw [r2 32 (by decide), b2 32 (by decide) (by decide)]) (by rw [r2 33 (by decide), b2 33 (by decide) (by decide)])) (fun k hk => (hQ k hk).symm)
    · rw [r2 41 (by decide), b2 41 (by decide) (by decide)]; exact a3.1
    · rw [r2 41 (by decide), b2 41 (by decide) (by decide)]; exact a3.2.1
    · rw [r2 41 (by decide), b2 41 (by decide) (by decide)]; exact a3.2.2
    · exact k56
    · exact k57
    · show I3 116 (96 * j + k) = _
      rw [r16]
      by_cases e : j = d
      · rw [e, (b3 k hk).2]; exact (g4 k hk).symm
      · rw [b4 _ (by omega)]; exact g5 j (by omega) k hk
    · show I3 116 (96 * j + k) = _
      rw [r16, b4 _ (by omega)]; exact g6 j (by omega) (by omega) k hk
    · exact zDs_rows (g7 j (by omega)) (rr 42 (by decide) (by decide) (by decide) (by decide) (by omega) (by decide)) (rr 43 (by decide) (by decide) (by decide) (by decide) (by omega) (by decide)) (rr 44 (by decide) (by decide) (by decide) (by decide) (by omega) (by decide)) (rr 45 (by decide) (by decide) (by decide) (by decide) (by omega) (by decide)) (rr 46 (by decide) (by decide) (by decide) (by decide) (by omega) (by decide)) (rr 107 (by decide) (by decide) (by decide) (by decide) (by omega) (by decide))
end ZAd
