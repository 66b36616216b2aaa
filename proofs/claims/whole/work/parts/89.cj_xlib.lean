/-! library: the class -/
section ZLx
variable {I : Nat → Nat → Int32} {J : Nat → Nat → Int64} {t u i f s x : Nat} {B : Nat → Nat} {n : Nat}
theorem x_begin {A : Nat} (hA : A = 2 ∨ A = 13) : ∃ I', f_N_begin (zs I J (zPt t u i f s x)) 30 A = some (zs I' J (zPt t u i f s x)) ∧ (∀ a, (a < 30 ∨ 33 < a) → I' a = I a) ∧ (∀ k, k < 24 → I' 31 k = I (A + 2) k) ∧ (∀ k, k < 6 → I' 32 k = -1) ∧ (∀ k, k < 60 → I' 33 k = 0) ∧ I' 30 3 = 0 ∧ I' 30 4 = 0 := by
  have k1 : zlen (zs I J (zPt t u i f s x)) 1 (30 + 1) = some (nI 24) := zs_len zl_31
  have c1 : zcpy (zs I J (zPt t u i f s x)) (A + 2) 0 (30 + 1) 0 (nI 24) = some (zs (zro I (30 + 1) (va_cpy (I (A + 2)) (I (30 + 1)) 0 0 24)) J (zPt t u i f s x)) := zcp0 (by rcases hA with rfl | rfl <;> rfl) zl_31 (by decide)
  generalize hI1 : zro I (30 + 1) (va_cpy (I (A + 2)) (I (30 + 1)) 0 0 24) = I1 at c1
  obtain ⟨I2, a1, a2, a3⟩ := g_J_fill (I := I1) (J := J) (P := zPt t u i f s x) (a := 30 + 2) (n := 6) zl_32 (by decide) (-1)
  obtain ⟨I3, b1, b2, b3⟩ := g_J_fill (I := I2) (J := J) (P := zPt t u i f s x) (a := 30 + 3) (n := 60) zl_33 (by decide) 0
  have r2 : ∀ a, a ≠ 32 → I2 a = I1 a := fun a ha => zfr_sl a2 a (by simp [ha])
  have r3 : ∀ a, a ≠ 33 → I3 a = I2 a := fun a ha => zfr_sl b2 a (by simp [ha])
  have E : f_N_begin (zs I J (zPt t u i f s x)) 30 A = some (zs (zup (zup I3 30 3 0) 30 4 0) J (zPt t u i f s x)) := by
    rw [f_N_begin, zg_4 (Or.inl rfl), gp_10_8 hA, zbs, gp_4_0 (Or.inl rfl), zbs, zbs, k1, zbs, c1, zbs, gp_4_1 (Or.inl rfl), zbs, a1, zbs, gp_4_2 (Or.inl rfl), zbs, b1, zbs, si_4 (Or.inl rfl), zbs, si_4 (Or.inl rfl), zbs]
  refine ⟨_, E, fun a ha => ?_, fun k hk => ?_, fun k hk => ?_, fun k hk => ?_, ?_, zup_s _ _ _ _⟩
  · rw [zup_ne _ _ _ (by omega), zup_ne _ _ _ (by omega), r3 a (by omega), r2 a (by omega), ← hI1, zro_ne _ _ (by omega)]
  · rw [zup_ne _ _ _ (by decide), zup_ne _ _ _ (by decide), r3 31 (by decide), r2 31 (by decide), ← hI1, show (30 + 1 : Nat) = 31 from rfl, zro_self]
    unfold va_cpy
    rw [if_pos (by omega), show 0 + (k - 0) = k by omega]
  · rw [zup_ne _ _ _ (by decide), zup_ne _ _ _ (by decide), r3 32 (by decide)]; exact a3 k hk
  · rw [zup_ne _ _ _ (by decide), zup_ne _ _ _ (by decide)]; exact b3 k hk
  · rw [zup_k _ _ (by decide), zup_s]
theorem x_kept : ∃ I', f_W_library_76L zfu (zs I J (zPt t u i f s x)) 0 0 = f_W_library_97 (zs I' J (zPt t u i f s x)) 0 ∧ (∀ a, (a < 76 ∨ 90 < a) → I' a = I a) ∧ ∀ b, b < 3 → I' (76 + 5 * b) 5 = 0 := by
  obtain ⟨I4, ⟨b1, b2⟩, b4⟩ := zfor (fun fuel I' k => f_W_library_76L fuel (zs I' J (zPt t u i f s x)) 0 (nI k)) 3 (fun k I' => (∀ a, (a < 76 ∨ 90 < a) → I' a = I a) ∧ ∀ b, b < k → I' (76 + 5 * b) 5 = 0) (fun I' => f_W_library_97 (zs I' J (zPt t u i f s x)) 0)
    (fun m k I' hk hi => by
      have hNN : 76 + 5 * k = 30 ∨ 76 + 5 * k = 35 ∨ 76 + 5 * k = 76 ∨ 76 + 5 * k = 81 ∨ 76 + 5 * k = 86 := by omega
      refine ⟨zup I' (76 + 5 * k) 5 0, ⟨fun a ha => ?_, fun b hb => ?_⟩, ?_⟩
      · rw [zup_ne _ _ _ (by omega)]; exact hi.1 a ha
      · by_cases e : b = k
        · rw [e, zup_s]
        · rw [zup_ne _ _ _ (by omega)]; exact hi.2 b (by omega)
      · show f_W_library_76L (m + 1) _ _ _ = _
        have hle : ¬ (3 : Int32) ≤ nI k := by rw [show (3 : Int32) = nI 3 from rfl, zle_nI (by decide) (by omega)]; omega
        rw [f_W_library_76L, f_W_library_76, if_neg hle, gp_11_7, zbs, ap_40 hk, zbs, si_4 hNN, zbs, znI_add1])
    (fun m I' hi => by
      show f_W_library_76L (m + 1) _ _ _ = _
      rw [f_W_library_76L, f_W_library_76, if_pos (by decide)]) 3 0 I zfu rfl ⟨fun _ _ => rfl, fun _ h => by omega⟩ (zfu_lt (by decide))
  exact ⟨I4, b4, b1, b2⟩
theorem yXD_rows {I' : Nat → Nat → Int32} {J' : Nat → Nat → Int64} {ps : yPs} (h : yXD I J u ps) (hI : ∀ a, ((u ≤ a ∧ a ≤ u + 10) ∨ a = 24) → I' a = I a) (hJ : J' = J) : yXD I' J' u ps := by
  unfold yXD yFm
  rw [hJ, hI u (by omega), hI (u + 1) (by omega), hI (u + 2) (by omega), hI (u + 3) (by omega), hI (u + 4) (by omega), hI (u + 5) (by omega), hI (u + 5 + 1) (by omega), hI (u + 8) (by omega), hI (u + 8 + 1) (by omega), hI 24 (by omega)]
  exact h
theorem x_lib_er {c pl : Nat} (hu : u = 2 ∨ u = 13) (hT : yTp I B n) (h1 : I 0 1 = nI n) (hx : ytext B n = .error (c, pl)) : ∃ I' J' f', f_W_library (zs I J (zPt t u i f s x)) 0 = some (-1, zs I' J' (zPt t u u f' s 1)) ∧ (∀ a, a ≠ 24 → a ≠ 25 → a ≠ 0 → (a < u ∨ u + 10 < a) → I' a = I a) ∧ (∀ k, k ≠ 1 → I' 0 k = I 0 k) ∧ I' 0 1 = 0 ∧ I' 24 0 = nI c ∧ I' 24 1 = nI pl := by
  have T := x_tell (I := I) (J := J) (t := t) (u := u) (i := i) (f := f) (s := s) (x := x) hu hT
  rw [hx] at T
  obtain ⟨I1, J1, f1, a1, a2, a3, a4⟩ := T
  have E : f_W_library (zs I J (zPt t u i f s x)) 0 = some (-1, zs (zup I1 0 1 0) J1 (zPt t u u f1 s 1)) := by
    rw [f_W_library, zg_11, gp_11_4, zbs, gp_11_0, zbs, gi_11, zbs, h1, gp_11_3, zbs, a1, zbs]
    dsimp only
    rw [si_11, zbs, if_pos rfl]
  refine ⟨_, _, _, E, fun a h1 h2 h3 h4 => ?_, fun k hk => ?_, zup_s _ _ _ _, ?_, ?_⟩
  · rw [zup_ne _ _ _ h3]; exact a2.1 a h1 h2 h4
  · rw [zup_k _ _ hk, a2.1 0 (by decide) (by decide) (by omega)]
  · rw [zup_ne _ _ _ (by decide)]; exact a3
  · rw [zup_ne _ _ _ (by decide)]; exact a4
theorem x_lib_ok {ps : yPs} (hu : u = 2 ∨ u = 13) (hT : yTp I B n) (h1 : I 0 1 = nI n) (hx : ytext B n = .ok ps) : ∃ I' J' f', f_W_library (zs I J (zPt t u i f s x)) 0 = some (nI ps.2.2.1.length, zs I' J' (zPt u t u f' s 1)) ∧ (∀ a, a ≠ 24 → a ≠ 25 → a ≠ 0 → (a < u ∨ u + 10 < a) → (a < 30 ∨ 33 < a) → a ≠ 41 → a ≠ 68 → (a < 76 ∨ 90 < a) → I' a = I a) ∧ (I' 0 1 = 0 ∧ I' 0 16 = 0 ∧ I' 0 18 = 0) ∧ yPi n ps ∧ yXD I' J' u ps ∧ ((∀ k, k < 24 → I' 31 k = ps.2.2.2.2.2.1 k) ∧ (∀ k, k < 6 → I' 32 k = -1) ∧ (∀ k, k < 60 → I' 33 k = 0) ∧ I' 30 3 = 0 ∧ I' 30 4 = 0) ∧ (I' 41 0 = 0 ∧ I' 41 1 = 0 ∧ I' 41 2 = 0) ∧ (I' 68 0 = 0 ∧ I' 68 1 = I 68 1) ∧ ∀ b, b < 3 → I' (76 + 5 * b) 5 = 0 := by
  have T := x_tell (I := I) (J := J) (t := t) (u := u) (i := i) (f := f) (s := s) (x := x) hu hT
  rw [hx] at T
  obtain ⟨I1, J1, f1, a1, a2, a3, a4⟩ := T
  obtain ⟨I2, b1, b2, b3, b4, b5, b6, b7⟩ := x_begin (I := zup I1 0 1 0) (J := J1) (t := u) (u := t) (i := u) (f := f1) (s := s) (x := 1) (A := u) hu
  generalize hI3 : zup (zup (zup (zup I2 41 0 0) 41 1 0) 41 2 0) 68 0 0 = I3
  obtain ⟨I4, c1, c2, c3⟩ := x_kept (I := I3) (J := J1) (t := u) (u := t) (i := u) (f := f1) (s := s) (x := 1)
  have r3 : ∀ a, a ≠ 41 → a ≠ 68 → I3 a = I2 a := fun a h1 h2 => by rw [← hI3, zup_ne _ _ _ h2, zup_ne _ _ _ h1, zup_ne _ _ _ h1, zup_ne _ _ _ h1]
  generalize hI5 : zup (zup I4 0 16 0) 0 18 0 = I5
  have r5 : ∀ a, a ≠ 0 → I5 a = I4 a := fun a h => by rw [← hI5, zup_ne _ _ _ h, zup_ne _ _ _ h]
  have rr : ∀ a, a ≠ 0 → (a < 30 ∨ 33 < a) → a ≠ 41 → a ≠ 68 → (a < 76 ∨ 90 < a) → I5 a = I1 a := fun a q1 q2 q3 q4 q5 => by rw [r5 a q1, c2 a q5, r3 a q3 q4, b2 a q2, zup_ne _ _ _ q1]
  have hD : yXD I5 J1 u ps := yXD_rows a4 (fun a ha => rr a (by omega) (by omega) (by omega) (by omega) (by omega)) rfl
  have E : f_W_library (zs I J (zPt t u i f s x)) 0 = some (nI ps.2.2.1.length, zs I5 J1 (zPt u t u f1 s 1)) := by
    rw [f_W_library, zg_11, gp_11_4, zbs, gp_11_0, zbs, gi_11, zbs, h1, gp_11_3, zbs, a1, zbs]
    dsimp only
    rw [si_11, zbs, if_neg (by decide), gp_11_2, zbs, gp_11_3, zbs, sp_11, zbs, zput_t, sp_11, zbs, zput_u, gp_11_5, zbs, gp_11_2, zbs, b1, zbs, gp_11_8, zbs, x_clear, zbs, gp_11_14, zbs, f_L_clear, zg_3, si_3, zbs, zbs, hI3, c1, f_W_library_97, si_11, zbs, si_11, zbs, hI5, gp_11_2, zbs, gi_10 hu, zbs, hD.1.2.1]
  have q3 : ∀ a, (a < 76 ∨ 90 < a) → a ≠ 0 → I5 a = I3 a := fun a h1 h2 => by rw [r5 a h2, c2 a h1]
  refine ⟨_, _, _, E, fun a q1 q2 q3 q4 q5 q6 q7 q8 => ?_, ⟨?_, ?_, ?_⟩, a3, hD, ⟨fun k hk => ?_, fun k hk => ?_, fun k hk => ?_, ?_, ?_⟩, ⟨?_, ?_, ?_⟩, ⟨?_, ?_⟩, fun b hb => ?_⟩
  · rw [rr a q3 q5 q6 q7 q8]; exact a2.1 a q1 q2 q4
  · rw [← hI5, zup_k _ _ (by decide), zup_k _ _ (by decide), c2 0 (by decide), r3 0 (by decide) (by decide), b2 0 (by decide), zup_s]
  · rw [← hI5, zup_k _ _ (by decide), zup_s]
  · rw [← hI5, zup_s]
  · rw [q3 31 (by decide) (by decide), r3 31 (by decide) (by decide), b3 k hk, zup_ne _ _ _ (by omega)]; exact a4.2.1.2.1 k hk
  · rw [q3 32 (by decide) (by decide), r3 32 (by decide) (by decide), b4 k hk]
  · rw [q3 33 (by decide) (by decide), r3 33 (by decide) (by decide), b5 k hk]
  · rw [q3 30 (by decide) (by decide), r3 30 (by decide) (by decide), b6]
  · rw [q3 30 (by decide) (by decide), r3 30 (by decide) (by decide), b7]
  · rw [q3 41 (by decide) (by decide), ← hI3, zup_ne _ _ _ (by decide), zup_k _ _ (by decide), zup_k _ _ (by decide), zup_s]
  · rw [q3 41 (by decide) (by decide), ← hI3, zup_ne _ _ _ (by decide), zup_k _ _ (by decide), zup_s]
  · rw [q3 41 (by decide) (by decide), ← hI3, zup_ne _ _ _ (by decide), zup_s]
  · rw [q3 68 (by decide) (by decide), ← hI3, zup_s]
  · rw [q3 68 (by decide) (by decide), ← hI3, zup_k _ _ (by decide), zup_ne _ _ _ (by decide), zup_ne _ _ _ (by decide), zup_ne _ _ _ (by decide), b2 68 (by decide), zup_ne _ _ _ (by decide), a2.1 68 (by decide) (by decide) (by omega)]
  · rw [r5 _ (by omega)]; exact c3 b hb
end ZLx
