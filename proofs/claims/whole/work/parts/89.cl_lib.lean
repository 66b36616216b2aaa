/-! library -/
theorem zonce : ∀ o, o < 32 → (nI o &&& 1 = 0 ↔ o.testBit 0 = false) ∧ (nI o &&& 2 = 0 ↔ o.testBit 1 = false) := by decide +kernel
theorem zval_l1 : zval [-1] 0 := zval_num (by decide) (by decide) rfl
theorem zval_l3 : zval [-3] 0 := zval_num (by decide) (by decide) rfl
section ZLi
variable {I : Nat → Nat → Int32} {J : Nat → Nat → Int64} {t u i f s x : Nat} {nt nb nr q sh md om im : Nat} {LW BW : List Int32}
theorem m_lib94 (c : Bool) : f_M_library_94 (zs I J (zPt t u i f s x)) 91 (zB c) 91 = f_M_library_107L zfu (zs (zup (zup I 91 48 (zB c)) 91 22 (I 91 21)) J (zPt t u i f s x)) 91 0 := by
  have hb : zbool (zB c) = some (zB c) := by cases c <;> rfl
  rw [f_M_library_94, hb, zbs, si_12, zbs, gi_12, zbs, zup_k _ _ (by decide), si_12, zbs]
theorem m_lib76 {o : Nat} (ho : o < 32) (h40 : I 91 40 = nI o) (c : Bool) : f_M_library_76 (zs I J (zPt t u i f s x)) 91 (zB c) 91 = f_M_library_107L zfu (zs (zup (zup (zup I 91 47 (zB c)) 91 48 (zB (o.testBit 1))) 91 22 (I 91 21)) J (zPt t u i f s x)) 91 0 := by
  have hb : zbool (zB c) = some (zB c) := by cases c <;> rfl
  have e40 : zup I 91 47 (zB c) 91 40 = nI o := by rw [zup_k _ _ (by decide)]; exact h40
  have e21 : zup I 91 47 (zB c) 91 21 = I 91 21 := zup_k _ _ (by decide)
  rw [f_M_library_76, hb, zbs, si_12, zbs, gi_12, zbs, e40]
  by_cases h : nI o &&& 2 = 0
  · rw [if_pos h, ((zonce o ho).2.mp h)]
    exact (m_lib94 (I := zup I 91 47 (zB c)) false).trans (by rw [e21])
  · have hT : o.testBit 1 = true := by
      cases e : o.testBit 1
      · exact absurd ((zonce o ho).2.mpr e) h
      · rfl
    rw [if_neg h, hT]
    exact (m_lib94 (I := zup I 91 47 (zB c)) true).trans (by rw [e21])
theorem m_lib_ok {I1 : Nat → Nat → Int32} {J1 : Nat → Nat → Int64} {ps : yPs} {n : Nat} (hR : f_M_readAll (zs I J (zPt t u i f s x)) 91 = some (zs I1 J1 (zPt t u i f s x))) (hM : yMD I1 J1 ps) (hp : yPi n ps) : ∃ I', f_M_library (zs I J (zPt t u i f s x)) 91 = some (nI ps.2.2.1.length, (zs I' J1 (zPt t u i f s x))) ∧
    (∀ c, c ≠ 91 → (c < 97 ∨ 99 < c) → (c < 107 ∨ 111 < c) → c ≠ 132 → I' c = I1 c) ∧ (∀ k, k ≠ 22 → (k < 41 ∨ 48 < k) → k ≠ 56 → k ≠ 57 → k ≠ 59 → k ≠ 71 → k ≠ 78 → I' 91 k = I1 91 k) ∧
    (I' 91 41 = nI ps.2.1.length ∧ I' 91 42 = nI ps.2.2.1.length ∧ I' 91 43 = nI ps.2.2.2.1.length ∧ I' 91 44 = nI ps.2.2.2.2.2.2.2.2.1 ∧ I' 91 45 = nI ps.2.2.2.2.2.2.2.2.2.1 ∧ I' 91 46 = nI ps.2.2.2.2.2.2.2.2.2.2.1 ∧ I' 91 47 = zB (ps.2.2.2.2.2.2.2.2.2.2.2.1.testBit 0) ∧ I' 91 48 = zB (ps.2.2.2.2.2.2.2.2.2.2.2.1.testBit 1) ∧ I' 91 22 = nI ps.2.2.2.2.2.2.2.2.2.2.2.2.2.2) ∧
    (I' 91 56 = 0 ∧ I' 91 57 = 0 ∧ I' 91 78 = 0 ∧ I' 91 71 = 0 ∧ I' 91 59 = 0) ∧ (∀ b, b < 3 → I' 132 b = 0) ∧ (∀ k, k < 92 → I' 111 k = zrow0 ps.2.2.2.1.length ps.2.2.2.2.2.1 k) ∧
    (∀ k, k < 4 * ps.2.2.1.length → I' 107 k = ps.2.2.2.2.1 k) ∧ (∀ k, k < 4 * ps.2.2.2.1.length → I' 109 k = ps.2.2.2.2.2.2.1 k) ∧ (∀ k, k < ps.2.2.2.1.length → I' 110 k = ps.2.2.2.2.2.2.2.1 k) ∧
    (∀ g, g < 2 → I' 99 g = I1 96 g ∧ ∀ m, m ≤ 300 → I1 96 g = nI m → ∀ j, j < m → I' 97 (320 * g + j) = I1 94 (320 * g + j) ∧ I' 98 (320 * g + j) = I1 95 (320 * g + j)) := by
  obtain ⟨⟨m34, m35, m36, m37, m38, m39, m40, m21, m2, m3⟩, ⟨mW, mwa, mou, mod'⟩, -, -, hB⟩ := hM
  have hbn := hp.2.2.1
  have hrn := hp.2.2.2.1
  have ho := hp.2.2.2.2.2.2.2.1
  generalize hI6 : zup (zup (zup (zup (zup (zup I1 91 41 (nI ps.2.1.length)) 91 42 (nI ps.2.2.1.length)) 91 43 (nI ps.2.2.2.1.length)) 91 44 (nI ps.2.2.2.2.2.2.2.2.1)) 91 45 (nI ps.2.2.2.2.2.2.2.2.2.1)) 91 46 (nI ps.2.2.2.2.2.2.2.2.2.2.1) = I6
  have c6 : ∀ k, (k < 41 ∨ 46 < k) → I6 91 k = I1 91 k := fun k hk => by rw [← hI6, zup_k _ _ (by omega), zup_k _ _ (by omega), zup_k _ _ (by omega), zup_k _ _ (by omega), zup_k _ _ (by omega), zup_k _ _ (by omega)]
  have r6 : ∀ a, a ≠ 91 → I6 a = I1 a := fun a ha => by rw [← hI6]; iterate 6 rw [zup_ne _ _ _ ha]
  have v6 : I6 91 41 = nI ps.2.1.length ∧ I6 91 42 = nI ps.2.2.1.length ∧ I6 91 43 = nI ps.2.2.2.1.length ∧ I6 91 44 = nI ps.2.2.2.2.2.2.2.2.1 ∧ I6 91 45 = nI ps.2.2.2.2.2.2.2.2.2.1 ∧ I6 91 46 = nI ps.2.2.2.2.2.2.2.2.2.2.1 := by rw [← hI6]; simp [zup_at]
  have e40 : I6 91 40 = nI ps.2.2.2.2.2.2.2.2.2.2.2.1 := by rw [c6 40 (by decide)]; exact m40
  have e21 : I6 91 21 = nI ps.2.2.2.2.2.2.2.2.2.2.2.2.2.2 := by rw [c6 21 (by decide)]; exact m21
  generalize hI9 : zup (zup (zup I6 91 47 (zB (ps.2.2.2.2.2.2.2.2.2.2.2.1.testBit 0))) 91 48 (zB (ps.2.2.2.2.2.2.2.2.2.2.2.1.testBit 1))) 91 22 (I6 91 21) = I9
  have r9 : ∀ a, a ≠ 91 → I9 a = I1 a := fun a ha => by rw [← hI9, zup_ne _ _ _ ha, zup_ne _ _ _ ha, zup_ne _ _ _ ha, r6 a ha]
  have c9 : ∀ k, k ≠ 22 → k ≠ 47 → k ≠ 48 → I9 91 k = I6 91 k := fun k h1 h2 h3 => by rw [← hI9, zup_k _ _ h1, zup_k _ _ h3, zup_k _ _ h2]
  have v9 : I9 91 47 = zB (ps.2.2.2.2.2.2.2.2.2.2.2.1.testBit 0) ∧ I9 91 48 = zB (ps.2.2.2.2.2.2.2.2.2.2.2.1.testBit 1) ∧ I9 91 22 = nI ps.2.2.2.2.2.2.2.2.2.2.2.2.2.2 := by
    rw [← hI9]
    refine ⟨?_, ?_, ?_⟩
    · rw [zup_k _ _ (by decide), zup_k _ _ (by decide), zup_s]
    · rw [zup_k _ _ (by decide), zup_s]
    · rw [zup_s]; exact e21
  have E1 : f_M_library (zs I J (zPt t u i f s x)) 91 = f_M_library_107L zfu (zs I9 J1 (zPt t u i f s x)) 91 0 := by
    rw [f_M_library, zg_12, hR, zbs, gi_12, zbs, m2, if_pos (by decide), gi_12, zbs, m34, si_12, zbs, gi_12, zbs, zup_k _ _ (by decide), m35, si_12, zbs, gi_12, zbs, zup_k _ _ (by decide), zup_k _ _ (by decide), m36, si_12, zbs, gi_12, zbs, zup_k _ _ (by decide), zup_k _ _ (by decide), zup_k _ _ (by decide), m37, si_12, zbs, gi_12, zbs, zup_k _ _ (by decide), zup_k _ _ (by decide), zup_k _ _ (by decide), zup_k _ _ (by decide), m38, si_12, zbs, gi_12, zbs, zup_k _ _ (by decide), zup_k _ _ (by decide), zup_k _ _ (by decide), zup_k _ _ (by decide), zup_k _ _ (by decide), m39, si_12, zbs, hI6, gi_12, zbs, e40]
    by_cases h : nI ps.2.2.2.2.2.2.2.2.2.2.2.1 &&& 1 = 0
    · rw [if_pos h, ← hI9, (zonce _ ho).1.mp h]
      exact m_lib76 ho e40 false
    · have hT : ps.2.2.2.2.2.2.2.2.2.2.2.1.testBit 0 = true := by
        cases e : ps.2.2.2.2.2.2.2.2.2.2.2.1.testBit 0
        · exact absurd ((zonce _ ho).1.mpr e) h
        · rfl
      rw [if_neg h, ← hI9, hT]
      exact m_lib76 ho e40 true
  obtain ⟨I10, a1, a2, a3⟩ := m_lib107 (I := I9) (J := J1) (t := t) (u := u) (i := i) (f := f) (s := s) (x := x) (fun g hg => by rw [r9 96 (by decide)]; exact hB g hg)
  have e91 : I10 91 = I9 91 := a2 91 (by decide) (by decide) (by decide)
  obtain ⟨I11, b1, b2, b3, b4, b5, b6, b7, b8, b9⟩ := m_lib184 (I := I10) (J := J1) (t := t) (u := u) (i := i) (f := f) (s := s) (x := x) (nr := ps.2.2.2.1.length) (by rw [e91, c9 43 (by decide) (by decide) (by decide)]; exact v6.2.2.1) hrn
  have q91 : ∀ k, k ≠ 56 → k ≠ 57 → k ≠ 78 → k ≠ 71 → k ≠ 59 → I11 91 k = I9 91 k := fun k h1 h2 h3 h4 h5 => by rw [b3 k h1 h2 h3 h4 h5, e91]
  have q10 : ∀ a, a ≠ 91 → a ≠ 97 → a ≠ 98 → a ≠ 99 → I10 a = I1 a := fun a h1 h2 h3 h4 => by rw [a2 a h2 h3 h4, r9 a h1]
  refine ⟨I11, ?_, fun c h1 h2 h3 h4 => ?_, fun k h1 h2 h3 h4 h5 h6 h7 => ?_, ⟨?_, ?_, ?_, ?_, ?_, ?_, ?_, ?_, ?_⟩, b4, b5, fun k hk => ?_, fun k hk => ?_, fun k hk => ?_, fun k hk => ?_, fun g hg => ?_⟩
  · rw [E1, a1, b1, e91, c9 42 (by decide) (by decide) (by decide), v6.2.1]
  · rw [b2 c h4 h1 (by omega) (by omega), q10 c h1 (by omega) (by omega) (by omega)]
  · rw [q91 k h3 h4 h7 h6 h5, c9 k h1 (by omega) (by omega), c6 k (by omega)]
  · rw [q91 41 (by decide) (by decide) (by decide) (by decide) (by decide), c9 41 (by decide) (by decide) (by decide)]; exact v6.1
  · rw [q91 42 (by decide) (by decide) (by decide) (by decide) (by decide), c9 42 (by decide) (by decide) (by decide)]; exact v6.2.1
  · rw [q91 43 (by decide) (by decide) (by decide) (by decide) (by decide), c9 43 (by decide) (by decide) (by decide)]; exact v6.2.2.1
  · rw [q91 44 (by decide) (by decide) (by decide) (by decide) (by decide), c9 44 (by decide) (by decide) (by decide)]; exact v6.2.2.2.1
  · rw [q91 45 (by decide) (by decide) (by decide) (by decide) (by decide), c9 45 (by decide) (by decide) (by decide)]; exact v6.2.2.2.2.1
  · rw [q91 46 (by decide) (by decide) (by decide) (by decide) (by decide), c9 46 (by decide) (by decide) (by decide)]; exact v6.2.2.2.2.2
  · rw [q91 47 (by decide) (by decide) (by decide) (by decide) (by decide)]; exact v9.1
  · rw [q91 48 (by decide) (by decide) (by decide) (by decide) (by decide)]; exact v9.2.1
  · rw [q91 22 (by decide) (by decide) (by decide) (by decide) (by decide)]; exact v9.2.2
  · rw [b6 k hk, q10 104 (by decide) (by decide) (by decide) (by decide)]
    unfold zrow0
    by_cases h1 : k < 4 * ps.2.2.2.1.length
    · rw [if_pos h1, if_pos h1]; exact mwa k h1
    · rw [if_neg h1, if_neg h1]
  · rw [b7 k (by omega), q10 103 (by decide) (by decide) (by decide) (by decide)]; exact mW k hk
  · rw [b8 k (by omega), q10 105 (by decide) (by decide) (by decide) (by decide)]; exact mou k hk
  · rw [b9 k (by omega), q10 106 (by decide) (by decide) (by decide) (by decide)]; exact mod' k hk
  · have := a3 g hg
    rw [r9 96 (by decide), r9 94 (by decide), r9 95 (by decide)] at this
    rw [b2 99 (by decide) (by decide) (by decide) (by decide), b2 97 (by decide) (by decide) (by decide) (by decide), b2 98 (by decide) (by decide) (by decide) (by decide)]
    exact this
end ZLi
