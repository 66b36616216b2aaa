/-! library: the reference -/
section ZLm
variable {I : Nat → Nat → Int32} {J : Nat → Nat → Int64} {t u i f s x : Nat}
theorem zwloop {F : Nat → zSt → Nat → Int32 → Option (Int32 × zSt)} {K : zSt → Option (Int32 × zSt)} {n b o : Nat} (val : Nat → Int32)
    (hs : ∀ m k I', k < n → (∀ c, c ≠ b → I' c = I c) → F (m + 1) (zs I' J (zPt t u i f s x)) 91 (nI k) = F m (zs (zup I' b (o + k) (val k)) J (zPt t u i f s x)) 91 (nI (k + 1)))
    (hf : ∀ m I', (∀ c, c ≠ b → I' c = I c) → F (m + 1) (zs I' J (zPt t u i f s x)) 91 (nI n) = K (zs I' J (zPt t u i f s x))) (hn : n < 3000) :
    ∃ I', F zfu (zs I J (zPt t u i f s x)) 91 0 = K (zs I' J (zPt t u i f s x)) ∧ (∀ c, c ≠ b → I' c = I c) ∧ (∀ k, k < n → I' b (o + k) = val k) ∧ ∀ k, (k < o ∨ o + n ≤ k) → I' b k = I b k := by
  obtain ⟨I4, ⟨b1, b2, b3⟩, b4⟩ := zfor (fun fuel I' k => F fuel (zs I' J (zPt t u i f s x)) 91 (nI k)) n (fun k I' => (∀ c, c ≠ b → I' c = I c) ∧ (∀ j, j < k → I' b (o + j) = val j) ∧ ∀ j, (j < o ∨ o + k ≤ j) → I' b j = I b j) (fun I' => K (zs I' J (zPt t u i f s x)))
    (fun m k I' hk hi => by
      refine ⟨zup I' b (o + k) (val k), ⟨fun c hc => ?_, fun j hj => ?_, fun j hj => ?_⟩, hs m k I' hk hi.1⟩
      · rw [zup_ne _ _ _ hc]; exact hi.1 c hc
      · rw [zup_at]
        by_cases e : j = k
        · rw [if_pos (by omega), e]
        · rw [if_neg (by omega)]; exact hi.2.1 j (by omega)
      · rw [zup_k _ _ (by omega)]; exact hi.2.2 j (by omega))
    (fun m I' hi => hf m I' hi.1) n 0 I zfu (by omega) ⟨fun _ _ => rfl, fun _ h => by omega, fun _ _ => rfl⟩ (zfu_lt (by omega))
  exact ⟨I4, b4, b1, b2, b3⟩
theorem m_lib374 : ∃ I', f_M_library_374L zfu (zs I J (zPt t u i f s x)) 91 0 = some (I 91 42, (zs I' J (zPt t u i f s x))) ∧ (∀ c, c ≠ 132 → I' c = I c) ∧ ∀ b, b < 3 → I' 132 b = 0 := by
  obtain ⟨I1, a1, a2, a3, -⟩ := zwloop (I := I) (J := J) (t := t) (u := u) (i := i) (f := f) (s := s) (x := x) (F := f_M_library_374L) (K := fun σ => some (I 91 42, σ)) (n := 3) (b := 132) (o := 0) (fun _ => 0)
    (fun m k I' hk hc => by
      have hle : ¬ (3 : Int32) ≤ nI k := by rw [show (3 : Int32) = nI 3 from rfl, zle_nI (by decide) (by omega)]; omega
      have w : zwI (zs I' J (zPt t u i f s x)) 3 132 (nI k) 0 = some (zs (zup I' 132 k 0) J (zPt t u i f s x)) := wi_132 hk
      rw [f_M_library_374L, f_M_library_374, if_neg hle, gp_12_81, zbs, w, zbs, znI_add1, Nat.zero_add])
    (fun m I' hc => by rw [f_M_library_374L, f_M_library_374, if_pos (by decide), gi_12, zbs, hc 91 (by decide)]) (by decide)
  exact ⟨I1, a1, a2, fun b hb => by have := a3 b hb; rwa [Nat.zero_add] at this⟩
theorem m_lib347 : ∃ I', f_M_library_347 (zs I J (zPt t u i f s x)) 91 = some (I 91 42, (zs I' J (zPt t u i f s x))) ∧ (∀ c, c ≠ 132 → c ≠ 91 → I' c = I c) ∧ (∀ k, k ≠ 56 → k ≠ 57 → k ≠ 78 → k ≠ 71 → k ≠ 59 → I' 91 k = I 91 k) ∧ (I' 91 56 = 0 ∧ I' 91 57 = 0 ∧ I' 91 78 = 0 ∧ I' 91 71 = 0 ∧ I' 91 59 = 0) ∧ ∀ b, b < 3 → I' 132 b = 0 := by
  generalize hI1 : zup (zup (zup (zup (zup I 91 56 0) 91 57 0) 91 78 0) 91 71 0) 91 59 0 = I1
  obtain ⟨I2, a1, a2, a3⟩ := m_lib374 (I := I1) (J := J) (t := t) (u := u) (i := i) (f := f) (s := s) (x := x)
  have c1 : ∀ k, k ≠ 56 → k ≠ 57 → k ≠ 78 → k ≠ 71 → k ≠ 59 → I1 91 k = I 91 k := fun k q1 q2 q3 q4 q5 => by rw [← hI1, zup_k _ _ q5, zup_k _ _ q4, zup_k _ _ q3, zup_k _ _ q2, zup_k _ _ q1]
  have E : f_M_library_347 (zs I J (zPt t u i f s x)) 91 = some (I 91 42, (zs I2 J (zPt t u i f s x))) := by
    rw [f_M_library_347, si_12, zbs, si_12, zbs, si_12, zbs, si_12, zbs, si_12, zbs, hI1, a1, c1 42 (by decide) (by decide) (by decide) (by decide) (by decide)]
  refine ⟨I2, E, fun c h1 h2 => ?_, fun k q1 q2 q3 q4 q5 => ?_, ?_, a3⟩
  · rw [a2 c h1, ← hI1, zup_ne _ _ _ h2, zup_ne _ _ _ h2, zup_ne _ _ _ h2, zup_ne _ _ _ h2, zup_ne _ _ _ h2]
  · rw [a2 91 (by decide)]; exact c1 k q1 q2 q3 q4 q5
  · rw [a2 91 (by decide), ← hI1]; simp [zup_at]
/-- the row of how it is now, at the beginning -/
def zrow0 (nr : Nat) (w : Nat → Int32) : Nat → Int32 := fun k => if k < 4 * nr then w k else if 24 ≤ k ∧ k < 30 then -1 else 0
theorem m_lib274 {nr : Nat} (h43 : I 91 43 = nI nr) (hnr : nr ≤ 6) : ∃ I', f_M_library_274L zfu (zs I J (zPt t u i f s x)) 91 0 = some (I 91 42, (zs I' J (zPt t u i f s x))) ∧ (∀ c, c ≠ 132 → c ≠ 91 → c ≠ 111 → I' c = I c) ∧ (∀ k, k ≠ 56 → k ≠ 57 → k ≠ 78 → k ≠ 71 → k ≠ 59 → I' 91 k = I 91 k) ∧ (I' 91 56 = 0 ∧ I' 91 57 = 0 ∧ I' 91 78 = 0 ∧ I' 91 71 = 0 ∧ I' 91 59 = 0) ∧ (∀ b, b < 3 → I' 132 b = 0) ∧ ∀ k, k < 92 → I' 111 k = zrow0 nr (I 108) k := by
  obtain ⟨I1, a1, a2, a3, -⟩ := zwloop (I := I) (J := J) (t := t) (u := u) (i := i) (f := f) (s := s) (x := x) (F := f_M_library_274L) (K := fun σ => f_M_library_295L zfu σ 91 0) (n := 92) (b := 111) (o := 0) (fun _ => 0)
    (fun m k I' hk hc => by
      have hle : ¬ (92 : Int32) ≤ nI k := by rw [ge92 (by omega)]; omega
      rw [f_M_library_274L, f_M_library_274, if_neg hle, gp_12_49, zbs, wi_111 (by omega), zbs, znI_add1, Nat.zero_add])
    (fun m I' hc => by rw [f_M_library_274L, f_M_library_274, if_pos (by decide)]) (by decide)
  have c43 : I1 91 43 = nI nr := by rw [a2 91 (by decide)]; exact h43
  obtain ⟨I2, b1, b2, b3, b4⟩ := zwloop (I := I1) (J := J) (t := t) (u := u) (i := i) (f := f) (s := s) (x := x) (F := f_M_library_295L) (K := fun σ => f_M_library_325L zfu σ 91 0) (n := 4 * nr) (b := 111) (o := 0) (fun k => I1 108 k)
    (fun m k I' hk hc => by
      have hle : ¬ nI (4 * nr) ≤ nI k := by rw [zle_nI (by omega) (by omega)]; omega
      rw [f_M_library_295L, f_M_library_295, gi_12, zbs, hc 91 (by decide), c43, ml4, if_neg hle, gp_12_49, zbs, gp_12_31, zbs, ai_108 (by omega), zbs, hc 108 (by decide), wi_111 (by omega), zbs, znI_add1, Nat.zero_add])
    (fun m I' hc => by
      rw [f_M_library_295L, f_M_library_295, gi_12, zbs, hc 91 (by decide), c43, ml4, if_pos (Int32.le_refl _)]) (by omega)
  obtain ⟨I3, d1, d2, d3, d4⟩ := zwloop (I := I2) (J := J) (t := t) (u := u) (i := i) (f := f) (s := s) (x := x) (F := f_M_library_325L) (K := fun σ => f_M_library_347 σ 91) (n := 6) (b := 111) (o := 24) (fun _ => -1)
    (fun m k I' hk hc => by
      have hle : ¬ (6 : Int32) ≤ nI k := by rw [ge6 (by omega)]; omega
      rw [f_M_library_325L, f_M_library_325, if_neg hle, gp_12_49, zbs, show (24 : Int32) = nI 24 from rfl, nI_add, wi_111 (by omega), zbs, znI_add1])
    (fun m I' hc => by rw [f_M_library_325L, f_M_library_325, if_pos (by decide)]) (by decide)
  obtain ⟨I4, e1, e2, e3, e4, e5⟩ := m_lib347 (I := I3) (J := J) (t := t) (u := u) (i := i) (f := f) (s := s) (x := x)
  have q : ∀ c, c ≠ 111 → I3 c = I c := fun c hc => by rw [d2 c hc, b2 c hc, a2 c hc]
  refine ⟨I4, ?_, fun c h1 h2 h3 => ?_, fun k q1 q2 q3 q4 q5 => ?_, e4, e5, fun k hk => ?_⟩
  · rw [a1, b1, d1, e1, q 91 (by decide)]
  · rw [e2 c h1 h2, q c h3]
  · rw [e3 k q1 q2 q3 q4 q5, q 91 (by decide)]
  · rw [e2 111 (by decide) (by decide)]
    unfold zrow0
    by_cases h1 : k < 4 * nr
    · have := b3 k h1
      rw [Nat.zero_add] at this
      rw [if_pos h1, d4 k (by omega), this, a2 108 (by decide)]
    · rw [if_neg h1]
      by_cases h2 : 24 ≤ k ∧ k < 30
      · have := d3 (k - 24) (by omega)
        rw [show 24 + (k - 24) = k by omega] at this
        rw [if_pos h2, this]
      · have := a3 k hk
        rw [Nat.zero_add] at this
        rw [if_neg h2, d4 k (by omega), b4 k (by omega), this]
theorem m_lib184 {nr : Nat} (h43 : I 91 43 = nI nr) (hnr : nr ≤ 6) : ∃ I', f_M_library_184L zfu (zs I J (zPt t u i f s x)) 91 0 = some (I 91 42, (zs I' J (zPt t u i f s x))) ∧ (∀ c, c ≠ 132 → c ≠ 91 → c ≠ 111 → (c < 107 ∨ 110 < c) → I' c = I c) ∧ (∀ k, k ≠ 56 → k ≠ 57 → k ≠ 78 → k ≠ 71 → k ≠ 59 → I' 91 k = I 91 k) ∧ (I' 91 56 = 0 ∧ I' 91 57 = 0 ∧ I' 91 78 = 0 ∧ I' 91 71 = 0 ∧ I' 91 59 = 0) ∧ (∀ b, b < 3 → I' 132 b = 0) ∧ (∀ k, k < 92 → I' 111 k = zrow0 nr (I 104) k) ∧ (∀ k, k < 40 → I' 107 k = I 103 k) ∧ (∀ k, k < 24 → I' 109 k = I 105 k) ∧ ∀ k, k < 6 → I' 110 k = I 106 k := by
  obtain ⟨I1, a1, a2, a3, -⟩ := zwloop (I := I) (J := J) (t := t) (u := u) (i := i) (f := f) (s := s) (x := x) (F := f_M_library_184L) (K := fun σ => f_M_library_210L zfu σ 91 0) (n := 40) (b := 107) (o := 0) (fun k => I 103 k)
    (fun m k I' hk hc => by
      have hle : ¬ (40 : Int32) ≤ nI k := by rw [ge40 (by omega)]; omega
      rw [f_M_library_184L, f_M_library_184, if_neg hle, gp_12_30, zbs, gp_12_26, zbs, ai_103 (by omega), zbs, hc 103 (by decide), wi_107 (by omega), zbs, znI_add1, Nat.zero_add])
    (fun m I' hc => by rw [f_M_library_184L, f_M_library_184, if_pos (by decide)]) (by decide)
  obtain ⟨I2, ⟨b1, b2⟩, b4⟩ := zfor (fun fuel I' k => f_M_library_210L fuel (zs I' J (zPt t u i f s x)) 91 (nI k)) 24 (fun k I' => (∀ c, c ≠ 108 → c ≠ 109 → I' c = I1 c) ∧ (∀ j, j < k → I' 108 j = I1 104 j ∧ I' 109 j = I1 105 j)) (fun I' => f_M_library_248L zfu (zs I' J (zPt t u i f s x)) 91 0)
    (fun m k I' hk hi => by
      refine ⟨zup (zup I' 108 k (I1 104 k)) 109 k (I1 105 k), ⟨fun c h1 h2 => ?_, fun j hj => ?_⟩, ?_⟩
      · rw [zup_ne _ _ _ h2, zup_ne _ _ _ h1]; exact hi.1 c h1 h2
      · rw [zup_ne _ _ _ (by decide), zup_at, zup_at, zup_ne _ _ _ (by decide)]
        by_cases e : j = k
        · rw [if_pos e, if_pos e, e]; exact ⟨rfl, rfl⟩
        · rw [if_neg e, if_neg e]; exact hi.2 j (by omega)
      · show f_M_library_210L (m + 1) _ _ _ = _
        have hle : ¬ (24 : Int32) ≤ nI k := by rw [ge24 (by omega)]; omega
        rw [f_M_library_210L, f_M_library_210, if_neg hle, gp_12_31, zbs, gp_12_27, zbs, ai_104 (by omega), zbs, hi.1 104 (by decide) (by decide), wi_108 (by omega), zbs, gp_12_32, zbs, gp_12_28, zbs, ai_105 (by omega), zbs, zup_ne _ _ _ (by decide), hi.1 105 (by decide) (by decide), wi_109 (by omega), zbs, znI_add1])
    (fun m I' hi => by
      show f_M_library_210L (m + 1) _ _ _ = _
      rw [f_M_library_210L, f_M_library_210, if_pos (by decide)]) 24 0 I1 zfu rfl ⟨fun _ _ _ => rfl, fun _ h => by omega⟩ (zfu_lt (by decide))
  have b4 : f_M_library_210L zfu (zs I1 J (zPt t u i f s x)) 91 0 = f_M_library_248L zfu (zs I2 J (zPt t u i f s x)) 91 0 := b4
  obtain ⟨I3, d1, d2, d3, -⟩ := zwloop (I := I2) (J := J) (t := t) (u := u) (i := i) (f := f) (s := s) (x := x) (F := f_M_library_248L) (K := fun σ => f_M_library_274L zfu σ 91 0) (n := 6) (b := 110) (o := 0) (fun k => I2 106 k)
    (fun m k I' hk hc => by
      have hle : ¬ (6 : Int32) ≤ nI k := by rw [ge6 (by omega)]; omega
      rw [f_M_library_248L, f_M_library_248, if_neg hle, gp_12_33, zbs, gp_12_29, zbs, ai_106 (by omega), zbs, hc 106 (by decide), wi_110 (by omega), zbs, znI_add1, Nat.zero_add])
    (fun m I' hc => by rw [f_M_library_248L, f_M_library_248, if_pos (by decide)]) (by decide)
  have q : ∀ c, c < 107 ∨ 110 < c → I3 c = I c := fun c hc => by rw [d2 c (by omega), b1 c (by omega) (by omega), a2 c (by omega)]
  obtain ⟨I4, e1, e2, e3, e4, e5, e6⟩ := m_lib274 (I := I3) (J := J) (t := t) (u := u) (i := i) (f := f) (s := s) (x := x) (by rw [q 91 (by decide)]; exact h43) hnr
  refine ⟨I4, ?_, fun c h1 h2 h3 h4 => ?_, fun k q1 q2 q3 q4 q5 => ?_, e4, e5, fun k hk => ?_, fun k hk => ?_, fun k hk => ?_, fun k hk => ?_⟩
  · rw [a1, b4, d1, e1, q 91 (by decide)]
  · rw [e2 c h1 h2 h3, q c h4]
  · rw [e3 k q1 q2 q3 q4 q5, q 91 (by decide)]
  · rw [e6 k hk]
    unfold zrow0
    by_cases h1 : k < 4 * nr
    · rw [if_pos h1, if_pos h1, d2 108 (by decide), (b2 k (by omega)).1, a2 104 (by decide)]
    · rw [if_neg h1, if_neg h1]
  · have := a3 k hk
    rw [Nat.zero_add] at this
    rw [e2 107 (by decide) (by decide) (by decide), d2 107 (by decide), b1 107 (by decide) (by decide), this]
  · rw [e2 109 (by decide) (by decide) (by decide), d2 109 (by decide), (b2 k hk).2, a2 105 (by decide)]
  · have := d3 k hk
    rw [Nat.zero_add] at this
    rw [e2 110 (by decide) (by decide) (by decide), this, b1 106 (by decide) (by decide), a2 106 (by decide)]
theorem m_lib130 {K : zSt → Nat → Int32 → Option (Int32 × zSt)} {g m : Nat} (hg : g < 2) (hm : m ≤ 300) (h99 : I 99 g = nI m) : ∃ I', f_M_library_130L K zfu (zs I J (zPt t u i f s x)) 91 (nI g) (nI (320 * g)) = K (zs I' J (zPt t u i f s x)) 91 (nI (g + 1)) ∧ (∀ c, c ≠ 97 → c ≠ 98 → I' c = I c) ∧ (∀ j, j < m → I' 97 (320 * g + j) = I 94 (320 * g + j) ∧ I' 98 (320 * g + j) = I 95 (320 * g + j)) ∧ ∀ k, (k < 320 * g ∨ 320 * g + m ≤ k) → I' 97 k = I 97 k ∧ I' 98 k = I 98 k := by
  obtain ⟨I2, ⟨b1, b2, b3⟩, b4⟩ := zfor (fun fuel I' k => f_M_library_130L K fuel (zs I' J (zPt t u i f s x)) 91 (nI g) (nI (320 * g + k))) m (fun k I' => (∀ c, c ≠ 97 → c ≠ 98 → I' c = I c) ∧ (∀ j, j < k → I' 97 (320 * g + j) = I 94 (320 * g + j) ∧ I' 98 (320 * g + j) = I 95 (320 * g + j)) ∧ ∀ j, (j < 320 * g ∨ 320 * g + k ≤ j) → I' 97 j = I 97 j ∧ I' 98 j = I 98 j) (fun I' => K (zs I' J (zPt t u i f s x)) 91 (nI (g + 1)))
    (fun w k I' hk hi => by
      refine ⟨zup (zup I' 97 (320 * g + k) (I 94 (320 * g + k))) 98 (320 * g + k) (I 95 (320 * g + k)), ⟨fun c h1 h2 => ?_, fun j hj => ?_, fun j hj => ?_⟩, ?_⟩
      · rw [zup_ne _ _ _ h2, zup_ne _ _ _ h1]; exact hi.1 c h1 h2
      · rw [zup_ne _ _ _ (by decide), zup_at, zup_at, zup_ne _ _ _ (by decide)]
        by_cases e : j = k
        · rw [if_pos (by omega), if_pos (by omega), e]; exact ⟨rfl, rfl⟩
        · rw [if_neg (by omega), if_neg (by omega)]; exact hi.2.1 j (by omega)
      · rw [zup_ne _ _ _ (by decide), zup_k _ _ (by omega), zup_k _ _ (by omega), zup_ne _ _ _ (by decide)]
        exact hi.2.2 j (by omega)
      · show f_M_library_130L K (w + 1) _ _ _ _ = _
        have hle : ¬ nI (320 * g + m) ≤ nI (320 * g + k) := by rw [zle_nI (by omega) (by omega)]; omega
        rw [f_M_library_130L, f_M_library_130, gp_12_16, zbs, ai_99 hg, zbs, hi.1 99 (by decide) (by decide), h99, ml320, nI_add, if_neg hle, gp_12_14, zbs, gp_12_11, zbs, ai_94 (by omega), zbs, hi.1 94 (by decide) (by decide), wi_97 (by omega), zbs, gp_12_15, zbs, gp_12_12, zbs, ai_95 (by omega), zbs, zup_ne _ _ _ (by decide), hi.1 95 (by decide) (by decide), wi_98 (by omega), zbs, znI_add1, Nat.add_assoc])
    (fun w I' hi => by
      show f_M_library_130L K (w + 1) _ _ _ _ = _
      rw [f_M_library_130L, f_M_library_130, gp_12_16, zbs, ai_99 hg, zbs, hi.1 99 (by decide) (by decide), h99, ml320, nI_add, if_pos (Int32.le_refl _), znI_add1]) m 0 I zfu (by omega) ⟨fun _ _ _ => rfl, fun _ h => by omega, fun _ _ => ⟨rfl, rfl⟩⟩ (zfu_lt (by omega))
  exact ⟨I2, b4, b1, b2, b3⟩
theorem m_lib107 (hB : yBm I) : ∃ I', f_M_library_107L zfu (zs I J (zPt t u i f s x)) 91 0 = f_M_library_184L zfu (zs I' J (zPt t u i f s x)) 91 0 ∧ (∀ c, c ≠ 97 → c ≠ 98 → c ≠ 99 → I' c = I c) ∧ ∀ g, g < 2 → I' 99 g = I 96 g ∧ ∀ m, m ≤ 300 → I 96 g = nI m → ∀ j, j < m → I' 97 (320 * g + j) = I 94 (320 * g + j) ∧ I' 98 (320 * g + j) = I 95 (320 * g + j) := by
  obtain ⟨I2, ⟨b1, b2⟩, b4⟩ := zfor (fun fuel I' k => f_M_library_107L fuel (zs I' J (zPt t u i f s x)) 91 (nI k)) 2 (fun k I' => (∀ c, c ≠ 97 → c ≠ 98 → c ≠ 99 → I' c = I c) ∧ ∀ g, g < k → I' 99 g = I 96 g ∧ ∀ m, m ≤ 300 → I 96 g = nI m → ∀ j, j < m → I' 97 (320 * g + j) = I 94 (320 * g + j) ∧ I' 98 (320 * g + j) = I 95 (320 * g + j)) (fun I' => f_M_library_184L zfu (zs I' J (zPt t u i f s x)) 91 0)
    (fun w k I' hk hi => by
      obtain ⟨m, hm, e96⟩ := hB k hk
      obtain ⟨I3, c1, c2, c3, c4⟩ := m_lib130 (K := f_M_library_107L w) (I := zup I' 99 k (nI m)) (J := J) (t := t) (u := u) (i := i) (f := f) (s := s) (x := x) hk hm (zup_s _ _ _ _)
      refine ⟨I3, ⟨fun c h1 h2 h3 => ?_, fun g hg => ?_⟩, ?_⟩
      · rw [c2 c h1 h2, zup_ne _ _ _ h3]; exact hi.1 c h1 h2 h3
      · rw [c2 99 (by decide) (by decide)]
        by_cases e : g = k
        · subst e
          refine ⟨by rw [zup_s, e96], fun m' hm' e' j hj => ?_⟩
          have : m' = m := by
            have h := e'.symm.trans e96
            rw [zeq_nI (by omega) (by omega)] at h
            exact h
          subst this
          have := c3 j hj
          rw [zup_ne _ _ _ (by decide), zup_ne _ _ _ (by decide), hi.1 94 (by decide) (by decide) (by decide), hi.1 95 (by decide) (by decide) (by decide)] at this
          exact this
        · rw [zup_k _ _ e]
          refine ⟨(hi.2 g (by omega)).1, fun m' hm' e' j hj => ?_⟩
          have := c4 (320 * g + j) (by omega)
          rw [this.1, this.2, zup_ne _ _ _ (by decide), zup_ne _ _ _ (by decide)]
          exact (hi.2 g (by omega)).2 m' hm' e' j hj
      · show f_M_library_107L (w + 1) _ _ _ = _
        have hle : ¬ (2 : Int32) ≤ nI k := by rw [show (2 : Int32) = nI 2 from rfl, zle_nI (by decide) (by omega)]; omega
        rw [f_M_library_107L, f_M_library_107, if_neg hle, gp_12_16, zbs, gp_12_13, zbs, ai_96 hk, zbs, hi.1 96 (by decide) (by decide) (by decide), e96, wi_99 hk, zbs, ml320, c1])
    (fun w I' hi => by
      show f_M_library_107L (w + 1) _ _ _ = _
      rw [f_M_library_107L, f_M_library_107, if_pos (by decide)]) 2 0 I zfu rfl ⟨fun _ _ _ _ => rfl, fun _ h => by omega⟩ (zfu_lt (by decide))
  exact ⟨I2, b4, b1, b2⟩
end ZLm
