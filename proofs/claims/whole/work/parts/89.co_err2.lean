/-! errand: the class -/
theorem z2inj {a b : Nat} (h : 2 ^ a = 2 ^ b) : a = b := by
  rcases Nat.lt_trichotomy a b with h1 | h1 | h1
  · have := Nat.pow_lt_pow_right (show 1 < 2 by decide) h1
    omega
  · exact h1
  · have := Nat.pow_lt_pow_right (show 1 < 2 by decide) h1
    omega
theorem z2lt {b : Nat} (h : b < 10) : 2 ^ b < 1024 := Nat.pow_lt_pow_right (show 1 < 2 by decide) h
def zEx : Nat → Nat → Bool := fun a k => zXls a k || a == 65 || a == 66
theorem zEx_row {I I' : Nat → Nat → Int32} (h : zfr zEx I I') (a : Nat) (h1 : a ≠ 47) (h2 : a ≠ 49) (h3 : a ≠ 50) (h4 : a ≠ 65) (h5 : a ≠ 66) : I' a = I a := zfr_row h a (fun k => by simp [zEx, zXls, h1, h2, h3, h4, h5])
section ZE2
variable {I : Nat → Nat → Int32} {J : Nat → Nat → Int64} {t u i f s x : Nat} {nt nb nr q sh md om im : Nat} {LW BW : List Int32}
theorem zSh_ex {I1 I' : Nat → Nat → Int32} {hm : Nat} (ht : t = 2 ∨ t = 13) (h : zSh I1 t nb nr q hm) (hf : zfr zEx I1 I') : zSh I' t nb nr q hm := by
  unfold zSh
  rw [zEx_row hf t (by omega) (by omega) (by omega) (by omega) (by omega), hf 47 1 rfl]
  exact h
theorem zKx_ex {I1 I' : Nat → Nat → Int32} (hf : zfr zEx I1 I') : zKx I' = zKx I1 := by
  unfold zKx
  rw [zEx_row hf 48 (by omega) (by omega) (by omega) (by omega) (by omega)]
/-- the steps to a book, by a party -/
def zPs (I : Nat → Nat → Int32) (nt nb nr q om sh : Nat) (LW : List Int32) (set b : Nat) : Nat := zst sh (zps (zL I nt nb nr q om LW set) b)
theorem zPs_lt (hnb : nb ≤ 10) {b : Nat} (hb : b < nb) (hob : om.testBit b = false) (set : Nat) : zPs I nt nb nr q om sh LW set b < 100 := zst_lt (zpos_10 hnb hb hob set)
theorem x_walk15 {I2 : Nat → Nat → Int32} {set A : Nat} (ht : t = 2 ∨ t = 13) (hnb : nb ≤ 10) (hsh : 1 ≤ sh ∧ sh ≤ 9) (h4 : I2 t 4 = nI sh) (h0 : I2 65 0 = 0) (hL : zLx I2 (zL I nt nb nr q om LW set)) : ∃ I', f_E_walkWith_15L zfu (zs I2 J (zPt t u i f t x)) 64 47 t (nI A) 0 = f_E_walkWith_60L zfu (zs I' J (zPt t u i f t x)) 64 (nI A) 1 ∧ (∀ a, a ≠ 65 → I' a = I2 a) ∧ I' 65 0 = 0 ∧ ∀ b, b < nb → om.testBit b = false → I' 65 (2 ^ b) = nI (zPs I nt nb nr q om sh LW set b) := by
  have hlen := zL_len (I := I) (nt := nt) (nr := nr) (q := q) (om := om) (LW := LW) hnb set
  obtain ⟨hnd, -, hmem⟩ := zL_Od (I := I) (nt := nt) (nr := nr) (q := q) (om := om) (LW := LW) hnb set
  have hin : ∀ {k b : Nat}, (zL I nt nb nr q om LW set)[k]? = some b → b < nb := fun h => ((hmem _).mp (List.mem_of_getElem? h)).1
  obtain ⟨I3, ⟨a1, a2, a3⟩, a4⟩ := zfor (fun fuel I' k => f_E_walkWith_15L fuel (zs I' J (zPt t u i f t x)) 64 47 t (nI A) (nI k)) 10 (fun k I' => (∀ a, a ≠ 65 → I' a = I2 a) ∧ I' 65 0 = 0 ∧ ∀ j b, j < k → (zL I nt nb nr q om LW set)[j]? = some b → I' 65 (2 ^ b) = nI (zst sh j)) (fun I' => f_E_walkWith_60L zfu (zs I' J (zPt t u i f t x)) 64 (nI A) 1)
    (fun m k I' hk hi => by
      have hL' : zLx I' (zL I nt nb nr q om LW set) := by
        unfold zLx
        rw [hi.1 47 (by decide), hi.1 50 (by decide)]
        exact hL
      have e := g_S_laidAt (J := J) (t := t) (u := u) (i := i) (f := f) (s := t) (x := x) hL' hlen (nI k)
      have hn : ¬ nI k < 0 := by rw [show (0 : Int32) = nI 0 from rfl, zlt_nI (by omega) (by decide)]; omega
      rw [if_neg hn, nI_clamp (by omega)] at e
      have hle : ¬ (10 : Int32) ≤ nI k := by rw [show (10 : Int32) = nI 10 from rfl, zle_nI (by decide) (by omega)]; omega
      cases hk2 : (zL I nt nb nr q om LW set)[k]? with
      | none =>
        rw [hk2] at e
        refine ⟨I', ⟨hi.1, hi.2.1, fun j b hj hb => ?_⟩, ?_⟩
        · by_cases ej : j = k
          · rw [ej, hk2] at hb; cases hb
          · exact hi.2.2 j b (by omega) hb
        · show f_E_walkWith_15L (m + 1) _ _ _ _ _ _ = _
          rw [f_E_walkWith_15L, f_E_walkWith_15, if_neg hle, e, zbs, if_pos rfl, znI_add1]
      | some b =>
        rw [hk2] at e
        have hb10 : b < 10 := by have := hin hk2; omega
        have hst := g_D_stepsTo (I := I') (J := J) (t := t) (u := u) (i := i) (f := f) (s := t) (x := x) (p := k) ht (by rw [hi.1 t (by omega)]; exact h4) hsh.1 hsh.2 (by omega)
        have h2 := z2lt hb10
        refine ⟨zup I' 65 (2 ^ b) (nI (zst sh k)), ⟨fun a ha => ?_, ?_, fun j b' hj hb => ?_⟩, ?_⟩
        · rw [zup_ne _ _ _ ha]; exact hi.1 a ha
        · rw [zup_k _ _ (by have := Nat.two_pow_pos b; omega)]; exact hi.2.1
        · rw [zup_at]
          by_cases ej : j = k
          · rw [ej, hk2] at hb
            cases hb
            rw [if_pos rfl, ej]
          · rw [if_neg]
            · exact hi.2.2 j b' (by omega) hb
            · intro e2
              have e3 := z2inj e2
              subst e3
              have := zps_at hnd hb
              rw [zps_at hnd hk2] at this
              exact ej this.symm
        · show f_E_walkWith_15L (m + 1) _ _ _ _ _ _ = _
          have hne : ¬ nI b = -1 := znI_ne_m1 (by omega)
          have hst : f_D_stepsTo (zs I' J (zPt t u i f t x)) t (nI k) = some (nI (zst sh k)) := hst
          have e : f_S_laidAt (zs I' J (zPt t u i f t x)) 47 (nI k) = some (nI b) := e
          rw [f_E_walkWith_15L, f_E_walkWith_15, if_neg hle, e, zbs, if_neg hne, gp_1_0, zbs, hst, zbs, zshl1 b (by omega), wi_65 h2, zbs, znI_add1])
    (fun m I' hi => by
      show f_E_walkWith_15L (m + 1) _ _ _ _ _ _ = _
      rw [f_E_walkWith_15L, f_E_walkWith_15, if_pos (by decide)]) 10 0 I2 zfu rfl ⟨fun _ _ => rfl, h0, fun _ _ h => by omega⟩ (zfu_lt (by decide))
  refine ⟨I3, a4, a1, a2, fun b hb hob => ?_⟩
  obtain ⟨k, hk⟩ := zL_has (I := I) (nt := nt) (nr := nr) (q := q) (LW := LW) hnb hb hob set
  have h1 := zpos_lt hnb hk
  rw [a3 k b h1.2 hk]
  unfold zPs
  rw [h1.1]
theorem x_walk60 {I3 : Nat → Nat → Int32} {A : Nat} {c p : Nat → Nat} (hA : A < 1024) (hp : ∀ b, A.testBit b = true → p b < 100) (h0 : I3 65 0 = 0) (h1 : ∀ b, A.testBit b = true → I3 65 (2 ^ b) = nI (p b)) (hc : ∀ S, S &&& A = S → I3 66 S = nI (c S) ∧ c S ≤ 1000000) : ∃ I', f_E_walkWith_60L zfu (zs I3 J (zPt t u i f s x)) 64 (nI A) 1 = some (zs I' J (zPt t u i f s x)) ∧ (∀ a, a ≠ 65 → a ≠ 66 → I' a = I3 a) ∧ ∀ S, S &&& A = S → I' 66 S = nI (if S = 0 then c 0 else min (c S) (zfar p S 10)) := by
  have hbA : ∀ {S j : Nat}, S &&& A = S → S.testBit j = true → A.testBit j = true := fun {S j} h ht => by
    have : (S &&& A).testBit j = true := by rw [h]; exact ht
    rw [Nat.testBit_and] at this
    simp at this
    exact this.2
  have hlt : ∀ S, S &&& A = S → zfar p S 10 < 100 := fun S hS => zfar_lt (fun b _ ht => hp b (hbA hS ht))
  obtain ⟨I4, ⟨a1, -, -, -, a2⟩, a4⟩ := zfor (fun fuel I' k => f_E_walkWith_60L fuel (zs I' J (zPt t u i f s x)) 64 (nI A) (nI (k + 1))) A (fun k I' => (∀ a, a ≠ 65 → a ≠ 66 → I' a = I3 a) ∧ I' 65 0 = 0 ∧ (∀ b, A.testBit b = true → I' 65 (2 ^ b) = nI (p b)) ∧ (∀ S, S ≤ k → S &&& A = S → I' 65 S = nI (zfar p S 10)) ∧ ∀ S, S &&& A = S → I' 66 S = nI (if S = 0 ∨ k < S then c S else min (c S) (zfar p S 10))) (fun I' => some (zs I' J (zPt t u i f s x)))
    (fun m k I' hk hi => by
      obtain ⟨i1, i2, i3, i4, i5⟩ := hi
      have hn : ¬ nI A < nI (k + 1) := by rw [zlt_nI (by omega) (by omega)]; omega
      have hz := zinb (S := k + 1) (A := A) (by omega) hA
      by_cases hs : (k + 1) &&& A = k + 1
      · obtain ⟨j1, j2, j3, j4, j5⟩ := zlow_ok (k + 1) (by omega) (by omega)
        generalize hj : zlow (k + 1) = j at *
        have hx : ((k + 1) ^^^ 2 ^ j) &&& A = (k + 1) ^^^ 2 ^ j := by
          apply Nat.eq_of_testBit_eq
          intro b
          rw [Nat.testBit_and]
          cases hb : ((k + 1) ^^^ 2 ^ j).testBit b
          · rfl
          · rw [Nat.testBit_xor, Nat.testBit_two_pow] at hb
            by_cases e : j = b
            · rw [← e]
              rw [hbA hs j2]
              rfl
            · simp [e] at hb
              rw [hbA hs hb]
              rfl
        have hpos := Nat.two_pow_pos j
        have hjA := hbA hs j2
        have e1 : I' 65 (2 ^ j) = nI (p j) := i3 j hjA
        have e2 : I' 65 (k + 1 - 2 ^ j) = nI (zfar p ((k + 1) ^^^ 2 ^ j) 10) := by rw [j4]; exact i4 _ (by omega) hx
        have e3 : zmax (nI (p j)) (nI (zfar p ((k + 1) ^^^ 2 ^ j) 10)) = nI (zfar p (k + 1) 10) := by
          have := hp j hjA
          have := hlt _ hx
          rw [zmax_nI (by omega) (by omega), zfar_low j1 j2]
        have hw := hlt (k + 1) hs
        have e4 : I' 66 (k + 1) = nI (c (k + 1)) := by rw [i5 _ hs, if_pos (Or.inr (by omega))]
        have hcb := (hc _ hs).2
        have e5 : zmin (nI (c (k + 1))) (nI (zfar p (k + 1) 10)) = nI (min (c (k + 1)) (zfar p (k + 1) 10)) := zmin_nI (by omega) (by omega)
        have z1 : zup I' 65 (k + 1) (nI (zfar p (k + 1) 10)) 66 (k + 1) = nI (c (k + 1)) := by rw [zup_ne _ _ _ (by decide)]; exact e4
        have z2 : zup I' 65 (k + 1) (nI (zfar p (k + 1) 10)) 65 (k + 1) = nI (zfar p (k + 1) 10) := zup_s _ _ _ _
        refine ⟨zup (zup I' 65 (k + 1) (nI (zfar p (k + 1) 10))) 66 (k + 1) (nI (min (c (k + 1)) (zfar p (k + 1) 10))), ⟨fun a q1 q2 => ?_, ?_, fun b hb => ?_, fun S q1 q2 => ?_, fun S q1 => ?_⟩, ?_⟩
        · rw [zup_ne _ _ _ q2, zup_ne _ _ _ q1]; exact i1 a q1 q2
        · rw [zup_ne _ _ _ (by decide), zup_k _ _ (by omega)]; exact i2
        · rw [zup_ne _ _ _ (by decide), zup_at]
          have hb10 : b < 10 := by
            by_cases h10 : b < 10
            · exact h10
            · rw [ztb_10 hA (by omega)] at hb; cases hb
          by_cases e : 2 ^ b = k + 1
          · rw [if_pos e, ← e, zfar_one hb10]
          · rw [if_neg e]; exact i3 b hb
        · rw [zup_ne _ _ _ (by decide), zup_at]
          by_cases e : S = k + 1
          · rw [if_pos e, e]
          · rw [if_neg e]; exact i4 S (by omega) q2
        · rw [zup_at]
          by_cases e : S = k + 1
          · rw [if_pos e, if_neg (by omega), e]
          · rw [if_neg e, zup_ne _ _ _ (by decide), i5 S q1]
            by_cases h2 : S = 0 ∨ k < S
            · rw [if_pos h2, if_pos (by omega)]
            · rw [if_neg h2, if_neg (by omega)]
        · show f_E_walkWith_60L (m + 1) _ _ _ _ = _
          rw [f_E_walkWith_60L, f_E_walkWith_60, if_neg hn, if_pos (by rw [hz]; exact hs), gp_1_0, zbs, zbs, j3, ai_65 (by omega), zbs, e1, zbs, pk_sub j5, ai_65 (by omega), zbs, e2, e3, wi_65 (by omega), zbs, gp_1_1, zbs, zbs, ai_66 (by omega), zbs, z1, gp_1_0, zbs, ai_65 (by omega), zbs, z2, e5, wi_66 (by omega), zbs, znI_add1]
      · refine ⟨I', ⟨i1, i2, i3, fun S q1 q2 => ?_, fun S q1 => ?_⟩, ?_⟩
        · by_cases e : S = k + 1
          · rw [e] at q2; exact absurd q2 hs
          · exact i4 S (by omega) q2
        · rw [i5 S q1]
          have : S ≠ k + 1 := fun e => hs (by rw [← e]; exact q1)
          by_cases h2 : S = 0 ∨ k < S
          · rw [if_pos h2, if_pos (by omega)]
          · rw [if_neg h2, if_neg (by omega)]
        · show f_E_walkWith_60L (m + 1) _ _ _ _ = _
          rw [f_E_walkWith_60L, f_E_walkWith_60, if_neg hn, if_neg (by rw [hz]; exact hs), znI_add1])
    (fun m I' hi => by
      show f_E_walkWith_60L (m + 1) _ _ _ _ = _
      rw [f_E_walkWith_60L, f_E_walkWith_60, if_pos (by rw [zlt_nI (by omega) (by omega)]; omega)]) A 0 I3 zfu (by omega) ⟨fun _ _ _ => rfl, h0, h1, fun S q1 q2 => by rw [show S = 0 by omega, h0, zfar_0]; rfl, fun S q1 => by rw [(hc S q1).1, if_pos (by omega)]⟩ (zfu_lt (by omega))
  have a4 : f_E_walkWith_60L zfu (zs I3 J (zPt t u i f s x)) 64 (nI A) 1 = some (zs I4 J (zPt t u i f s x)) := a4
  refine ⟨I4, a4, a1, fun S hS => ?_⟩
  have hle : S ≤ A := by rw [← hS]; exact Nat.and_le_right
  rw [a2 S hS]
  by_cases e : S = 0
  · rw [if_pos (Or.inl e), if_pos e, e]
  · rw [if_neg (by omega), if_neg e]
end ZE2
