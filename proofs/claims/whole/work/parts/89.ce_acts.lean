/-! acts: one more, in the class's ring and in the reference's rows -/
theorem yfm40 : ∀ k, k < 80 → zfmod (nI k) 40 = some (nI (k % 40)) ∧ zrem (nI k) 40 = nI (k % 40) := by decide +kernel
def zd1 (d : Nat) : Nat := if d = 40 then 40 else d + 1
def zo1 (d o : Nat) : Nat := if d = 40 then (o + 1) % 40 else o
def zslt (d o : Nat) : Nat := (zo1 d o + (zd1 d - 1)) % 40
def zSa (t a k : Nat) : Bool := decide ((30 ≤ a ∧ a ≤ 34) ∨ (41 ≤ a ∧ a ≤ 46) ∨ a = 101 ∨ a = 102 ∨ a = 111 ∨ a = 116 ∨ a = t + 10 ∨ (76 ≤ a ∧ a ≤ 90) ∨ a = 132 ∨ a = 133 ∨ (a = 91 ∧ (k = 56 ∨ k = 57)))
theorem zSa_n {t a k : Nat} (h : zSa t a k = false) : ¬ ((30 ≤ a ∧ a ≤ 34) ∨ (41 ≤ a ∧ a ≤ 46) ∨ a = 101 ∨ a = 102 ∨ a = 111 ∨ a = 116 ∨ a = t + 10 ∨ (76 ≤ a ∧ a ≤ 90) ∨ a = 132 ∨ a = 133 ∨ (a = 91 ∧ (k = 56 ∨ k = 57))) := of_decide_eq_false h
section ZAa
variable {I : Nat → Nat → Int32} {J : Nat → Nat → Int64} {t u i f s x : Nat} {nt nb nr q sh md om im : Nat} {LW BW : List Int32}
theorem g_A_slotOf {o k : Nat} (h : I 41 2 = nI o) (hk : o + k < 80) : f_A_slotOf (zs I J (zPt t u i f s x)) 41 (nI k) = some (nI ((o + k) % 40)) := by
  rw [f_A_slotOf, zg_0, gi_0, zbs, h, nI_add, (yfm40 _ hk).1, zbs]
theorem x_add {d o : Nat} {p0 p1 p2 p3 : Int32} (hd : d ≤ 40) (ho : o < 40) (h0 : I 41 0 = nI d) (h2 : I 41 2 = nI o) : ∃ I', f_A_add (zs I J (zPt t u i f s x)) 41 p0 p1 p2 p3 = some (zs I' J (zPt t u i f s x)) ∧ (∀ a, (a < 41 ∨ 45 < a) → I' a = I a) ∧ (I' 41 0 = nI (zd1 d) ∧ I' 41 1 = 0 ∧ I' 41 2 = nI (zo1 d o)) ∧ (I' 42 = va_up (I 42) (zslt d o) p0 ∧ I' 43 = va_up (I 43) (zslt d o) p1 ∧ I' 44 = va_up (I 44) (zslt d o) p2 ∧ I' 45 = va_up (I 45) (zslt d o) p3) := by
  have h40 : ∀ (I1 : Nat → Nat → Int32) (e o1 : Nat), e < 40 → o1 < 40 → I1 41 0 = nI (e + 1) → I1 41 2 = nI o1 → f_A_add_40 (zs I1 J (zPt t u i f s x)) 41 p0 p1 p2 p3 = some (zs (zup (zup (zup (zup I1 42 ((o1 + e) % 40) p0) 43 ((o1 + e) % 40) p1) 44 ((o1 + e) % 40) p2) 45 ((o1 + e) % 40) p3) J (zPt t u i f s x)) := by
    intro I1 e o1 he ho1 e0 e2
    have hm : (o1 + e) % 40 < 40 := Nat.mod_lt _ (by decide)
    rw [f_A_add_40, gi_0, zbs, e0, znI_sub1, g_A_slotOf e2 (by omega), zbs, gp_0_3, zbs, wi_42 hm, zbs, gp_0_4, zbs, wi_43 hm, zbs, gp_0_5, zbs, wi_44 hm, zbs, gp_0_6, zbs, wi_45 hm, zbs]
  have k0 : zup I 41 1 0 41 0 = nI d := by rw [zup_k _ _ (by decide)]; exact h0
  have k2 : zup I 41 1 0 41 2 = nI o := by rw [zup_k _ _ (by decide)]; exact h2
  have hge : (40 ≤ nI d) = (40 ≤ d) := zle_nI (a := 40) (by decide) (by omega)
  unfold zslt zd1 zo1
  by_cases h : d = 40
  · simp only [if_pos h]
    have E : f_A_add (zs I J (zPt t u i f s x)) 41 p0 p1 p2 p3 = some (zs (zup (zup (zup (zup (zup (zup I 41 1 0) 41 2 (nI ((o + 1) % 40))) 42 (((o + 1) % 40 + (40 - 1)) % 40) p0) 43 (((o + 1) % 40 + (40 - 1)) % 40) p1) 44 (((o + 1) % 40 + (40 - 1)) % 40) p2) 45 (((o + 1) % 40 + (40 - 1)) % 40) p3) J (zPt t u i f s x)) := by
      rw [f_A_add, zg_0, si_0, zbs, gi_0, zbs, k0, if_pos (by rw [hge]; omega), gi_0, zbs, k2, znI_add1, (yfm40 _ (by omega)).2, si_0, zbs]
      exact h40 (zup (zup I 41 1 0) 41 2 (nI ((o + 1) % 40))) 39 ((o + 1) % 40) (by decide) (Nat.mod_lt _ (by decide)) (by rw [zup_k _ _ (by decide), k0, h]) (zup_s _ _ _ _)
    refine ⟨_, E, fun a ha => ?_, ⟨?_, ?_, ?_⟩, ?_, ?_, ?_, ?_⟩
    · rw [zup_ne _ _ _ (by omega), zup_ne _ _ _ (by omega), zup_ne _ _ _ (by omega), zup_ne _ _ _ (by omega), zup_ne _ _ _ (by omega), zup_ne _ _ _ (by omega)]
    · rw [zup_ne _ _ _ (by decide), zup_ne _ _ _ (by decide), zup_ne _ _ _ (by decide), zup_ne _ _ _ (by decide), zup_k _ _ (by decide), k0, h]
    · rw [zup_ne _ _ _ (by decide), zup_ne _ _ _ (by decide), zup_ne _ _ _ (by decide), zup_ne _ _ _ (by decide), zup_k _ _ (by decide), zup_s]
    · rw [zup_ne _ _ _ (by decide), zup_ne _ _ _ (by decide), zup_ne _ _ _ (by decide), zup_ne _ _ _ (by decide), zup_s]
    · rw [zup_ne _ _ _ (by decide), zup_ne _ _ _ (by decide), zup_ne _ _ _ (by decide), zup_self, zup_ne _ _ _ (by decide), zup_ne _ _ _ (by decide)]
    · rw [zup_ne _ _ _ (by decide), zup_ne _ _ _ (by decide), zup_self, zup_ne _ _ _ (by decide), zup_ne _ _ _ (by decide), zup_ne _ _ _ (by decide)]
    · rw [zup_ne _ _ _ (by decide), zup_self, zup_ne _ _ _ (by decide), zup_ne _ _ _ (by decide), zup_ne _ _ _ (by decide), zup_ne _ _ _ (by decide)]
    · rw [zup_self, zup_ne _ _ _ (by decide), zup_ne _ _ _ (by decide), zup_ne _ _ _ (by decide), zup_ne _ _ _ (by decide), zup_ne _ _ _ (by decide)]
  · simp only [if_neg h]
    rw [show d + 1 - 1 = d by omega]
    have E : f_A_add (zs I J (zPt t u i f s x)) 41 p0 p1 p2 p3 = some (zs (zup (zup (zup (zup (zup (zup I 41 1 0) 41 0 (nI (d + 1))) 42 ((o + d) % 40) p0) 43 ((o + d) % 40) p1) 44 ((o + d) % 40) p2) 45 ((o + d) % 40) p3) J (zPt t u i f s x)) := by
      rw [f_A_add, zg_0, si_0, zbs, gi_0, zbs, k0, if_neg (by rw [hge]; omega), zbs, znI_add1, si_0, zbs]
      exact h40 (zup (zup I 41 1 0) 41 0 (nI (d + 1))) d o (by omega) ho (zup_s _ _ _ _) (by rw [zup_k _ _ (by decide)]; exact k2)
    refine ⟨_, E, fun a ha => ?_, ⟨?_, ?_, ?_⟩, ?_, ?_, ?_, ?_⟩
    · rw [zup_ne _ _ _ (by omega), zup_ne _ _ _ (by omega), zup_ne _ _ _ (by omega), zup_ne _ _ _ (by omega), zup_ne _ _ _ (by omega), zup_ne _ _ _ (by omega)]
    · rw [zup_ne _ _ _ (by decide), zup_ne _ _ _ (by decide), zup_ne _ _ _ (by decide), zup_ne _ _ _ (by decide), zup_s]
    · rw [zup_ne _ _ _ (by decide), zup_ne _ _ _ (by decide), zup_ne _ _ _ (by decide), zup_ne _ _ _ (by decide), zup_k _ _ (by decide), zup_s]
    · rw [zup_ne _ _ _ (by decide), zup_ne _ _ _ (by decide), zup_ne _ _ _ (by decide), zup_ne _ _ _ (by decide), zup_k _ _ (by decide)]; exact k2
    · rw [zup_ne _ _ _ (by decide), zup_ne _ _ _ (by decide), zup_ne _ _ _ (by decide), zup_self, zup_ne _ _ _ (by decide), zup_ne _ _ _ (by decide)]
    · rw [zup_ne _ _ _ (by decide), zup_ne _ _ _ (by decide), zup_self, zup_ne _ _ _ (by decide), zup_ne _ _ _ (by decide), zup_ne _ _ _ (by decide)]
    · rw [zup_ne _ _ _ (by decide), zup_self, zup_ne _ _ _ (by decide), zup_ne _ _ _ (by decide), zup_ne _ _ _ (by decide), zup_ne _ _ _ (by decide)]
    · rw [zup_self, zup_ne _ _ _ (by decide), zup_ne _ _ _ (by decide), zup_ne _ _ _ (by decide), zup_ne _ _ _ (by decide), zup_ne _ _ _ (by decide)]
/-- the reference keeps how it was -/
theorem m_act {d : Nat} (hd : d ≤ 40) (h56 : I 91 56 = nI d) : ∃ I', f_M_act (zs I J (zPt t u i f s x)) 91 = some (zs I' J (zPt t u i f s x)) ∧ zfr (fun a k => a == 116 || (a == 91 && (k == 56 || k == 57))) I I' ∧ (I' 91 56 = nI (zd1 d) ∧ I' 91 57 = 0) ∧ (∀ k, k < 92 → I' 116 (96 * (zd1 d - 1) + k) = I 111 k) ∧ (∀ j, j < zd1 d - 1 → ∀ k, k < 92 → I' 116 (96 * j + k) = I 116 (96 * (j + (if d = 40 then 1 else 0)) + k)) := by
  have h51 : ∀ (I1 : Nat → Nat → Int32) (e : Nat), e < 40 → I1 91 56 = nI e → ∃ I', f_M_act_51L zfu (zs I1 J (zPt t u i f s x)) 91 0 = some (zs I' J (zPt t u i f s x)) ∧ zfr (fun a k => a == 116 || (a == 91 && (k == 56 || k == 57))) I1 I' ∧ (I' 91 56 = nI (e + 1) ∧ I' 91 57 = 0) ∧ (∀ k, k < 92 → I' 116 (96 * e + k) = I1 111 k) ∧ (∀ k, k < 96 * e → I' 116 k = I1 116 k) := by
    intro I1 e he e56
    obtain ⟨I2, ⟨a1, a2, a3⟩, a4⟩ := zfor (fun fuel I' k => f_M_act_51L fuel (zs I' J (zPt t u i f s x)) 91 (nI k)) 92 (fun k I' => zfr (fun a k => a == 116) I1 I' ∧ (∀ j, j < k → I' 116 (96 * e + j) = I1 111 j) ∧ ∀ j, j < 96 * e → I' 116 j = I1 116 j) (fun I' => f_M_act_83 (zs I' J (zPt t u i f s x)) 91)
      (fun m k I' hk hi => by
        have r91 : I' 91 = I1 91 := zfr_row hi.1 91 (fun _ => rfl)
        have r111 : I' 111 = I1 111 := zfr_row hi.1 111 (fun _ => rfl)
        refine ⟨zup I' 116 (96 * e + k) (I1 111 k), ⟨zfr_up hi.1 rfl, fun j hj => ?_, fun j hj => ?_⟩, ?_⟩
        · rw [zup_at]
          by_cases ej : 96 * e + j = 96 * e + k
          · rw [if_pos ej, show j = k by omega]
          · rw [if_neg ej]; exact hi.2.1 j (by omega)
        · rw [zup_k _ _ (by omega)]; exact hi.2.2 j hj
        · show f_M_act_51L (m + 1) _ _ _ = _
          have hle : ¬ (92 : Int32) ≤ nI k := by rw [ge92 (by omega)]; omega
          rw [f_M_act_51L, f_M_act_51, if_neg hle, gp_12_55, zbs, gi_12, zbs, r91, e56, gp_12_49, zbs, ai_111 (by omega), zbs, r111, ml96, nI_add, wi_116 (by omega), zbs, znI_add1])
      (fun m I' hi => by
        show f_M_act_51L (m + 1) _ _ _ = _
        rw [f_M_act_51L, f_M_act_51, if_pos (by decide)]) 92 0 I1 zfu rfl ⟨zfr_refl _ _, fun j hj => by omega, fun _ _ => rfl⟩ (zfu_lt (by decide))
    have r91 : I2 91 = I1 91 := zfr_row a1 91 (fun _ => rfl)
    have a4 : f_M_act_51L zfu (zs I1 J (zPt t u i f s x)) 91 0 = f_M_act_83 (zs I2 J (zPt t u i f s x)) 91 := a4
    refine ⟨zup (zup I2 91 56 (nI (e + 1))) 91 57 0, ?_, zfr_up (zfr_up (zfr_mono a1 (fun a k h => by simp only [h, Bool.true_or])) rfl) rfl, ⟨?_, zup_s _ _ _ _⟩, fun k hk => ?_, fun k hk => ?_⟩
    · rw [a4, f_M_act_83, gi_12, zbs, r91, e56, znI_add1, si_12, zbs, si_12, zbs]
    · rw [zup_k _ _ (by decide), zup_s]
    · rw [zup_ne _ _ _ (by decide), zup_ne _ _ _ (by decide)]; exact a2 k hk
    · rw [zup_ne _ _ _ (by decide), zup_ne _ _ _ (by decide)]; exact a3 k hk
  unfold zd1
  by_cases h : d = 40
  · simp only [if_pos h]
    obtain ⟨I2, ⟨a1, a2, a3⟩, a4⟩ := zfor (fun fuel I' k => f_M_act_11L fuel (zs I' J (zPt t u i f s x)) 91 (nI k)) 3744 (fun k I' => zfr (fun a k => a == 116) I I' ∧ (∀ j, j < k → I' 116 j = I 116 (96 + j)) ∧ ∀ j, k ≤ j → I' 116 j = I 116 j) (fun I' => f_M_act_39 (zs I' J (zPt t u i f s x)) 91)
      (fun m k I' hk hi => by
        refine ⟨zup I' 116 k (I 116 (96 + k)), ⟨zfr_up hi.1 rfl, fun j hj => ?_, fun j hj => ?_⟩, ?_⟩
        · rw [zup_at]
          by_cases ej : j = k
          · rw [if_pos ej, ej]
          · rw [if_neg ej]; exact hi.2.1 j (by omega)
        · rw [zup_k _ _ (by omega)]; exact hi.2.2 j (by omega)
        · show f_M_act_11L (m + 1) _ _ _ = _
          have hle : ¬ (3744 : Int32) ≤ nI k := by rw [show (3744 : Int32) = nI 3744 from rfl, zle_nI (by decide) (by omega)]; omega
          rw [f_M_act_11L, f_M_act_11, if_neg hle, gp_12_55, zbs, zbs, show (96 : Int32) = nI 96 from rfl, nI_add, ai_116 (by omega), zbs, hi.2.2 (96 + k) (by omega), wi_116 (by omega), zbs, znI_add1])
      (fun m I' hi => by
        show f_M_act_11L (m + 1) _ _ _ = _
        rw [f_M_act_11L, f_M_act_11, if_pos (by decide)]) 3744 0 I zfu rfl ⟨zfr_refl _ _, fun j hj => by omega, fun _ _ => rfl⟩ (zfu_lt (by decide))
    have r91 : I2 91 = I 91 := zfr_row a1 91 (fun _ => rfl)
    have a4 : f_M_act_11L zfu (zs I J (zPt t u i f s x)) 91 0 = f_M_act_39 (zs I2 J (zPt t u i f s x)) 91 := a4
    obtain ⟨I3, b1, b2, b3, b4, b5⟩ := h51 (zup I2 91 56 (nI 39)) 39 (by decide) (zup_s _ _ _ _)
    refine ⟨I3, ?_, zfr_trans (zfr_up (zfr_mono a1 (fun a k h => by simp only [h, Bool.true_or])) rfl) b2, b3, fun k hk => ?_, fun j hj k hk => ?_⟩
    · have h39 : nI d - 1 = nI 39 := by rw [h]; rfl
      rw [f_M_act, zg_12, gi_12, zbs, h56, if_pos (by rw [h]; rfl), a4, f_M_act_39, gi_12, zbs, r91, h56, h39, si_12, zbs, b1]
    · rw [show 40 - 1 = 39 from rfl, b4 k hk, zup_ne _ _ _ (by decide), zfr_row a1 111 (fun _ => rfl)]
    · rw [b5 _ (by omega), zup_ne _ _ _ (by decide), a2 _ (by omega), show 96 + (96 * j + k) = 96 * (j + 1) + k by omega]
  · simp only [if_neg h]
    obtain ⟨I3, b1, b2, b3, b4, b5⟩ := h51 I d (by omega) h56
    rw [show d + 1 - 1 = d by omega]
    refine ⟨I3, ?_, b2, b3, b4, fun j hj k hk => ?_⟩
    · rw [f_M_act, zg_12, gi_12, zbs, h56, if_neg (by rw [show (40 : Int32) = nI 40 from rfl, zeq_nI (by omega) (by decide)]; exact h), b1]
    · rw [b5 _ (by omega), Nat.add_zero]
theorem zDs_at {I' : Nat → Nat → Int32} {sl : Nat} {a b : Nat → Int32} (h : zDs I sl nt nb nr BW a b) (h2 : I' 42 sl = I 42 sl) (h3 : I' 43 sl = I 43 sl) (h4 : I' 44 sl = I 44 sl) (h5 : I' 45 sl = I 45 sl) (h6 : ∀ k, k < 4 → I' 46 (4 * sl + k) = I 46 (4 * sl + k)) (h7 : I' 107 = I 107) : zDs I' sl nt nb nr BW a b := by
  unfold zDs
  rw [h2, h3, h4, h5, h7]
  rcases h with h | h | h | ⟨g1, r, c, g2, g3, g4, g5, g6, g7⟩
  · exact Or.inl h
  · exact Or.inr (Or.inl h)
  · exact Or.inr (Or.inr (Or.inl h))
  · exact Or.inr (Or.inr (Or.inr ⟨g1, r, c, g2, g3, g4, g5, fun k hk => by rw [h6 k hk]; exact g6 k hk, g7⟩))
theorem zDs_as {sl : Nat} {a b a' b' : Nat → Int32} (hnt : nt ≤ 4) (hnr : nr ≤ 6) (hnb : nb ≤ 10) (h : zDs I sl nt nb nr BW a b) (ha : zAs a' a) (hb : zAs b' b) : zDs I sl nt nb nr BW a' b' := by
  have up : ∀ (k : Nat) (v v' : Int32), v' = v → zAs b (va_up a k v) → zAs b' (va_up a' k v') := fun k v v' hv hu j hj => by
    rw [hb j hj, hu j hj, hv]
    unfold va_up
    split
    · rfl
    · exact (ha j hj).symm
  rcases h with ⟨g1, r, g2, g3, g4⟩ | ⟨g1, r, g2, g3, g4, g5⟩ | ⟨g1, r, g2, g3, g4⟩ | ⟨g1, r, c, g2, g3, g4, g5, g6, g7⟩
  · exact Or.inl ⟨g1, r, g2, g3, up _ _ _ (by rw [ha 30 (by decide)]) g4⟩
  · exact Or.inr (Or.inl ⟨g1, r, g2, g3, g4.trans (ha _ (by omega)).symm, up _ _ _ rfl g5⟩)
  · exact Or.inr (Or.inr (Or.inl ⟨g1, r, g2, g3, up _ _ _ (by rw [ha 31 (by decide)]) g4⟩))
  · refine Or.inr (Or.inr (Or.inr ⟨g1, r, c, g2, g3, g4, g5, fun k hk => by rw [g6 k hk, ha _ (by omega)], fun j hj => ?_⟩))
    rw [hb j hj, g7 j hj]
    unfold zread
    rw [ha j hj, ha (32 + 10 * r + c) (by omega)]
/-- one act more -/
theorem zAc_new {I2 : Nat → Nat → Int32} {d w o : Nat} {Q : Nat → Nat → Int32} (hnt : nt ≤ 4) (hnr : nr ≤ 6) (hnb : nb ≤ 10) (h : zAc2 I nt nb nr BW d w o Q)
    (c : I2 41 0 = nI (zd1 d) ∧ I2 41 1 = 0 ∧ I2 41 2 = nI (zo1 d o) ∧ I2 91 56 = nI (zd1 d) ∧ I2 91 57 = 0)
    (hs : ∀ k, k ≠ zslt d o → I2 42 k = I 42 k ∧ I2 43 k = I 43 k ∧ I2 44 k = I 44 k ∧ I2 45 k = I 45 k) (h46 : ∀ k, (k < 4 * zslt d o ∨ 4 * zslt d o + 3 < k) → I2 46 k = I 46 k) (h107 : I2 107 = I 107)
    (w1 : ∀ k, k < 92 → I2 116 (96 * (zd1 d - 1) + k) = I 111 k) (w2 : ∀ j, j < zd1 d - 1 → ∀ k, k < 92 → I2 116 (96 * j + k) = I 116 (96 * (j + (if d = 40 then 1 else 0)) + k))
    (hrow : zRow (I2 111) nt nb nr) (hds : zDs I2 (zslt d o) nt nb nr BW (I 111) (I2 111)) : zAc I2 nt nb nr BW := by
  obtain ⟨⟨g1, g1'⟩, g2, g3, g4, g5, g6, g7⟩ := h
  have hd1 : 1 ≤ zd1 d ∧ zd1 d ≤ 40 := by unfold zd1; split <;> omega
  have ho1 : zo1 d o < 40 := by
    unfold zo1
    split
    · exact Nat.mod_lt _ (by decide)
    · exact g1'
  -- the states, old and new
  refine ⟨zd1 d, 0, zo1 d o, fun j => if j = zd1 d then I2 111 else Q (j + (if d = 40 then 1 else 0)), ⟨by omega, ho1⟩, ⟨c.1, c.2.1, c.2.2.1, c.2.2.2.1, c.2.2.2.2⟩, fun j hj => ?_, fun k hk => ?_, fun j hj k hk => ?_, fun j h1 h2 => by omega, fun j hj => ?_⟩
  · simp only
    by_cases e : j = zd1 d
    · rw [if_pos e]; exact hrow
    · rw [if_neg e]
      refine g3 _ ?_
      unfold zd1 at e hj
      split at e <;> simp_all <;> omega
  · simp only [if_true]
  · simp only
    rw [if_neg (by omega)]
    by_cases e : j = zd1 d - 1
    · rw [e, w1 k hk, ← g4 k hk]
      congr 1
      unfold zd1
      split <;> omega
    · rw [w2 j (by omega) k hk]
      refine g5 _ ?_ k hk
      unfold zd1 at hj e
      split at hj <;> simp_all <;> omega
  · have hj' : j < zd1 d := by omega
    simp only
    rw [if_neg (show ¬ j = zd1 d by omega)]
    by_cases e : j = zd1 d - 1
    · rw [if_pos (show j + 1 = zd1 d by omega)]
      have es : (zo1 d o + j) % 40 = zslt d o := by unfold zslt; rw [e]
      rw [es]
      refine zDs_as hnt hnr hnb hds (fun k hk => ?_) (fun k _ => rfl)
      rw [← g4 k hk]
      congr 1
      rw [e]
      unfold zd1
      split <;> omega
    · rw [if_neg (show ¬ j + 1 = zd1 d by omega)]
      have hjd : j + (if d = 40 then 1 else 0) < d + w := by
        unfold zd1 at hj' e
        split at hj' <;> simp_all <;> omega
      have := g7 _ hjd
      have es : (o + (j + (if d = 40 then 1 else 0))) % 40 = (zo1 d o + j) % 40 := by
        unfold zo1
        split
        · omega
        · rfl
      rw [es, show j + (if d = 40 then 1 else 0) + 1 = j + 1 + (if d = 40 then 1 else 0) by omega] at this
      have hne : (zo1 d o + j) % 40 ≠ zslt d o := by
        unfold zslt
        omega
      have q := hs _ hne
      exact zDs_at this q.1 q.2.1 q.2.2.1 q.2.2.2 (fun k hk => h46 _ (by omega)) h107
end ZAa
