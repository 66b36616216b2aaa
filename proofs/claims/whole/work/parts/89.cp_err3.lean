/-! errand: the class, on -/
/-- the least steps for a set, over the parties 1 .. n - 1 -/
def zcst (P : Nat → Nat → Nat) (n S : Nat) : Nat := if S = 0 then 0 else zrn (fun set a => min a (zfar (P set) S 10)) (n - 1) 1 1000000
theorem zcst_next {P : Nat → Nat → Nat} {k S : Nat} (hk : 1 ≤ k) : zcst P (k + 1) S = if S = 0 then zcst P k 0 else min (zcst P k S) (zfar (P k) S 10) := by
  unfold zcst
  by_cases h : S = 0
  · rw [if_pos h, if_pos h, if_pos rfl]
  · rw [if_neg h, if_neg h, if_neg h, zrn_next _ k hk]
theorem zcst_le (P : Nat → Nat → Nat) (n S : Nat) : zcst P n S ≤ 1000000 := by
  unfold zcst
  split
  · omega
  · exact zrn_inv (fun set a => min a (zfar (P set) S 10)) (n - 1 + 1) (fun _ a => a ≤ 1000000) (fun k a _ h => Nat.le_trans (Nat.min_le_left _ _) h) (n - 1) 1 1000000 (by omega) (Nat.le_refl _)
theorem zcst_lt {P : Nat → Nat → Nat} {n S : Nat} (hn : 2 ≤ n) (hP : zfar (P (n - 1)) S 10 < 100) : zcst P n S < 100 := by
  obtain ⟨m, rfl⟩ : ∃ m, n = m + 1 := ⟨n - 1, by omega⟩
  rw [zcst_next (by omega)]
  rw [Nat.add_sub_cancel] at hP
  split
  · unfold zcst; rw [if_pos rfl]; omega
  · omega
def zans (c : Nat → Nat) (A k : Nat) : Nat := if k = 1 then 2 * c A else if k = 2 then 2 * zprt c c A else 2 * zprt c (zprt c c) A
section ZE3
variable {I : Nat → Nat → Int32} {J : Nat → Nat → Int64} {t u i f s x : Nat} {nt nb nr q sh md om im : Nat} {LW BW : List Int32}
theorem x_walk {I1 : Nat → Nat → Int32} {set A : Nat} {c : Nat → Nat} (ht : t = 2 ∨ t = 13) (hsh : 1 ≤ sh ∧ sh ≤ 9) (h4 : I1 t 4 = nI sh) (hS : zSh I1 t nb nr q (zhm nb om)) (hK : ∀ r b, r < nr → b < nb → zKx I1 r b = zKy I nt LW r b) (hset : set < 2 ^ nr) (hA : A < 1024) (hAb : ∀ b, A.testBit b = true → b < nb ∧ om.testBit b = false) (hc : ∀ S, S &&& A = S → I1 66 S = nI (c S) ∧ c S ≤ 1000000) :
    ∃ I', f_E_walkWith (zs I1 J (zPt t u i f t x)) 64 47 t (nI set) (nI A) = some (zs I' J (zPt t u i f t x)) ∧ zfr zEx I1 I' ∧ ∀ S, S &&& A = S → I' 66 S = nI (if S = 0 then c 0 else min (c S) (zfar (zPs I nt nb nr q om sh LW set) S 10)) := by
  have hnb := hS.2.1
  have f1 : zfr zEx I1 (zup I1 65 0 0) := zfr_up (zfr_refl _ _) rfl
  have w0 : zwI (zs I1 J (zPt t u i f t x)) 1 65 0 0 = some (zs (zup I1 65 0 0) J (zPt t u i f t x)) := wi_65 (k := 0) (by decide)
  obtain ⟨I2, a1, a2, a3⟩ := q_lay (I := I) (J := J) (t := t) (u := u) (i := i) (f := f) (x := x) (LW := LW) (nt := nt) ht (zSh_ex ht hS f1) (by rw [zKx_ex f1]; exact hK) hset
  have f2 : zfr zEx I1 I2 := zfr_trans f1 (zfr_mono a2 (fun a k h => by simp [zEx, h]))
  obtain ⟨I3, b1, b2, b3, b4⟩ := x_walk15 (J := J) (u := u) (i := i) (f := f) (x := x) (A := A) ht hnb hsh (by rw [zEx_row f2 t (by omega) (by omega) (by omega) (by omega) (by omega)]; exact h4) (by rw [a2 65 0 rfl, zup_s]) a3
  obtain ⟨I4, d1, d2, d3⟩ := x_walk60 (I3 := I3) (J := J) (t := t) (u := u) (i := i) (f := f) (s := t) (x := x) (A := A) (c := c) (p := zPs I nt nb nr q om sh LW set) hA (fun b hb => zPs_lt hnb (hAb b hb).1 (hAb b hb).2 set) b3 (fun b hb => b4 b (hAb b hb).1 (hAb b hb).2) (fun S hS' => by rw [b2 66 (by decide), zfr_row a2 66 (fun _ => rfl), zup_ne _ _ _ (by decide)]; exact hc S hS')
  refine ⟨I4, ?_, zfr_trans f2 (fun a k hak => ?_), d3⟩
  · rw [f_E_walkWith, zg_1, gp_1_0, zbs, w0, zbs, a1, zbs, b1, d1]
  · have h5 : a ≠ 65 ∧ a ≠ 66 := by
      unfold zEx at hak
      simp at hak
      exact ⟨hak.1.2, hak.2⟩
    rw [d2 a h5.1 h5.2, b2 a h5.1]
theorem x_few19 {I1 : Nat → Nat → Int32} {A : Nat} (v4 : Int32) (ht : t = 2 ∨ t = 13) (hsh : 1 ≤ sh ∧ sh ≤ 9) (h4 : I1 t 4 = nI sh) (hS : zSh I1 t nb nr q (zhm nb om)) (hK : ∀ r b, r < nr → b < nb → zKx I1 r b = zKy I nt LW r b) (hA : A < 1024) (hAb : ∀ b, A.testBit b = true → b < nb ∧ om.testBit b = false) :
    ∃ I', f_E_fewest (zs I1 J (zPt t u i f t x)) 64 47 t (nI A) v4 = f_E_fewest_45 (zs I' J (zPt t u i f t x)) 64 (nI A) v4 ∧ zfr zEx I1 I' ∧ ∀ S, S &&& A = S → I' 66 S = nI (zcst (zPs I nt nb nr q om sh LW) (2 ^ nr) S) := by
  have hnr := hS.2.2.2.1
  have hpw : 2 ^ nr ≤ 64 := Nat.le_trans (Nat.pow_le_pow_right (by decide) hnr) (by decide)
  have hp0 : 0 < 2 ^ nr := Nat.two_pow_pos nr
  obtain ⟨I2, a1, a2, a3⟩ := g_J_fill (I := I1) (J := J) (P := zPt t u i f t x) (a := 66) (n := 1024) zl_66 (by decide) 1000000
  have w0 : zwI (zs I2 J (zPt t u i f t x)) 1 66 0 0 = some (zs (zup I2 66 0 0) J (zPt t u i f t x)) := wi_66 (k := 0) (by decide)
  have f1 : zfr zEx I1 (zup I2 66 0 0) := zfr_up (fun a k h => by
    have h5 : a ≠ 66 := by
      unfold zEx at h
      simp at h
      exact h.2
    rw [zfr_sl a2 a (by simp [h5])]) rfl
  obtain ⟨I3, ⟨b1, b2, b3⟩, b4⟩ := zfor (fun fuel I' k => f_E_fewest_19L fuel (zs I' J (zPt t u i f t x)) 64 47 t (nI A) v4 (nI k)) (2 ^ nr) (fun k I' => zfr zEx I1 I' ∧ 1 ≤ k ∧ ∀ S, S &&& A = S → I' 66 S = nI (zcst (zPs I nt nb nr q om sh LW) k S)) (fun I' => f_E_fewest_45 (zs I' J (zPt t u i f t x)) 64 (nI A) v4)
    (fun m k I' hk hi => by
      obtain ⟨i1, i2, i3⟩ := hi
      have rt : I' t = I1 t := zEx_row i1 t (by omega) (by omega) (by omega) (by omega) (by omega)
      obtain ⟨I4, c1, c2, c3⟩ := x_walk (I := I) (J := J) (u := u) (i := i) (f := f) (x := x) (nt := nt) (LW := LW) (set := k) ht hsh (by rw [rt]; exact h4) (zSh_ex ht hS i1) (by rw [zKx_ex i1]; exact hK) hk hA hAb (fun S hS' => ⟨i3 S hS', zcst_le _ _ _⟩)
      refine ⟨I4, ⟨zfr_trans i1 c2, by omega, fun S hS' => ?_⟩, ?_⟩
      · rw [c3 S hS', zcst_next i2]
      · show f_E_fewest_19L (m + 1) _ _ _ _ _ _ _ = _
        have hle : ¬ nI (2 ^ nr) ≤ nI k := by rw [zle_nI (by omega) (by omega)]; omega
        rw [f_E_fewest_19L, f_E_fewest_19, gi_10 ht, zbs, rt, hS.2.2.1, zshl1 nr (by omega), if_neg hle, c1, zbs, znI_add1])
    (fun m I' hi => by
      obtain ⟨i1, i2, i3⟩ := hi
      have rt : I' t = I1 t := zEx_row i1 t (by omega) (by omega) (by omega) (by omega) (by omega)
      show f_E_fewest_19L (m + 1) _ _ _ _ _ _ _ = _
      rw [f_E_fewest_19L, f_E_fewest_19, gi_10 ht, zbs, rt, hS.2.2.1, zshl1 nr (by omega), if_pos (Int32.le_refl _)]) (2 ^ nr - 1) 1 (zup I2 66 0 0) zfu (by omega) ⟨f1, Nat.le_refl _, fun S hS' => by
        unfold zcst
        have hle : S ≤ A := by rw [← hS']; exact Nat.and_le_right
        by_cases e : S = 0
        · rw [if_pos e, e, zup_s]; rfl
        · rw [if_neg e, zup_k _ _ e, a3 S (by omega)]; rfl⟩ (zfu_lt (by omega))
  refine ⟨I3, ?_, b1, b3⟩
  rw [f_E_fewest, zg_1, gp_1_1, zbs, a1, zbs, gp_1_1, zbs, w0, zbs]
  exact b4
theorem x_few45 {A k : Nat} {c : Nat → Nat} (hk : k = 1 ∨ k = 2 ∨ k = 3) (hA : A < 1024) (h0 : c 0 = 0) (hc : ∀ S, S &&& A = S → I 66 S = nI (c S) ∧ c S < 100) : ∃ I', f_E_fewest_45 (zs I J (zPt t u i f s x)) 64 (nI A) (nI k) = some (nI (zans c A k), (zs I' J (zPt t u i f s x))) ∧ ∀ a, a ≠ 67 → I' a = I a := by
  have hc2 : ∀ S, S &&& A = S → ∀ v, v &&& S = v → I 66 v = nI (c v) ∧ c v < 1000 := fun S hS v hv => by
    have := hc v (zsub_in hv hS)
    exact ⟨this.1, by omega⟩
  have hcA := hc A (Nat.and_self A)
  rcases hk with rfl | rfl | rfl
  · refine ⟨I, ?_, fun _ _ => rfl⟩
    rw [f_E_fewest_45, if_pos (show nI 1 = 1 from rfl), gp_1_1, zbs, ai_66 hA, zbs, hcA.1, ml2]
    rfl
  · refine ⟨I, ?_, fun _ _ => rfl⟩
    rw [f_E_fewest_45, if_neg (show ¬ nI 2 = 1 by decide), if_pos (show nI 2 = 2 from rfl), gp_1_1, zbs, g_E_parted (Or.inl rfl) hA (hc2 A (Nat.and_self A)) (hc2 A (Nat.and_self A)), zbs, ml2]
    rfl
  · obtain ⟨I2, ⟨a1, a2⟩, a4⟩ := zfor (fun fuel I' k => f_E_fewest_81L fuel (zs I' J (zPt t u i f s x)) 64 (nI A) (nI k)) (A + 1) (fun k I' => (∀ a, a ≠ 67 → I' a = I a) ∧ ∀ S, S < k → S &&& A = S → I' 67 S = nI (zprt c c S)) (fun I' => f_E_fewest_119 (zs I' J (zPt t u i f s x)) 64 (nI A))
      (fun m k I' hk hi => by
        have hn : ¬ nI A < nI k := by rw [zlt_nI (by omega) (by omega)]; omega
        have hz := zinb (S := k) (A := A) (by omega) hA
        by_cases hs : k &&& A = k
        · have hp := g_E_parted (I := I') (J := J) (t := t) (u := u) (i := i) (f := f) (s := s) (x := x) (R := 66) (S := k) (c := c) (r := c) (Or.inl rfl) (by omega) (by rw [hi.1 66 (by decide)]; exact hc2 k hs) (by rw [hi.1 66 (by decide)]; exact hc2 k hs)
          refine ⟨zup I' 67 k (nI (zprt c c k)), ⟨fun a ha => ?_, fun S q1 q2 => ?_⟩, ?_⟩
          · rw [zup_ne _ _ _ ha]; exact hi.1 a ha
          · rw [zup_at]
            by_cases e : S = k
            · rw [if_pos e, e]
            · rw [if_neg e]; exact hi.2 S (by omega) q2
          · show f_E_fewest_81L (m + 1) _ _ _ _ = _
            rw [f_E_fewest_81L, f_E_fewest_81, if_neg hn, if_pos (by rw [hz]; exact hs), gp_1_2, zbs, gp_1_1, zbs, hp, zbs, wi_67 (by omega), zbs, znI_add1]
        · refine ⟨I', ⟨hi.1, fun S q1 q2 => ?_⟩, ?_⟩
          · have : S ≠ k := fun e => hs (by rw [← e]; exact q2)
            exact hi.2 S (by omega) q2
          · show f_E_fewest_81L (m + 1) _ _ _ _ = _
            rw [f_E_fewest_81L, f_E_fewest_81, if_neg hn, if_neg (by rw [hz]; exact hs), znI_add1])
      (fun m I' hi => by
        show f_E_fewest_81L (m + 1) _ _ _ _ = _
        rw [f_E_fewest_81L, f_E_fewest_81, if_pos (by rw [zlt_nI (by omega) (by omega)]; omega)]) (A + 1) 0 I zfu (by omega) ⟨fun _ _ => rfl, fun _ h => by omega⟩ (zfu_lt (by omega))
    have a4 : f_E_fewest_81L zfu (zs I J (zPt t u i f s x)) 64 (nI A) 0 = f_E_fewest_119 (zs I2 J (zPt t u i f s x)) 64 (nI A) := a4
    have hp := g_E_parted (I := I2) (J := J) (t := t) (u := u) (i := i) (f := f) (s := s) (x := x) (R := 67) (S := A) (c := c) (r := zprt c c) (Or.inr rfl) hA (by rw [a1 66 (by decide)]; exact hc2 A (Nat.and_self A)) (fun v hv => ⟨a2 v (by have : v ≤ A := by { rw [← hv]; exact Nat.and_le_right }; omega) hv, by
      have h1 := (hc v hv).2
      have h2 := zprt_le (c := c) (r := c) (S := v) h0
      omega⟩)
    refine ⟨I2, ?_, a1⟩
    rw [f_E_fewest_45, if_neg (show ¬ nI 3 = 1 by decide), if_neg (show ¬ nI 3 = 2 by decide), a4, f_E_fewest_119, gp_1_2, zbs, hp, zbs, ml2]
    rfl
end ZE3
