/-! the reference reads a text: a book's line -/
/-- pure: what is not told yet is 0 -/
def yPz (s : yPs) : Prop := (∀ k, 4 * s.2.2.1.length ≤ k → s.2.2.2.2.1 k = 0) ∧ (∀ k, 4 * s.2.2.2.1.length ≤ k → s.2.2.2.2.2.1 k = 0 ∧ s.2.2.2.2.2.2.1 k = 0)
def yBF (b : Nat) : Nat → Nat → Bool := fun a k => (a == 91 && (k == 2 || k == 3 || k == 4 || k == 6 || k == 7 || k == 8 || k == 35)) || (a == 103 && (Nat.ble (4 * b) k && Nat.ble k (4 * b + 3)))
theorem yBF_LF {b : Nat} : ∀ a k, yBF b a k = true → yLF a k = true := fun a k h => by
  unfold yBF at h
  unfold yLF
  simp at h ⊢
  omega
theorem yTm_BF {b : Nat} : ∀ a k, yTm a k = true → yBF b a k = true := fun a k h => by
  unfold yTm at h
  unfold yBF
  simp at h ⊢
  omega
section ZMB
variable {I : Nat → Nat → Int32} {J : Nat → Nat → Int64} {t u i f s x : Nat} {B : Nat → Nat} {n : Nat} {ps : yPs}
theorem sk_book {m : Nat} {g : Int32} (h : ¬ I 91 2 = 0) : f_M_readBook_38L (m + 1) (zs I J (zPt t u i f s x)) 91 g = some (zs I J (zPt t u i f s x)) := by
  rw [f_M_readBook_38L, f_M_readBook_38, gi_12, zbs, if_neg h, f_M_readBook_87, gi_12, zbs, if_neg h]
theorem m_bookLoop {b : Nat} {L : List (List Nat)} (hb : b < 10) (hL : L.length ≤ 4) (hLt : ∀ w ∈ L, yLt w) (hnd : L.Nodup) : ∀ (d g fuel : Nat), ypc g + d = 5 → d + 1 < fuel → ∀ (I : Nat → Nat → Int32) (J : Nat → Nat → Int64) (W : Nat → Int32) (p : Nat), g < 16 → yMq I J B n p → I 91 2 = 0 → yBm I → I 91 34 = nI L.length → I 91 35 = nI b → yNb J 0 L → (∀ k, k < 4 → I 103 (4 * b + k) = W (4 * b + k)) →
    match ybl (ytok B n) L b d g W p with
    | .error (c, pl) => ∃ I' J', f_M_readBook_38L fuel (zs I J (zPt t u i f s x)) 91 (nI g) = some (zs I' J' (zPt t u i f s x)) ∧ yEL (zPt t u i f s x) I J (zs I' J' (zPt t u i f s x)) c pl ∧ (¬ I' 91 2 = 0 ∧ ¬ I' 91 2 ≤ 0)
    | .ok a => ∃ I' J', f_M_readBook_38L fuel (zs I J (zPt t u i f s x)) 91 (nI g) = some (zs I' J' (zPt t u i f s x)) ∧ zfr (yBF b) I I' ∧ (∀ c, c ≠ 91 → J' c = J c) ∧ (I' 91 35 = nI (b + 1) ∧ I' 91 2 = 0 ∧ I' 91 3 = I 91 3) ∧ (∀ k, k < 4 → I' 103 (4 * b + k) = a.1 (4 * b + k)) ∧ (∀ k, k < 4 * b ∨ 4 * b + 3 < k → a.1 k = W k) ∧ yMq I' J' B n a.2 := by
  intro d
  induction d with
  | zero =>
    intro g fuel hg _ I J W p hg16
    have := (ypc_b g hg16).1
    omega
  | succ d ih =>
    intro g fuel hg hf I J W p hg16 hq h0 hB h34 h35 hN hW
    obtain ⟨m, rfl⟩ : ∃ m, fuel = m + 1 := ⟨fuel - 1, by omega⟩
    obtain ⟨m2, rfl⟩ : ∃ m2, m = m2 + 1 := ⟨m - 1, by omega⟩
    have hτ := ytok_To (B := B) hq.2.2
    have nm := g_M_isName (J := J) (t := t) (u := u) (i := i) (f := f) (s := s) (x := x) hq.2.1 hτ
    have zt : ¬ zB true = 0 := by decide
    unfold ybl
    by_cases h3 : (ytok B n p).1 = 3
    · rw [if_pos h3]
      rw [decide_eq_true h3] at nm
      have ht := m_top (t := t) (u := u) (i := i) (f := f) (s := s) (x := x) hL h34 hLt hN hnd hg16 hq h0 hB
      cases hx : ytop (ytok B n) L g p with
      | error cp_ =>
        obtain ⟨c, pl⟩ := cp_
        rw [hx] at ht
        obtain ⟨v, I1, J1, a1, a2, a3, a4⟩ := ht
        have hr := yEM_row a3
        have e35 : I1 91 35 = nI b := (hr 91 35 rfl).trans h35
        have sn := sk_num (I := I1) (J := J1) (t := t) (u := u) (i := i) (f := f) (s := s) (x := x) (a := 0) (b := 9) a4.2
        have hix : 4 * b + v < 40 := by omega
        have g2 : zup I1 103 (4 * b + v) 0 91 2 = I1 91 2 := by rw [zup_ne _ _ _ (by decide)]
        refine ⟨zup I1 103 (4 * b + v) 0, J1, ?_, yEL_more (yEL_M a3) (zfr_up (zfr_refl _ _) rfl) g2 (by rw [zup_ne _ _ _ (by decide)]) (by rw [zup_ne _ _ _ (by decide)]), by rw [g2]; exact a4⟩
        rw [f_M_readBook_38L, f_M_readBook_38, gi_12, zbs, if_pos h0, nm, zbs, if_neg zt, a1, zbs, gp_12_26, zbs, gi_12, zbs, sn, zbs, e35, ml4, nI_add, wi_103 hix, zbs, sk_book (by rw [g2]; exact a4.1)]
      | ok y =>
        rw [hx] at ht
        obtain ⟨I1, J1, a1, a2, a3⟩ := ht
        have hy4 := ytop_ok hq.2.2 hx
        have k0 : I1 91 2 = 0 := (a2.1 91 2 rfl).trans h0
        have hn := m_num (t := t) (u := u) (i := i) (f := f) (s := s) (x := x) (lo := 0) (hi := 9) (by decide) (by decide) a3 k0 (yBm_fm hB a2)
        have e35 : I1 91 35 = nI b := (a2.1 91 35 rfl).trans h35
        have hix : 4 * b + y.1 < 40 := by omega
        simp only [yRs.bd]
        cases hz : ynum (ytok B n) 0 9 y.2 with
        | error cp_ =>
          obtain ⟨c, pl⟩ := cp_
          rw [hz] at hn
          obtain ⟨v, I2, J2, b1, b2, b3⟩ := hn
          have b1 : f_M_toldNumber (zs I1 J1 (zPt t u i f s x)) 91 0 9 = some (v, (zs I2 J2 (zPt t u i f s x))) := b1
          have g2 : zup I2 103 (4 * b + y.1) v 91 2 = I2 91 2 := by rw [zup_ne _ _ _ (by decide)]
          refine ⟨zup I2 103 (4 * b + y.1) v, J2, ?_, yEL_more (yEL_fr (yfL'_m a2) (yEL_M b2)) (zfr_up (zfr_refl _ _) rfl) g2 (by rw [zup_ne _ _ _ (by decide)]) (by rw [zup_ne _ _ _ (by decide)]), by rw [g2]; exact b3⟩
          rw [f_M_readBook_38L, f_M_readBook_38, gi_12, zbs, if_pos h0, nm, zbs, if_neg zt, a1, zbs, gp_12_26, zbs, gi_12, zbs, b1, zbs, e35, ml4, nI_add, wi_103 hix, zbs, sk_book (by rw [g2]; exact b3.1)]
        | ok v =>
          rw [hz] at hn
          obtain ⟨I2, J2, b1, b2, b3⟩ := hn
          have b1 : f_M_toldNumber (zs I1 J1 (zPt t u i f s x)) 91 0 9 = some (nI v.1, (zs I2 J2 (zPt t u i f s x))) := b1
          have hor := ygor g hg16 y.1 (by omega)
          have hpc := (ypc_b g hg16).2 y.1 (by omega) hy4.2.2.2
          have hr2 : ∀ a, a ≠ 91 → I2 a = I a := fun a ha => (zfr_row b2.1 a (fun k => by simp [yTm, ha])).trans (zfr_row a2.1 a (fun k => by simp [yTm, ha]))
          have hz2 : ∀ k, k ≠ 4 → k ≠ 6 → k ≠ 7 → k ≠ 8 → I2 91 k = I 91 k := fun k g2 g3 g4 g5 => (b2.1 91 k (by simp [yTm, g2, g3, g4, g5])).trans (a2.1 91 k (by simp [yTm, g2, g3, g4, g5]))
          have nx := ih (g ||| 2 ^ y.1) (m2 + 1) (by omega) (by omega) (zup I2 103 (4 * b + y.1) (nI v.1)) J2 (va_up W (4 * b + y.1) (nI v.1)) v.2 hor.2 (yMq_fr b3 (zup_ne _ _ _ (by decide)) (fun k _ _ => by rw [zup_ne _ _ _ (by decide)]) rfl) (by rw [zup_ne _ _ _ (by decide), hz2 2 (by decide) (by decide) (by decide) (by decide)]; exact h0) (fun f hf => by rw [zup_ne _ _ _ (by decide), hr2 96 (by decide)]; exact hB f hf) (by rw [zup_ne _ _ _ (by decide), hz2 34 (by decide) (by decide) (by decide) (by decide)]; exact h34) (by rw [zup_ne _ _ _ (by decide), hz2 35 (by decide) (by decide) (by decide) (by decide)]; exact h35) (fun k w hw => by rw [b2.2 93 (by decide), a2.2 93 (by decide)]; exact hN k w hw) (fun k hk => by
            rw [zup_at]
            unfold va_up
            by_cases e : 4 * b + k = 4 * b + y.1
            · rw [if_pos e, if_pos e]
            · rw [if_neg e, if_neg e, hr2 103 (by decide)]; exact hW k hk)
          have hst : f_M_readBook_38L (m2 + 1 + 1) (zs I J (zPt t u i f s x)) 91 (nI g) = f_M_readBook_38L (m2 + 1) (zs (zup I2 103 (4 * b + y.1) (nI v.1)) J2 (zPt t u i f s x)) 91 (nI (g ||| 2 ^ y.1)) := by
            rw [f_M_readBook_38L, f_M_readBook_38, gi_12, zbs, if_pos h0, nm, zbs, if_neg zt, a1, zbs, gp_12_26, zbs, gi_12, zbs, b1, zbs, e35, ml4, nI_add, wi_103 hix, zbs, hor.1]
          have f1 : zfr (yBF b) I (zup I2 103 (4 * b + y.1) (nI v.1)) := zfr_up (zfr_mono (zfr_trans a2.1 b2.1) yTm_BF) (by simp [yBF]; omega)
          rw [hst]
          simp only
          cases hw : ybl (ytok B n) L b d (g ||| 2 ^ y.1) (va_up W (4 * b + y.1) (nI v.1)) v.2 with
          | error cp_ =>
            obtain ⟨c, pl⟩ := cp_
            rw [hw] at nx
            obtain ⟨I3, J3, c1, c2, c3⟩ := nx
            exact ⟨I3, J3, c1, yEL_fr ⟨zfr_mono f1 yBF_LF, fun a h1 _ => (b2.2 a h1).trans (a2.2 a h1)⟩ c2, c3⟩
          | ok z =>
            rw [hw] at nx
            obtain ⟨I3, J3, c1, c2, c3, c4, c5, c6, c7⟩ := nx
            refine ⟨I3, J3, c1, zfr_trans f1 c2, fun a h => (c3 a h).trans ((b2.2 a h).trans (a2.2 a h)), ⟨c4.1, c4.2.1, c4.2.2.trans ?_⟩, c5, fun k hk => (c6 k hk).trans ?_, c7⟩
            · rw [zup_ne _ _ _ (by decide), hz2 3 (by decide) (by decide) (by decide) (by decide)]
            · unfold va_up
              rw [if_neg (by omega)]
    · rw [if_neg h3]
      rw [decide_eq_false h3] at nm
      have hz : ∀ k, k ≠ 35 → zup I 91 35 (nI (b + 1)) 91 k = I 91 k := fun k h => zup_k _ _ h
      refine ⟨zup I 91 35 (nI (b + 1)), J, ?_, zfr_up (zfr_refl _ _) (by simp [yBF]), fun _ _ => rfl, ⟨zup_s _ _ _ _, (hz 2 (by decide)).trans h0, hz 3 (by decide)⟩, fun k hk => by rw [zup_ne _ _ _ (by decide)]; exact hW k hk, fun _ _ => rfl, yMq_fr hq (zup_ne _ _ _ (by decide)) (fun k _ _ => hz k (by omega)) rfl⟩
      rw [f_M_readBook_38L, f_M_readBook_38, gi_12, zbs, if_pos h0, nm, zbs, if_pos (show zB false = 0 from rfl), f_M_readBook_87, gi_12, zbs, if_pos h0, gi_12, zbs, h35, znI_add1, si_12, zbs]
/-- a book's row is laid empty -/
theorem m_zero {b : Nat} (hb : b < 10) : ∀ (d c fuel : Nat), c + d = 4 → d < fuel → ∀ (I : Nat → Nat → Int32), I 91 35 = nI b → ∃ I', f_M_readBook_11L fuel (zs I J (zPt t u i f s x)) 91 (nI c) = f_M_readBook_38L zfu (zs I' J (zPt t u i f s x)) 91 0 ∧ zfr (fun a k => a == 103 && (Nat.ble (4 * b) k && Nat.ble k (4 * b + 3))) I I' ∧ (∀ k, c ≤ k → k < 4 → I' 103 (4 * b + k) = 0) ∧ ∀ k, k < c → I' 103 (4 * b + k) = I 103 (4 * b + k) := by
  intro d
  induction d with
  | zero =>
    intro c fuel hc hf I h35
    obtain ⟨m, rfl⟩ : ∃ m, fuel = m + 1 := ⟨fuel - 1, by omega⟩
    obtain rfl : c = 4 := by omega
    exact ⟨I, by rw [f_M_readBook_11L, f_M_readBook_11, if_pos (by decide)], zfr_refl _ _, (fun k h1 h2 => by omega), fun _ _ => rfl⟩
  | succ d ih =>
    intro c fuel hc hf I h35
    obtain ⟨m, rfl⟩ : ∃ m, fuel = m + 1 := ⟨fuel - 1, by omega⟩
    obtain ⟨I', e1, e2, e3, e4⟩ := ih (c + 1) m (by omega) (by omega) (zup I 103 (4 * b + c) 0) (by rw [zup_ne _ _ _ (by decide)]; exact h35)
    refine ⟨I', ?_, zfr_trans (zfr_up (zfr_refl _ _) (by simp; omega)) e2, fun k h1 h2 => ?_, fun k hk => ?_⟩
    · rw [f_M_readBook_11L, f_M_readBook_11, if_neg (by rw [ge4 (by omega)]; omega), gp_12_26, zbs, gi_12, zbs, h35, ml4, nI_add, wi_103 (by omega), zbs, znI_add1, e1]
    · by_cases hk : k = c
      · subst hk
        rw [e4 k (by omega), zup_s]
      · exact e3 k (by omega) h2
    · rw [e4 k (by omega), zup_k _ _ (by omega)]
end ZMB
