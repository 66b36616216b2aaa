/-! the reference reads a text: a reader's line -/
def yRF (b : Nat) : Nat → Nat → Bool := fun a k => (a == 91 && (k == 2 || k == 3 || k == 4 || k == 6 || k == 7 || k == 8 || k == 36)) || ((a == 104 || a == 105) && (Nat.ble (4 * b) k && Nat.ble k (4 * b + 3)))
theorem yRF_LF {b : Nat} : ∀ a k, yRF b a k = true → yLF a k = true := fun a k h => by
  unfold yRF at h
  unfold yLF
  simp at h ⊢
  omega
theorem yTm_RF {b : Nat} : ∀ a k, yTm a k = true → yRF b a k = true := fun a k h => by
  unfold yTm at h
  unfold yRF
  simp at h ⊢
  omega
section ZMr
variable {I : Nat → Nat → Int32} {J : Nat → Nat → Int64} {t u i f s x : Nat} {B : Nat → Nat} {n : Nat} {ps : yPs}
theorem sk_reader {m : Nat} {g g2 : Int32} (h : ¬ I 91 2 = 0) : f_M_readReader_74L (m + 1) (zs I J (zPt t u i f s x)) 91 g g2 = some (zs I J (zPt t u i f s x)) := by
  rw [f_M_readReader_74L, f_M_readReader_74, gi_12, zbs, if_neg h, f_M_readReader_191, gi_12, zbs, if_neg h]
theorem m_readerLoop {b : Nat} {L : List (List Nat)} (hb : b < 6) (hL : L.length ≤ 4) (hLt : ∀ w ∈ L, yLt w) (hnd : L.Nodup) : ∀ (d gw go fuel : Nat), ypc gw + ypc go + d = 9 → d + 1 < fuel → ∀ (I : Nat → Nat → Int32) (J : Nat → Nat → Int64) (wa ou : Nat → Int32) (p : Nat), gw < 16 → go < 16 → yMq I J B n p → I 91 2 = 0 → yBm I → I 91 34 = nI L.length → I 91 36 = nI b → yNb J 0 L → (∀ k, k < 4 → I 104 (4 * b + k) = wa (4 * b + k)) → (∀ k, k < 4 → I 105 (4 * b + k) = ou (4 * b + k)) →
    match yrl (ytok B n) L b d gw go wa ou p with
    | .error (c, pl) => ∃ I' J', f_M_readReader_74L fuel (zs I J (zPt t u i f s x)) 91 (nI gw) (nI go) = some (zs I' J' (zPt t u i f s x)) ∧ yEL (zPt t u i f s x) I J (zs I' J' (zPt t u i f s x)) c pl ∧ (¬ I' 91 2 = 0 ∧ ¬ I' 91 2 ≤ 0)
    | .ok a => ∃ I' J', f_M_readReader_74L fuel (zs I J (zPt t u i f s x)) 91 (nI gw) (nI go) = some (zs I' J' (zPt t u i f s x)) ∧ zfr (yRF b) I I' ∧ (∀ c, c ≠ 91 → J' c = J c) ∧ (I' 91 36 = nI (b + 1) ∧ I' 91 2 = 0 ∧ I' 91 3 = I 91 3) ∧ (∀ k, k < 4 → I' 104 (4 * b + k) = a.1 (4 * b + k)) ∧ (∀ k, k < 4 → I' 105 (4 * b + k) = a.2.1 (4 * b + k)) ∧ (∀ k, k < 4 * b ∨ 4 * b + 3 < k → a.1 k = wa k ∧ a.2.1 k = ou k) ∧ yMq I' J' B n a.2.2 := by
  intro d
  induction d with
  | zero =>
    intro gw go fuel hg _ I J wa ou p hgw hgo
    have h1 := (ypc_b gw hgw).1
    have h2 := (ypc_b go hgo).1
    omega
  | succ d ih =>
    intro gw go fuel hg hf I J wa ou p hgw hgo hq h0 hB h34 h36 hN hW hO
    obtain ⟨m, rfl⟩ : ∃ m, fuel = m + 1 := ⟨fuel - 1, by omega⟩
    obtain ⟨m2, rfl⟩ : ∃ m2, m = m2 + 1 := ⟨m - 1, by omega⟩
    have hτ := ytok_To (B := B) hq.2.2
    have w9 := g_M_isWord (J := J) (t := t) (u := u) (i := i) (f := f) (s := s) (x := x) hq.2.1 hτ (k := 9) (by decide) (c := 512735736947) (by decide)
    have w18 := g_M_isWord (J := J) (t := t) (u := u) (i := i) (f := f) (s := s) (x := x) hq.2.1 hτ (k := 18) (by decide) (c := 478711081076) (by decide)
    have zt : ¬ zB true = 0 := by decide
    have zf : zB false = 0 := rfl
    unfold yrl
    by_cases h13 : (ytok B n p).1 = 13
    · rw [if_pos h13]
      rw [decide_eq_true (show (ytok B n p).1 = 4 + 9 from h13)] at w9
      obtain ⟨Ik, Jk, t1, t2, t3⟩ := m_tok (t := t) (u := u) (i := i) (f := f) (s := s) (x := x) hq (by omega)
      have hBk := yBm_fm hB t2
      have q0 : Ik 91 2 = 0 := (t2.1 91 2 rfl).trans h0
      have q34 : Ik 91 34 = nI L.length := (t2.1 91 34 rfl).trans h34
      have q36 : Ik 91 36 = nI b := (t2.1 91 36 rfl).trans h36
      have qN : yNb Jk 0 L := fun k w hw => by rw [t2.2 93 (by decide)]; exact hN k w hw
      have hhead : ∀ m, f_M_readReader_74L (m + 1) (zs I J (zPt t u i f s x)) 91 (nI gw) (nI go) = f_M_readReader_123 (f_M_readReader_74L m) (zs Ik Jk (zPt t u i f s x)) 91 (nI gw) (nI go) (zB true) (nI gw) 91 := fun m => by
        rw [f_M_readReader_74L, f_M_readReader_74, gi_12, zbs, if_pos h0, w9, zbs, if_neg zt, f_M_readReader_101, w9, zbs, t1, zbs, if_neg zt]
      have ht := m_top (t := t) (u := u) (i := i) (f := f) (s := s) (x := x) hL q34 hLt qN hnd hgw t3 q0 hBk
      cases hx : ytop (ytok B n) L gw (ytok B n p).2.2.2.2 with
      | error cp_ =>
        obtain ⟨c, pl⟩ := cp_
        rw [hx] at ht
        obtain ⟨v, I1, J1, a1, a2, a3, a4⟩ := ht
        have hr := yEM_row a3
        have e36 : I1 91 36 = nI b := (hr 91 36 rfl).trans q36
        have sn := sk_sgd (I := I1) (J := J1) (t := t) (u := u) (i := i) (f := f) (s := s) (x := x) a4.2
        have hix : 4 * b + v < 24 := by omega
        have g2 : zup I1 104 (4 * b + v) 0 91 2 = I1 91 2 := by rw [zup_ne _ _ _ (by decide)]
        refine ⟨zup I1 104 (4 * b + v) 0, J1, ?_, yEL_more (yEL_fr (yfL'_m t2) (yEL_M a3)) (zfr_up (zfr_refl _ _) rfl) g2 (by rw [zup_ne _ _ _ (by decide)]) (by rw [zup_ne _ _ _ (by decide)]), by rw [g2]; exact a4⟩
        rw [hhead, f_M_readReader_123, a1, zbs, if_neg zt, gp_12_27, zbs, gi_12, zbs, sn, zbs, e36, ml4, nI_add, wi_104 hix, zbs, sk_reader (by rw [g2]; exact a4.1)]
      | ok y =>
        rw [hx] at ht
        obtain ⟨I1, J1, a1, a2, a3⟩ := ht
        have hy4 := ytop_ok t3.2.2 hx
        have k0 : I1 91 2 = 0 := (a2.1 91 2 rfl).trans q0
        have hn := m_sgd (t := t) (u := u) (i := i) (f := f) (s := s) (x := x) a3 k0 (yBm_fm hBk a2)
        have e36 : I1 91 36 = nI b := (a2.1 91 36 rfl).trans q36
        have hix : 4 * b + y.1 < 24 := by omega
        simp only [yRs.bd]
        cases hz : ysgd (ytok B n) y.2 with
        | error cp_ =>
          obtain ⟨c, pl⟩ := cp_
          rw [hz] at hn
          obtain ⟨v, I2, J2, b1, b2, b3⟩ := hn
          have b1 : f_M_signed (zs I1 J1 (zPt t u i f s x)) 91 = some (v, (zs I2 J2 (zPt t u i f s x))) := b1
          have g2 : zup I2 104 (4 * b + y.1) v 91 2 = I2 91 2 := by rw [zup_ne _ _ _ (by decide)]
          refine ⟨zup I2 104 (4 * b + y.1) v, J2, ?_, yEL_more (yEL_fr (yfL'_m (yfm_trans t2 a2)) (yEL_M b2)) (zfr_up (zfr_refl _ _) rfl) g2 (by rw [zup_ne _ _ _ (by decide)]) (by rw [zup_ne _ _ _ (by decide)]), by rw [g2]; exact b3⟩
          rw [hhead, f_M_readReader_123, a1, zbs, if_neg zt, gp_12_27, zbs, gi_12, zbs, b1, zbs, e36, ml4, nI_add, wi_104 hix, zbs, sk_reader (by rw [g2]; exact b3.1)]
        | ok v =>
          rw [hz] at hn
          obtain ⟨I2, J2, b1, b2, b3⟩ := hn
          have b1 : f_M_signed (zs I1 J1 (zPt t u i f s x)) 91 = some (v.1, (zs I2 J2 (zPt t u i f s x))) := b1
          have hor := ygor gw hgw y.1 (by omega)
          have hpc := (ypc_b gw hgw).2 y.1 (by omega) hy4.2.2.2
          have ftm : zfr yTm I I2 := zfr_trans t2.1 (zfr_trans a2.1 b2.1)
          have fJ : ∀ a, a ≠ 91 → J2 a = J a := fun a h => (b2.2 a h).trans ((a2.2 a h).trans (t2.2 a h))
          have hr2 : ∀ a, a ≠ 91 → I2 a = I a := fun a ha => zfr_row ftm a (fun k => by simp [yTm, ha])
          have hz2 : ∀ k, k ≠ 4 → k ≠ 6 → k ≠ 7 → k ≠ 8 → I2 91 k = I 91 k := fun k g2 g3 g4 g5 => ftm 91 k (by simp [yTm, g2, g3, g4, g5])
          have nx := ih (gw ||| 2 ^ y.1) go (m2 + 1) (by omega) (by omega) (zup I2 104 (4 * b + y.1) v.1) J2 (va_up wa (4 * b + y.1) v.1) (ou) v.2 hor.2 hgo (yMq_fr b3 (zup_ne _ _ _ (by decide)) (fun k _ _ => by rw [zup_ne _ _ _ (by decide)]) rfl) (by rw [zup_ne _ _ _ (by decide), hz2 2 (by decide) (by decide) (by decide) (by decide)]; exact h0) (fun f hf => by rw [zup_ne _ _ _ (by decide), hr2 96 (by decide)]; exact hB f hf) (by rw [zup_ne _ _ _ (by decide), hz2 34 (by decide) (by decide) (by decide) (by decide)]; exact h34) (by rw [zup_ne _ _ _ (by decide), hz2 36 (by decide) (by decide) (by decide) (by decide)]; exact h36) (fun k w hw => by rw [fJ 93 (by decide)]; exact hN k w hw) (fun k hk => by
            rw [zup_at]; unfold va_up; by_cases e : 4 * b + k = 4 * b + y.1; (rw [if_pos e, if_pos e]); (rw [if_neg e, if_neg e, hr2 104 (by decide)]; exact hW k hk)) (fun k hk => by
            rw [zup_ne _ _ _ (show 105 ≠ 104 by decide), hr2 105 (by decide)]; exact hO k hk)
          have hst : f_M_readReader_74L (m2 + 1 + 1) (zs I J (zPt t u i f s x)) 91 (nI gw) (nI go) = f_M_readReader_74L (m2 + 1) (zs (zup I2 104 (4 * b + y.1) v.1) J2 (zPt t u i f s x)) 91 (nI (gw ||| 2 ^ y.1)) (nI go) := by
            rw [hhead, f_M_readReader_123, a1, zbs, if_neg zt, gp_12_27, zbs, gi_12, zbs, b1, zbs, e36, ml4, nI_add, wi_104 hix, zbs, hor.1]
          have f1 : zfr (yRF b) I (zup I2 104 (4 * b + y.1) v.1) := zfr_up (zfr_mono ftm yTm_RF) (by simp [yRF]; omega)
          rw [hst]
          simp only
          cases hw : yrl (ytok B n) L b d (gw ||| 2 ^ y.1) go (va_up wa (4 * b + y.1) v.1) (ou) v.2 with
          | error cp_ =>
            obtain ⟨c, pl⟩ := cp_
            rw [hw] at nx
            obtain ⟨I3, J3, c1, c2, c3⟩ := nx
            exact ⟨I3, J3, c1, yEL_fr ⟨zfr_mono f1 yRF_LF, fun a h1 _ => fJ a h1⟩ c2, c3⟩
          | ok z =>
            rw [hw] at nx
            obtain ⟨I3, J3, c1, c2, c3, c4, c5, c6, c7, c8⟩ := nx
            refine ⟨I3, J3, c1, zfr_trans f1 c2, fun a h => (c3 a h).trans (fJ a h), ⟨c4.1, c4.2.1, c4.2.2.trans ?_⟩, c5, c6, fun k hk => ⟨(c7 k hk).1.trans ?_, (c7 k hk).2.trans ?_⟩, c8⟩
            · rw [zup_ne _ _ _ (by decide), hz2 3 (by decide) (by decide) (by decide) (by decide)]
            · unfold va_up; rw [if_neg (by omega)]
            · rfl
    · rw [if_neg h13]
      rw [decide_eq_false (show ¬ (ytok B n p).1 = 4 + 9 from h13)] at w9
      by_cases h22 : (ytok B n p).1 = 22
      · rw [if_pos h22]
        rw [decide_eq_true (show (ytok B n p).1 = 4 + 18 from h22)] at w18
        obtain ⟨Ik, Jk, t1, t2, t3⟩ := m_tok (t := t) (u := u) (i := i) (f := f) (s := s) (x := x) hq (by omega)
        have hBk := yBm_fm hB t2
        have q0 : Ik 91 2 = 0 := (t2.1 91 2 rfl).trans h0
        have q34 : Ik 91 34 = nI L.length := (t2.1 91 34 rfl).trans h34
        have q36 : Ik 91 36 = nI b := (t2.1 91 36 rfl).trans h36
        have qN : yNb Jk 0 L := fun k w hw => by rw [t2.2 93 (by decide)]; exact hN k w hw
        have hhead : ∀ m, f_M_readReader_74L (m + 1) (zs I J (zPt t u i f s x)) 91 (nI gw) (nI go) = f_M_readReader_123 (f_M_readReader_74L m) (zs Ik Jk (zPt t u i f s x)) 91 (nI gw) (nI go) (zB false) (nI go) 91 := fun m => by
          rw [f_M_readReader_74L, f_M_readReader_74, gi_12, zbs, if_pos h0, w9, zbs, if_pos zf, w18, zbs, if_neg zt, f_M_readReader_101, w9, zbs, t1, zbs, if_pos zf]
        have ht := m_top (t := t) (u := u) (i := i) (f := f) (s := s) (x := x) hL q34 hLt qN hnd hgo t3 q0 hBk
        cases hx : ytop (ytok B n) L go (ytok B n p).2.2.2.2 with
        | error cp_ =>
          obtain ⟨c, pl⟩ := cp_
          rw [hx] at ht
          obtain ⟨v, I1, J1, a1, a2, a3, a4⟩ := ht
          have hr := yEM_row a3
          have e36 : I1 91 36 = nI b := (hr 91 36 rfl).trans q36
          have sn := sk_num (I := I1) (J := J1) (t := t) (u := u) (i := i) (f := f) (s := s) (x := x) (a := 0) (b := 9) a4.2
          have hix : 4 * b + v < 24 := by omega
          have g2 : zup I1 105 (4 * b + v) 0 91 2 = I1 91 2 := by rw [zup_ne _ _ _ (by decide)]
          refine ⟨zup I1 105 (4 * b + v) 0, J1, ?_, yEL_more (yEL_fr (yfL'_m t2) (yEL_M a3)) (zfr_up (zfr_refl _ _) rfl) g2 (by rw [zup_ne _ _ _ (by decide)]) (by rw [zup_ne _ _ _ (by decide)]), by rw [g2]; exact a4⟩
          rw [hhead, f_M_readReader_123, a1, zbs, if_pos zf, gp_12_28, zbs, gi_12, zbs, sn, zbs, e36, ml4, nI_add, wi_105 hix, zbs, sk_reader (by rw [g2]; exact a4.1)]
        | ok y =>
          rw [hx] at ht
          obtain ⟨I1, J1, a1, a2, a3⟩ := ht
          have hy4 := ytop_ok t3.2.2 hx
          have k0 : I1 91 2 = 0 := (a2.1 91 2 rfl).trans q0
          have hn := m_num (t := t) (u := u) (i := i) (f := f) (s := s) (x := x) (lo := 0) (hi := 9) (by decide) (by decide) a3 k0 (yBm_fm hBk a2)
          have e36 : I1 91 36 = nI b := (a2.1 91 36 rfl).trans q36
          have hix : 4 * b + y.1 < 24 := by omega
          simp only [yRs.bd]
          cases hz : ynum (ytok B n) 0 9 y.2 with
          | error cp_ =>
            obtain ⟨c, pl⟩ := cp_
            rw [hz] at hn
            obtain ⟨v, I2, J2, b1, b2, b3⟩ := hn
            have b1 : f_M_toldNumber (zs I1 J1 (zPt t u i f s x)) 91 0 9 = some (v, (zs I2 J2 (zPt t u i f s x))) := b1
            have g2 : zup I2 105 (4 * b + y.1) v 91 2 = I2 91 2 := by rw [zup_ne _ _ _ (by decide)]
            refine ⟨zup I2 105 (4 * b + y.1) v, J2, ?_, yEL_more (yEL_fr (yfL'_m (yfm_trans t2 a2)) (yEL_M b2)) (zfr_up (zfr_refl _ _) rfl) g2 (by rw [zup_ne _ _ _ (by decide)]) (by rw [zup_ne _ _ _ (by decide)]), by rw [g2]; exact b3⟩
            rw [hhead, f_M_readReader_123, a1, zbs, if_pos zf, gp_12_28, zbs, gi_12, zbs, b1, zbs, e36, ml4, nI_add, wi_105 hix, zbs, sk_reader (by rw [g2]; exact b3.1)]
          | ok v =>
            rw [hz] at hn
            obtain ⟨I2, J2, b1, b2, b3⟩ := hn
            have b1 : f_M_toldNumber (zs I1 J1 (zPt t u i f s x)) 91 0 9 = some ((nI v.1), (zs I2 J2 (zPt t u i f s x))) := b1
            have hor := ygor go hgo y.1 (by omega)
            have hpc := (ypc_b go hgo).2 y.1 (by omega) hy4.2.2.2
            have ftm : zfr yTm I I2 := zfr_trans t2.1 (zfr_trans a2.1 b2.1)
            have fJ : ∀ a, a ≠ 91 → J2 a = J a := fun a h => (b2.2 a h).trans ((a2.2 a h).trans (t2.2 a h))
            have hr2 : ∀ a, a ≠ 91 → I2 a = I a := fun a ha => zfr_row ftm a (fun k => by simp [yTm, ha])
            have hz2 : ∀ k, k ≠ 4 → k ≠ 6 → k ≠ 7 → k ≠ 8 → I2 91 k = I 91 k := fun k g2 g3 g4 g5 => ftm 91 k (by simp [yTm, g2, g3, g4, g5])
            have nx := ih gw (go ||| 2 ^ y.1) (m2 + 1) (by omega) (by omega) (zup I2 105 (4 * b + y.1) (nI v.1)) J2 (wa) (va_up ou (4 * b + y.1) (nI v.1)) v.2 hgw hor.2 (yMq_fr b3 (zup_ne _ _ _ (by decide)) (fun k _ _ => by rw [zup_ne _ _ _ (by decide)]) rfl) (by rw [zup_ne _ _ _ (by decide), hz2 2 (by decide) (by decide) (by decide) (by decide)]; exact h0) (fun f hf => by rw [zup_ne _ _ _ (by decide), hr2 96 (by decide)]; exact hB f hf) (by rw [zup_ne _ _ _ (by decide), hz2 34 (by decide) (by decide) (by decide) (by decide)]; exact h34) (by rw [zup_ne _ _ _ (by decide), hz2 36 (by decide) (by decide) (by decide) (by decide)]; exact h36) (fun k w hw => by rw [fJ 93 (by decide)]; exact hN k w hw) (fun k hk => by
              rw [zup_ne _ _ _ (show 104 ≠ 105 by decide), hr2 104 (by decide)]; exact hW k hk) (fun k hk => by
              rw [zup_at]; unfold va_up; by_cases e : 4 * b + k = 4 * b + y.1; (rw [if_pos e, if_pos e]); (rw [if_neg e, if_neg e, hr2 105 (by decide)]; exact hO k hk))
            have hst : f_M_readReader_74L (m2 + 1 + 1) (zs I J (zPt t u i f s x)) 91 (nI gw) (nI go) = f_M_readReader_74L (m2 + 1) (zs (zup I2 105 (4 * b + y.1) (nI v.1)) J2 (zPt t u i f s x)) 91 (nI gw) (nI (go ||| 2 ^ y.1)) := by
              rw [hhead, f_M_readReader_123, a1, zbs, if_pos zf, gp_12_28, zbs, gi_12, zbs, b1, zbs, e36, ml4, nI_add, wi_105 hix, zbs, hor.1]
            have f1 : zfr (yRF b) I (zup I2 105 (4 * b + y.1) (nI v.1)) := zfr_up (zfr_mono ftm yTm_RF) (by simp [yRF]; omega)
            rw [hst]
            simp only
            cases hw : yrl (ytok B n) L b d gw (go ||| 2 ^ y.1) (wa) (va_up ou (4 * b + y.1) (nI v.1)) v.2 with
            | error cp_ =>
              obtain ⟨c, pl⟩ := cp_
              rw [hw] at nx
              obtain ⟨I3, J3, c1, c2, c3⟩ := nx
              exact ⟨I3, J3, c1, yEL_fr ⟨zfr_mono f1 yRF_LF, fun a h1 _ => fJ a h1⟩ c2, c3⟩
            | ok z =>
              rw [hw] at nx
              obtain ⟨I3, J3, c1, c2, c3, c4, c5, c6, c7, c8⟩ := nx
              refine ⟨I3, J3, c1, zfr_trans f1 c2, fun a h => (c3 a h).trans (fJ a h), ⟨c4.1, c4.2.1, c4.2.2.trans ?_⟩, c5, c6, fun k hk => ⟨(c7 k hk).1.trans ?_, (c7 k hk).2.trans ?_⟩, c8⟩
              · rw [zup_ne _ _ _ (by decide), hz2 3 (by decide) (by decide) (by decide) (by decide)]
              · rfl
              · unfold va_up; rw [if_neg (by omega)]
      · rw [if_neg h22]
        rw [decide_eq_false (show ¬ (ytok B n p).1 = 4 + 18 from h22)] at w18
        have hz : ∀ k, k ≠ 36 → zup I 91 36 (nI (b + 1)) 91 k = I 91 k := fun k h => zup_k _ _ h
        refine ⟨zup I 91 36 (nI (b + 1)), J, ?_, zfr_up (zfr_refl _ _) (by simp [yRF]), fun _ _ => rfl, ⟨zup_s _ _ _ _, (hz 2 (by decide)).trans h0, hz 3 (by decide)⟩, fun k hk => by rw [zup_ne _ _ _ (by decide)]; exact hW k hk, fun k hk => by rw [zup_ne _ _ _ (by decide)]; exact hO k hk, fun _ _ => ⟨rfl, rfl⟩, yMq_fr hq (zup_ne _ _ _ (by decide)) (fun k _ _ => hz k (by omega)) rfl⟩
        rw [f_M_readReader_74L, f_M_readReader_74, gi_12, zbs, if_pos h0, w9, zbs, if_pos zf, w18, zbs, if_pos zf, f_M_readReader_191, gi_12, zbs, if_pos h0, gi_12, zbs, h36, znI_add1, si_12, zbs]
/-- a reader's rows are laid empty -/
theorem m_zero2 {b : Nat} (hb : b < 6) : ∀ (d c fuel : Nat), c + d = 4 → d < fuel → ∀ (I : Nat → Nat → Int32), I 91 36 = nI b → ∃ I', f_M_readReader_31L fuel (zs I J (zPt t u i f s x)) 91 (nI c) = f_M_readReader_74L zfu (zs I' J (zPt t u i f s x)) 91 0 0 ∧ zfr (fun a k => (a == 104 || a == 105) && (Nat.ble (4 * b) k && Nat.ble k (4 * b + 3))) I I' ∧ (∀ k, c ≤ k → k < 4 → I' 104 (4 * b + k) = 0 ∧ I' 105 (4 * b + k) = 0) ∧ ∀ k, k < c → I' 104 (4 * b + k) = I 104 (4 * b + k) ∧ I' 105 (4 * b + k) = I 105 (4 * b + k) := by
  intro d
  induction d with
  | zero =>
    intro c fuel hc hf I h36
    obtain ⟨m, rfl⟩ : ∃ m, fuel = m + 1 := ⟨fuel - 1, by omega⟩
    obtain rfl : c = 4 := by omega
    exact ⟨I, by rw [f_M_readReader_31L, f_M_readReader_31, if_pos (by decide)], zfr_refl _ _, (fun k h1 h2 => by omega), fun _ _ => ⟨rfl, rfl⟩⟩
  | succ d ih =>
    intro c fuel hc hf I h36
    obtain ⟨m, rfl⟩ : ∃ m, fuel = m + 1 := ⟨fuel - 1, by omega⟩
    have h36b : zup I 104 (4 * b + c) 0 91 36 = nI b := by rw [zup_ne _ _ _ (by decide)]; exact h36
    obtain ⟨I', e1, e2, e3, e4⟩ := ih (c + 1) m (by omega) (by omega) (zup (zup I 104 (4 * b + c) 0) 105 (4 * b + c) 0) (by rw [zup_ne _ _ _ (by decide)]; exact h36b)
    refine ⟨I', ?_, zfr_trans (zfr_up (zfr_up (zfr_refl _ _) (by simp; omega)) (by simp; omega)) e2, fun k h1 h2 => ?_, fun k hk => ?_⟩
    · rw [f_M_readReader_31L, f_M_readReader_31, if_neg (by rw [ge4 (by omega)]; omega), gp_12_27, zbs, gi_12, zbs, h36, ml4, nI_add, wi_104 (by omega), zbs, gp_12_28, zbs, gi_12, zbs, h36b, ml4, nI_add, wi_105 (by omega), zbs, znI_add1, e1]
    · by_cases hk : k = c
      · subst hk
        rw [(e4 k (by omega)).1, (e4 k (by omega)).2, zup_s, zup_ne _ _ _ (by decide), zup_s]
        exact ⟨rfl, rfl⟩
      · exact e3 k (by omega) h2
    · rw [(e4 k (by omega)).1, (e4 k (by omega)).2, zup_k _ _ (by omega), zup_ne _ _ _ (by decide), zup_k _ _ (by omega), zup_ne _ _ _ (by decide)]
      exact ⟨rfl, rfl⟩
end ZMr
