/-! the reference's formulas: all of one -/
def yMO (P : Nat → Nat → Option Nat) (B : Nat → Nat) (n F un0 : Nat) (I : Nat → Nat → Int32) (J : Nat → Nat → Int64) (res : Option zSt) (r : yRs yFr) : Prop := match r with
  | .error (c, pl) => ∃ I' J', res = some (zs I' J' P) ∧ yEM P I J (zs I' J' P) c pl ∧ (¬ I' 91 2 = 0 ∧ ¬ I' 91 2 ≤ 0)
  | .ok r => ∃ I' J', res = some (zs I' J' P) ∧ zfr (yFF F) I I' ∧ (∀ a, a ≠ 91 → J' a = J a) ∧ I' 91 2 = 0 ∧ yMk I' F r.1 ∧ I' 91 21 = nI (un0 + r.2.2) ∧ yMq I' J' B n r.2.1 ∧ r.1.length ≤ 300 ∧ yOt I' F
section ZF4
variable {I : Nat → Nat → Int32} {J : Nat → Nat → Int64} {t u i f s x : Nat} {B : Nat → Nat} {n F un0 : Nat} {ms : yMc}
theorem yMO_fr {P : Nat → Nat → Option Nat} {I' : Nat → Nat → Int32} {J' : Nat → Nat → Int64} {res : Option zSt} {r : yRs yFr} (hf : zfr (yFF F) I I') (hJ : ∀ a, a ≠ 91 → J' a = J a) (h : yMO P B n F un0 I' J' res r) : yMO P B n F un0 I J res r := by
  cases r with
  | error cp_ =>
    obtain ⟨c, pl⟩ := cp_
    obtain ⟨I2, J2, e1, e2, e3⟩ := h
    exact ⟨I2, J2, e1, yEM_fr ⟨zfr_mono hf yFF_MF, fun a h _ => hJ a h⟩ e2, e3⟩
  | ok r =>
    obtain ⟨I2, J2, e1, e2, e3, e4⟩ := h
    exact ⟨I2, J2, e1, zfr_trans hf e2, fun a h => (e3 a h).trans (hJ a h), e4⟩
/-- a unit is due -/
theorem m_U (hF : F < 2) (hu0 : un0 ≤ 30) (hR : yMR I J B n F un0 ms) (hb : ms.1 = true) :
    (∃ s' I' J', ymst (ytok B n) ms = .inl s' ∧ s'.1 = true ∧ (∀ m, f_M_unit_2 (f_M_unit_2L m) (zs I J (zPt t u i f s x)) 91 1 = f_M_unit_2L m (zs I' J' (zPt t u i f s x)) 91 1) ∧ zfr (yFF F) I I' ∧ (∀ a, a ≠ 91 → J' a = J a) ∧ yMR I' J' B n F un0 s') ∨
    (∃ s' I' J', ymst (ytok B n) ms = .inl s' ∧ s'.1 = false ∧ (∀ m, f_M_unit_2 (f_M_unit_2L (m + 1)) (zs I J (zPt t u i f s x)) 91 1 = some (zs I' J' (zPt t u i f s x))) ∧ zfr (yFF F) I I' ∧ (∀ a, a ≠ 91 → J' a = J a) ∧ yMR I' J' B n F un0 s') ∨
    (∃ c pl I' J', ymst (ytok B n) ms = .inr (.error (c, pl)) ∧ (∀ m, f_M_unit_2 (f_M_unit_2L (m + 1)) (zs I J (zPt t u i f s x)) 91 1 = some (zs I' J' (zPt t u i f s x))) ∧ yEM (zPt t u i f s x) I J (zs I' J' (zPt t u i f s x)) c pl ∧ (¬ I' 91 2 = 0 ∧ ¬ I' 91 2 ≤ 0)) := by
  have hB := yMR_Bm hF hR
  obtain ⟨nd, p, S, M, un⟩ := ms
  obtain ⟨hq, h0, ⟨h19, h20, h24, h23, h21⟩, hO, hM, hi, h96⟩ := hR
  simp only at hb hq h19 h20 h24 h23 h21 hO hM
  subst hb
  have hb := yMi_b hi
  simp only at hb
  have hW : ∀ q ∈ S, yW1 q := hi.1
  have hun : un ≤ 30 := hi.2.2.1
  have hdp : ydp S ≤ 7 := hi.2.1
  have n1 : ¬ (1 : Int32) = 0 := by decide
  have zt : ¬ zB true = 0 := by decide
  have zf : zB false = 0 := rfl
  have hτ := ytok_To (B := B) hq.2.2
  have w := g_M_isWord (J := J) (t := t) (u := u) (i := i) (f := f) (s := s) (x := x) hq.2.1 hτ (k := 16) (by decide) (c := 7237492) (by decide)
  have mn := g_M_mayNot (J := J) (t := t) (u := u) (i := i) (f := f) (s := s) (x := x) h20 (by omega) hW hO
  have fu := g_M_isFull (J := J) (t := t) (u := u) (i := i) (f := f) (s := s) (x := x) h21 h23 hu0 hun
  have s40 : (I 91 6 = 40) = ((ytok B n p).1 = 40) := yso_s hq (by decide) (by decide)
  have s2 := yso2 hq
  have l0 : I 91 2 ≤ 0 := by rw [h0]; decide
  have stp : ∀ s', ymst (ytok B n) (true, p, S, M, un) = .inl s' → yMi s' := fun s' h => (yMi_step hi h).1
  by_cases c1 : (ytok B n p).1 = 20 ∧ ymn S = true
  · rw [decide_eq_true (show (ytok B n p).1 = 4 + 16 from c1.1)] at w
    rw [c1.2] at mn
    have ex : ymst (ytok B n) (true, p, S, M, un) = if ydp S ≤ 6 then .inl ⟨true, (ytok B n p).2.2.2.2, 21 :: S, M, un⟩ else yerS (ytok B n p) := by
      unfold ymst
      simp only [if_true]
      rw [if_pos c1]
    by_cases c2 : ydp S ≤ 6
    · rw [if_pos c2] at ex
      left
      obtain ⟨I', J', e1, e2, e3, e4⟩ := m_open (t := t) (u := u) (i := i) (f := f) (s := s) (x := x) (q := 21) hF hq (by omega) h0 h19 h20 h24 h23 h21 hO hM h96 (Or.inr rfl) (by omega) (stp _ ex)
      have e1 : f_M_openUp (zs I J (zPt t u i f s x)) 91 21 = some (zs I' J' (zPt t u i f s x)) := e1
      refine ⟨_, I', J', ex, rfl, fun m => ?_, e2, e3, e4⟩
      have l6 : nI (ydp S) ≤ 6 := by rw [le6 (by omega)]; exact c2
      rw [f_M_unit_2, if_neg n1, gi_12, zbs, if_pos h0, w, zbs, if_neg zt, mn, zbs, if_neg zt, gi_12, zbs, h24, if_pos l6, f_M_unit_44, e1, zbs]
    · rw [if_neg c2] at ex
      right; right
      obtain ⟨I', c, pl, e1, e2, e3, e4⟩ := m_ref (α := yFr) (t := t) (u := u) (i := i) (f := f) (s := s) (x := x) hq h0 hB
      have l6 : ¬ nI (ydp S) ≤ 6 := by rw [le6 (by omega)]; exact c2
      obtain ⟨Ia, Ja, ea, eb, ec, ed, ef⟩ := id e3
      obtain ⟨rfl, rfl⟩ := zs_inj ea
      have k20 : I' 91 20 = nI S.length := by
        have := g_M_wrong (J := J) (t := t) (u := u) (i := i) (f := f) (s := s) (x := x) hq.2.1 hτ h0 2
        rw [show (nI 2 : Int32) = 2 from rfl, e1] at this
        rw [(zs_inj (Option.some.inj this)).1, zup_k _ _ (by decide), zup_k _ _ (by decide)]
        exact h20
      have k24 : I' 91 24 = nI (ydp S) := by
        have := g_M_wrong (J := J) (t := t) (u := u) (i := i) (f := f) (s := s) (x := x) hq.2.1 hτ h0 2
        rw [show (nI 2 : Int32) = 2 from rfl, e1] at this
        rw [(zs_inj (Option.some.inj this)).1, zup_k _ _ (by decide), zup_k _ _ (by decide)]
        exact h24
      have ho := g_openUp (I := I') (J := J) (t := t) (u := u) (i := i) (f := f) (s := s) (x := x) (w := 21) k20 (by omega) k24
      rw [if_neg e4.1] at ho
      have g2 : zup (zup (zup I' 100 S.length 21) 91 20 (nI (S.length + 1))) 91 24 (nI (ydp S + 1)) 91 2 = I' 91 2 := by rw [zup_k _ _ (by decide), zup_k _ _ (by decide), zup_ne _ _ _ (by decide)]
      refine ⟨c, pl, _, J, ?_, fun m => ?_, yEM_more e3 (zfr_up (zfr_up (zfr_up (zfr_refl _ _) rfl) rfl) rfl) g2 (by rw [zup_k _ _ (by decide), zup_k _ _ (by decide), zup_ne _ _ _ (by decide)]) (by rw [zup_ne _ _ _ (by decide), zup_ne _ _ _ (by decide), zup_ne _ _ _ (by decide)]), by rw [g2]; exact e4⟩
      · rw [ex, ← e2]; rfl
      · rw [f_M_unit_2, if_neg n1, gi_12, zbs, if_pos h0, w, zbs, if_neg zt, mn, zbs, if_neg zt, gi_12, zbs, h24, if_neg l6, e1, zbs, f_M_unit_44, ho, zbs, sk_unit1 (by rw [g2]; exact e4.1) (by rw [g2]; exact e4.2)]
  · have h53 : ∀ k2, f_M_unit_2 k2 (zs I J (zPt t u i f s x)) 91 1 = f_M_unit_53 k2 (zs I J (zPt t u i f s x)) 91 1 := fun k2 => by
      by_cases c20 : (ytok B n p).1 = 20
      · have cm : ymn S = false := by
          cases hm : ymn S with
          | true => exact absurd ⟨c20, hm⟩ c1
          | false => rfl
        rw [decide_eq_true (show (ytok B n p).1 = 4 + 16 from c20)] at w
        rw [cm] at mn
        rw [f_M_unit_2, if_neg n1, gi_12, zbs, if_pos h0, w, zbs, if_neg zt, mn, zbs, if_pos zf]
      · rw [decide_eq_false (show ¬ (ytok B n p).1 = 4 + 16 from c20)] at w
        rw [f_M_unit_2, if_neg n1, gi_12, zbs, if_pos h0, w, zbs, if_pos zf]
    by_cases c3 : (ytok B n p).1 = 40
    · have ex : ymst (ytok B n) (true, p, S, M, un) = if un < 30 ∧ ydp S ≤ 6 then .inl ⟨true, (ytok B n p).2.2.2.2, 20 :: S, M, un + 1⟩ else yerS (ytok B n p) := by
        unfold ymst
        simp only [if_true]
        rw [if_neg c1, if_pos c3]
      have e40 : I 91 6 = 40 := by rw [s40]; exact c3
      by_cases c2 : un < 30 ∧ ydp S ≤ 6
      · rw [if_pos c2] at ex
        left
        have cu := g_M_countUnit (J := J) (t := t) (u := u) (i := i) (f := f) (s := s) (x := x) h21 h23
        have hz : ∀ k, k ≠ 21 → k ≠ 23 → zup (zup I 91 21 (nI (un0 + un + 1))) 91 23 (nI (un + 1)) 91 k = I 91 k := fun k g1 g2 => (zup_k _ _ g2).trans (zup_k _ _ g1)
        have hr : ∀ a, a ≠ 91 → zup (zup I 91 21 (nI (un0 + un + 1))) 91 23 (nI (un + 1)) a = I a := fun a g => (zup_ne _ _ _ g).trans (zup_ne _ _ _ g)
        obtain ⟨I', J', e1, e2, e3, e4⟩ := m_open (I := zup (zup I 91 21 (nI (un0 + un + 1))) 91 23 (nI (un + 1))) (un := un + 1) (un0 := un0) (t := t) (u := u) (i := i) (f := f) (s := s) (x := x) (q := 20) hF (yMq_fr hq (hr 92 (by decide)) (fun k g1 g2 => hz k (by omega) (by omega)) rfl) (by omega) (by rw [hz 2 (by decide) (by decide)]; exact h0) (by rw [hz 19 (by decide) (by decide)]; exact h19) (by rw [hz 20 (by decide) (by decide)]; exact h20) (by rw [hz 24 (by decide) (by decide)]; exact h24) (zup_s _ _ _ _) (by rw [zup_k _ _ (by decide), zup_s]; rfl) (yOp_row (hr 100 (by decide)) S hO) (yMk_rows hM (by rw [hr 96 (by decide)]) (fun k _ => by rw [hr 94 (by decide), hr 95 (by decide)]; exact ⟨rfl, rfl⟩)) ⟨by rw [hr 96 (by decide)]; exact h96.1, by rw [hz 3 (by decide) (by decide)]; exact h96.2⟩ (Or.inl rfl) (by omega) (stp _ ex)
        have e1 : f_M_openUp (zs (zup (zup I 91 21 (nI (un0 + un + 1))) 91 23 (nI (un + 1))) J (zPt t u i f s x)) 91 20 = some (zs I' J' (zPt t u i f s x)) := e1
        refine ⟨_, I', J', ex, rfl, fun m => ?_, zfr_trans (zfr_up (zfr_up (zfr_refl _ _) (by simp [yFF])) (by simp [yFF])) e2, e3, e4⟩
        have l6 : nI (ydp S) ≤ 6 := by rw [le6 (by omega)]; exact c2.2
        rw [decide_eq_false (show ¬ un = 30 by omega)] at fu
        rw [h53, f_M_unit_53, gi_12, zbs, if_pos e40, fu, zbs, if_pos zf, gi_12, zbs, h24, if_pos l6, f_M_unit_83, cu, zbs, e1, zbs]
      · rw [if_neg c2] at ex
        right; right
        obtain ⟨I', c, pl, e1, e2, e3, e4⟩ := m_ref (α := yFr) (t := t) (u := u) (i := i) (f := f) (s := s) (x := x) hq h0 hB
        have hw := g_M_wrong (J := J) (t := t) (u := u) (i := i) (f := f) (s := s) (x := x) hq.2.1 hτ h0 2
        rw [show (nI 2 : Int32) = 2 from rfl, e1] at hw
        have hI := (zs_inj (Option.some.inj hw)).1
        have hk : ∀ k, k ≠ 2 → k ≠ 3 → I' 91 k = I 91 k := fun k g1 g2 => by rw [hI, zup_k _ _ g2, zup_k _ _ g1]
        have cu := g_M_countUnit (I := I') (J := J) (t := t) (u := u) (i := i) (f := f) (s := s) (x := x) ((hk 21 (by decide) (by decide)).trans h21) ((hk 23 (by decide) (by decide)).trans h23)
        have hz : ∀ k, k ≠ 21 → k ≠ 23 → zup (zup I' 91 21 (nI (un0 + un + 1))) 91 23 (nI (un + 1)) 91 k = I' 91 k := fun k g1 g2 => (zup_k _ _ g2).trans (zup_k _ _ g1)
        have ho := g_openUp (I := zup (zup I' 91 21 (nI (un0 + un + 1))) 91 23 (nI (un + 1))) (J := J) (t := t) (u := u) (i := i) (f := f) (s := s) (x := x) (w := 20) (((hz 20 (by decide) (by decide)).trans (hk 20 (by decide) (by decide))).trans h20) (by omega) (((hz 24 (by decide) (by decide)).trans (hk 24 (by decide) (by decide))).trans h24)
        rw [hz 2 (by decide) (by decide), if_neg e4.1] at ho
        have g2 : zup (zup (zup (zup (zup I' 91 21 (nI (un0 + un + 1))) 91 23 (nI (un + 1))) 100 S.length 20) 91 20 (nI (S.length + 1))) 91 24 (nI (ydp S + 1)) 91 2 = I' 91 2 := by rw [zup_k _ _ (by decide), zup_k _ _ (by decide), zup_ne _ _ _ (by decide), hz 2 (by decide) (by decide)]
        refine ⟨c, pl, _, J, ?_, fun m => ?_, yEM_more e3 (zfr_up (zfr_up (zfr_up (zfr_up (zfr_up (zfr_refl _ _) rfl) rfl) rfl) rfl) rfl) g2 (by rw [zup_k _ _ (by decide), zup_k _ _ (by decide), zup_ne _ _ _ (by decide), hz 3 (by decide) (by decide)]) (by rw [zup_ne _ _ _ (by decide), zup_ne _ _ _ (by decide), zup_ne _ _ _ (by decide), zup_ne _ _ _ (by decide), zup_ne _ _ _ (by decide)]), by rw [g2]; exact e4⟩
        · rw [ex, ← e2]; rfl
        · have h83 : f_M_unit_83 (f_M_unit_2L (m + 1)) (zs I' J (zPt t u i f s x)) 91 1 = some (zs (zup (zup (zup (zup (zup I' 91 21 (nI (un0 + un + 1))) 91 23 (nI (un + 1))) 100 S.length 20) 91 20 (nI (S.length + 1))) 91 24 (nI (ydp S + 1))) J (zPt t u i f s x)) := by
            rw [f_M_unit_83, cu, zbs, ho, zbs, sk_unit1 (by rw [g2]; exact e4.1) (by rw [g2]; exact e4.2)]
          rw [h53, f_M_unit_53, gi_12, zbs, if_pos e40, fu, zbs]
          by_cases hf : un = 30
          · rw [decide_eq_true hf, if_neg zt, f_M_unit_78, e1, zbs, h83]
          · have l6 : ¬ nI (ydp S) ≤ 6 := by rw [le6 (by omega)]; omega
            rw [decide_eq_false hf, if_pos zf, gi_12, zbs, h24, if_neg l6, f_M_unit_78, e1, zbs, h83]
    · have e40 : ¬ I 91 6 = 40 := by rw [s40]; exact c3
      have h101 : ∀ m, f_M_unit_2 (f_M_unit_2L (m + 1)) (zs I J (zPt t u i f s x)) 91 1 = f_M_unit_101 (zs I J (zPt t u i f s x)) 91 := fun m => by
        rw [h53, f_M_unit_53, gi_12, zbs, if_neg e40, f_M_unit_2L, f_M_unit_2, if_pos rfl]
      have ak := g_M_asked (t := t) (u := u) (i := i) (f := f) (s := s) (x := x) hq
      have cu := g_M_countUnit (J := J) (t := t) (u := u) (i := i) (f := f) (s := s) (x := x) h21 h23
      by_cases c4 : (ytok B n p).1 = 2 ∧ un < 30
      · have ex : ymst (ytok B n) (true, p, S, M, un) = .inl ⟨false, (ytok B n p).2.2.2.2, S, M ++ [nI (ytok B n p).2.2.1], un + 1⟩ := by
          unfold ymst
          simp only [if_true]
          rw [if_neg c1, if_neg c3, if_pos c4]
        right; left
        have hnu := hτ.2.1 c4.1
        have h8 := hq.2.1.2.2.1 c4.1
        obtain ⟨I', J', e1, e2, e3, e4⟩ := m_push (t := t) (u := u) (i := i) (f := f) (s := s) (x := x) (st := 0) (ar := nI (ytok B n p).2.2.1) (v := nI (ytok B n p).2.2.1) hF hq (by omega) h0 h19 h20 h24 h23 h21 hO hM h96 (by omega) (Or.inl ⟨rfl, rfl, nI_pos' (by omega)⟩) (stp _ ex)
        refine ⟨_, I', J', ex, rfl, fun m => ?_, e2, e3, e4⟩
        have g8 : zup (zup I 91 21 (nI (un0 + un + 1))) 91 23 (nI (un + 1)) 91 8 = nI (ytok B n p).2.2.1 := by rw [zup_k _ _ (by decide), zup_k _ _ (by decide)]; exact h8
        rw [if_neg (by omega)] at ak
        rw [decide_eq_false (show ¬ un = 30 by omega)] at fu
        rw [h101, f_M_unit_101, gi_12, zbs, if_pos l0, ak, zbs, gi_12, zbs, if_pos (by rw [s2]; exact c4.1), f_M_unit_126, fu, zbs, if_pos zf, f_M_unit_138, gi_12, zbs, if_pos l0, cu, zbs, if_neg (by decide), f_M_unit_160, if_neg (by decide), gi_12, zbs, g8, e1]
      · by_cases c5 : (21 ≤ (ytok B n p).1 ∧ (ytok B n p).1 ≤ 26) ∧ un < 30
        · have ex : ymst (ytok B n) (true, p, S, M, un) = .inl ⟨false, (ytok B n p).2.2.2.2, S, M ++ [(-1) - nI ((ytok B n p).1 - 21)], un + 1⟩ := by
            unfold ymst
            simp only [if_true]
            rw [if_neg c1, if_neg c3, if_neg c4, if_pos c5]
          right; left
          obtain ⟨I', J', e1, e2, e3, e4⟩ := m_push (t := t) (u := u) (i := i) (f := f) (s := s) (x := x) (st := 1) (ar := nI ((ytok B n p).1 - 21)) (v := (-1) - nI ((ytok B n p).1 - 21)) hF hq (by omega) h0 h19 h20 h24 h23 h21 hO hM h96 (by omega) (Or.inr (Or.inl ⟨rfl, (ytok B n p).1 - 21, by omega, rfl, rfl⟩)) (stp _ ex)
          refine ⟨_, I', J', ex, rfl, fun m => ?_, e2, e3, e4⟩
          have hge : (0 : Int32) ≤ nI ((ytok B n p).1 - 21) := nI_pos' (by omega)
          have hng : ¬ nI ((ytok B n p).1 - 21) < 0 := by rw [zlt_0 (by omega)]; exact fun h => h
          rw [if_pos c5.1] at ak
          rw [decide_eq_false (show ¬ un = 30 by omega)] at fu
          rw [h101, f_M_unit_101, gi_12, zbs, if_pos l0, ak, zbs, gi_12, zbs, if_neg (by rw [s2]; omega), if_neg hng, f_M_unit_126, fu, zbs, if_pos zf, f_M_unit_138, gi_12, zbs, if_pos l0, cu, zbs, if_pos hge, f_M_unit_160, if_pos hge, e1]
        · have ex : ymst (ytok B n) (true, p, S, M, un) = yerS (ytok B n p) := by
            unfold ymst
            simp only [if_true]
            rw [if_neg c1, if_neg c3, if_neg c4, if_neg c5]
          right; right
          obtain ⟨I', c, pl, e1, e2, e3, e4⟩ := m_ref (α := yFr) (t := t) (u := u) (i := i) (f := f) (s := s) (x := x) hq h0 hB
          refine ⟨c, pl, I', J, by rw [ex, ← e2]; rfl, fun m => ?_, e3, e4⟩
          have h133 : ∀ v, f_M_unit_133 (zs I J (zPt t u i f s x)) 91 v = some (zs I' J (zPt t u i f s x)) := fun v => by
            rw [f_M_unit_133, e1, zbs, f_M_unit_138, gi_12, zbs, if_neg e4.2]
          have h126 : ∀ v, un = 30 → f_M_unit_126 (zs I J (zPt t u i f s x)) 91 v = some (zs I' J (zPt t u i f s x)) := fun v hv => by
            rw [decide_eq_true hv] at fu
            rw [f_M_unit_126, fu, zbs, if_neg zt, h133]
          rw [h101, f_M_unit_101, gi_12, zbs, if_pos l0, ak, zbs, gi_12, zbs]
          by_cases k2 : (ytok B n p).1 = 2
          · rw [if_pos (by rw [s2]; exact k2), h126 _ (by omega)]
          · rw [if_neg (by rw [s2]; exact k2)]
            by_cases k3 : 21 ≤ (ytok B n p).1 ∧ (ytok B n p).1 ≤ 26
            · have hng : ¬ nI ((ytok B n p).1 - 21) < 0 := by rw [zlt_0 (by omega)]; exact fun h => h
              rw [if_pos k3, if_neg hng, h126 _ (by omega)]
            · rw [if_neg k3, if_pos (by decide), h133]
end ZF4
