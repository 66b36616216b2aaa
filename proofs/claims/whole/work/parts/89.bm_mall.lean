/-! the reference reads a text: all of it -/
theorem ybl_out {B : Nat → Nat} {n b : Nat} {L : List (List Nat)} (hL : L.length ≤ 4) : ∀ (d g : Nat) (W : Nat → Int32) (p : Nat) (a : (Nat → Int32) × Nat), p ≤ n → ybl (ytok B n) L b d g W p = .ok a → ∀ k, k < 4 * b ∨ 4 * b + 3 < k → a.1 k = W k := by
  intro d
  induction d with
  | zero => intro g W p a hp h; cases h; exact fun _ _ => rfl
  | succ d ih =>
    intro g W p a hp h
    unfold ybl at h
    split at h
    · obtain ⟨y, h1, h⟩ := ybd_ok h
      obtain ⟨v, h2, h⟩ := ybd_ok h
      have e1 := ytop_ok hp h1
      have e2 := ynum_ok' e1.1 h2
      intro k hk
      rw [ih _ _ _ _ e2.1 h k hk]
      unfold va_up
      rw [if_neg (by omega)]
    · cases h; exact fun _ _ => rfl
theorem yrl_out {B : Nat → Nat} {n b : Nat} {L : List (List Nat)} (hL : L.length ≤ 4) : ∀ (d gw go : Nat) (wa ou : Nat → Int32) (p : Nat) (a : (Nat → Int32) × (Nat → Int32) × Nat), p ≤ n → yrl (ytok B n) L b d gw go wa ou p = .ok a → ∀ k, k < 4 * b ∨ 4 * b + 3 < k → a.1 k = wa k ∧ a.2.1 k = ou k := by
  intro d
  induction d with
  | zero => intro gw go wa ou p a hp h; cases h; exact fun _ _ => ⟨rfl, rfl⟩
  | succ d ih =>
    intro gw go wa ou p a hp h
    unfold yrl at h
    have hb := (ytok_b (B := B) hp).2.1
    split at h
    · obtain ⟨y, h1, h⟩ := ybd_ok h
      obtain ⟨v, h2, h⟩ := ybd_ok h
      have e1 := ytop_ok hb h1
      have e2 := ysgd_ok e1.1 h2
      intro k hk
      have := ih _ _ _ _ _ _ e2.1 h k hk
      refine ⟨this.1.trans ?_, this.2⟩
      unfold va_up
      rw [if_neg (by omega)]
    · split at h
      · obtain ⟨y, h1, h⟩ := ybd_ok h
        obtain ⟨v, h2, h⟩ := ybd_ok h
        have e1 := ytop_ok hb h1
        have e2 := ynum_ok' e1.1 h2
        intro k hk
        have := ih _ _ _ _ _ _ e2.1 h k hk
        refine ⟨this.1, this.2.trans ?_⟩
        unfold va_up
        rw [if_neg (by omega)]
      · cases h; exact fun _ _ => ⟨rfl, rfl⟩
theorem yline1_pz {B : Nat → Nat} {n : Nat} {s s' : yPs} (hi : yPi n s) (hp : yPz s) (h : yline1 (ytok B n) s = .ok s') : yPz s' := by
  have g2 := (ytok_b (B := B) hi.1).2.1
  unfold yline1 at h
  split at h
  · split at h
    · obtain ⟨a, h1, h⟩ := ybd_ok h
      cases h
      exact hp
    · cases h
  · split at h
    · obtain ⟨a, h1, h⟩ := ybd_ok h
      obtain ⟨v, h2, h⟩ := ybd_ok h
      cases h
      have e := ynew_ok g2 h1
      have o := ybl_out hi.2.1 _ _ _ _ _ e.1 h2
      refine ⟨fun k hk => ?_, hp.2⟩
      simp only [List.length_append, List.length_cons, List.length_nil] at hk
      show v.1 k = 0
      rw [o k (Or.inr (by omega))]
      exact hp.1 k (by omega)
    · cases h
  · split at h
    · obtain ⟨a, h1, h⟩ := ybd_ok h
      obtain ⟨q2, h2, h⟩ := ybd_ok h
      obtain ⟨od, h3, h⟩ := ybd_ok h
      obtain ⟨v, h4, h⟩ := ybd_ok h
      cases h
      have e := ynew_ok g2 h1
      have e2 := ytake_ok (by decide) e.1 h2
      have e3 := ynum_ok' e2.1 h3
      have o := yrl_out hi.2.1 _ _ _ _ _ _ _ e3.1 h4
      refine ⟨hp.1, fun k hk => ?_⟩
      simp only [List.length_append, List.length_cons, List.length_nil] at hk
      have := o k (Or.inr (by omega))
      have h0 := hp.2 k (by omega)
      exact ⟨this.1.trans h0.1, this.2.trans h0.2⟩
    · cases h
  · split at h
    · obtain ⟨r, h1, h⟩ := ybd_ok h
      cases h
      exact hp
    · cases h
  · split at h
    · obtain ⟨r, h1, h⟩ := ybd_ok h
      cases h
      exact hp
    · cases h
  · split at h
    · split at h
      · cases h
        exact hp
      · cases h
    · cases h
  · split at h
    · obtain ⟨r, h1, h⟩ := ybd_ok h
      cases h
      exact hp
    · cases h
  · split at h
    · obtain ⟨r, h1, h⟩ := ybd_ok h
      cases h
      exact hp
    · cases h
  · cases h
theorem yline_pz {B : Nat → Nat} {n : Nat} {s s' : yPs} (hi : yPi n s) (hp : yPz s) (h : yline (ytok B n) s = .ok s') : yPz s' := by
  unfold yline at h
  obtain ⟨s1, h1, h2⟩ := ybd_ok h
  obtain ⟨p2, h3, h4⟩ := ybd_ok h2
  cases h4
  have h5 : yPz s1 := yline1_pz hi hp h1
  exact h5
theorem yon2 : ∀ o, o < 32 → ∀ j, j < 5 → (decide (nI o &&& nI (2 ^ j) = 0) = !o.testBit j) ∧ nI o ||| nI (2 ^ j) = nI (o ||| 2 ^ j) := by decide +kernel
section ZMa
variable {I : Nat → Nat → Int32} {J : Nat → Nat → Int64} {t u i f s x : Nat} {B : Nat → Nat} {n : Nat} {ps : yPs}
theorem yMD_once {v p : Nat} (hd : yMD I J ps) : yMD (zup I 91 40 (nI v)) J (p, ps.2.1, ps.2.2.1, ps.2.2.2.1, ps.2.2.2.2.1, ps.2.2.2.2.2.1, ps.2.2.2.2.2.2.1, ps.2.2.2.2.2.2.2.1, ps.2.2.2.2.2.2.2.2.1, ps.2.2.2.2.2.2.2.2.2.1, ps.2.2.2.2.2.2.2.2.2.2.1, v, ps.2.2.2.2.2.2.2.2.2.2.2.2.1, ps.2.2.2.2.2.2.2.2.2.2.2.2.2.1, ps.2.2.2.2.2.2.2.2.2.2.2.2.2.2) := by
  have r : ∀ a, a ≠ 91 → zup I 91 40 (nI v) a = I a := fun a ha => zup_ne _ _ _ ha
  have z : ∀ k, k ≠ 40 → zup I 91 40 (nI v) 91 k = I 91 k := fun k g1 => zup_k _ _ g1
  obtain ⟨⟨k34, k35, k36, k37, k38, k39, k40, k21, k2, k3⟩, ⟨r1, r2, r3, r4⟩, ⟨l1, l2⟩, ⟨m1, m2, m3⟩, hB⟩ := hd
  unfold yMD yMk yNb yBm
  rw [r 103 (by decide), r 104 (by decide), r 105 (by decide), r 106 (by decide), r 94 (by decide), r 95 (by decide), r 96 (by decide), z 34 (by decide), z 35 (by decide), z 36 (by decide), z 37 (by decide), z 38 (by decide), z 39 (by decide), z 21 (by decide), z 2 (by decide), z 3 (by decide), zup_s]
  exact ⟨⟨k34, k35, k36, k37, k38, k39, rfl, k21, k2, k3⟩, ⟨r1, r2, r3, r4⟩, ⟨l1, l2⟩, ⟨m1, m2, m3⟩, hB⟩
theorem g_isOnce {j : Nat} (hj : j < 5) {c : Int64} (hc : c = nJ (ybs 256 (yWL.getD (3 + j) []))) (hq : yMq I J B n ps.1) (h40 : I 91 40 = nI ps.2.2.2.2.2.2.2.2.2.2.2.1) (ho : ps.2.2.2.2.2.2.2.2.2.2.2.1 < 32) : f_M_isOnce (zs I J (zPt t u i f s x)) 91 c (nI (2 ^ j)) = if (ytok B n ps.1).1 = 7 + j ∧ ps.2.2.2.2.2.2.2.2.2.2.2.1.testBit j = false then some (1, (zs (zup I 91 40 (nI (ps.2.2.2.2.2.2.2.2.2.2.2.1 ||| 2 ^ j))) J (zPt t u i f s x))) else some (0, (zs I J (zPt t u i f s x))) := by
  have w := g_M_isWord (J := J) (t := t) (u := u) (i := i) (f := f) (s := s) (x := x) hq.2.1 (ytok_To hq.2.2) (k := 3 + j) (by omega) hc
  have zt : ¬ zB true = 0 := by decide
  have n1 : ¬ (1 : Int32) = 0 := by decide
  have hb := yon2 ps.2.2.2.2.2.2.2.2.2.2.2.1 ho j hj
  by_cases h : (ytok B n ps.1).1 = 7 + j
  · rw [decide_eq_true (by omega)] at w
    cases ht : ps.2.2.2.2.2.2.2.2.2.2.2.1.testBit j with
    | false =>
      rw [if_pos ⟨h, rfl⟩]
      rw [ht] at hb
      have hz : nI ps.2.2.2.2.2.2.2.2.2.2.2.1 &&& nI (2 ^ j) = 0 := by simpa using hb.1
      rw [f_M_isOnce, zg_12, w, zbs, if_neg zt, gi_12, zbs, h40, if_pos hz, f_M_isOnce_22, if_neg n1, gi_12, zbs, h40, hb.2, si_12, zbs, zbs, zbool_1, zbs]
    | true =>
      rw [if_neg (by rintro ⟨_, h2⟩; cases h2)]
      rw [ht] at hb
      have hz : ¬ nI ps.2.2.2.2.2.2.2.2.2.2.2.1 &&& nI (2 ^ j) = 0 := by simpa using hb.1
      rw [f_M_isOnce, zg_12, w, zbs, if_neg zt, gi_12, zbs, h40, if_neg hz, f_M_isOnce_21, f_M_isOnce_22, if_pos rfl, zbs, zbool_0, zbs]
  · rw [decide_eq_false (by omega)] at w
    rw [if_neg (by rintro ⟨h2, _⟩; exact h h2), f_M_isOnce, zg_12, w, zbs, if_pos (show zB false = 0 from rfl), f_M_isOnce_21, f_M_isOnce_22, if_pos rfl, zbs, zbool_0, zbs]
theorem m_refL (hq : yMq I J B n ps.1) (hd : yMD I J ps) : yML (zPt t u i f s x) B n I J ((f_M_wrong (zs I J (zPt t u i f s x)) 91 2).bind fun σ => f_M_readLine_196 σ 91) (yer (ytok B n ps.1)) := by
  obtain ⟨I', c, pl, e1, e2, e3, e4⟩ := m_ref (α := yPs) (t := t) (u := u) (i := i) (f := f) (s := s) (x := x) hq hd.1.2.2.2.2.2.2.2.2.1 hd.2.2.2.2
  rw [e2]
  refine ⟨I', J, ?_, yEL_M e3, e4⟩
  rw [e1, zbs, sk_196 e4.1]
/-- a line of the reference's -/
theorem m_readLine (hq : yMq I J B n ps.1) (hi : yPi n ps) (hp : yPz ps) (hd : yMD I J ps) : yML (zPt t u i f s x) B n I J (f_M_readLine (zs I J (zPt t u i f s x)) 91) (yline (ytok B n) ps) := by
  have hd0 := hd
  obtain ⟨⟨k34, k35, k36, k37, k38, k39, k40, k21, k2, k3⟩, _, _, _, hB⟩ := hd0
  have hτ := ytok_To (B := B) hq.2.2
  have w0 := g_M_isWord (J := J) (t := t) (u := u) (i := i) (f := f) (s := s) (x := x) hq.2.1 hτ (k := 0) (by decide) (c := 500085844323) (by decide)
  have w1 := g_M_isWord (J := J) (t := t) (u := u) (i := i) (f := f) (s := s) (x := x) hq.2.1 hτ (k := 1) (by decide) (c := 1651470187) (by decide)
  have w2 := g_M_isWord (J := J) (t := t) (u := u) (i := i) (f := f) (s := s) (x := x) hq.2.1 hτ (k := 2) (by decide) (c := 125779751232882) (by decide)
  have zt : ¬ zB true = 0 := by decide
  have zf : zB false = 0 := rfl
  have n1 : ¬ (1 : Int32) = 0 := by decide
  have ho := hi.2.2.2.2.2.2.2.1
  have o0 : f_M_isOnce (zs I J (zPt t u i f s x)) 91 7102839 1 = _ := g_isOnce (J := J) (t := t) (u := u) (i := i) (f := f) (s := s) (x := x) (j := 0) (by decide) (by decide) hq k40 ho
  have o1 : f_M_isOnce (zs I J (zPt t u i f s x)) 91 1650814564 2 = _ := g_isOnce (J := J) (t := t) (u := u) (i := i) (f := f) (s := s) (x := x) (j := 1) (by decide) (by decide) hq k40 ho
  have o2 : f_M_isOnce (zs I J (zPt t u i f s x)) 91 31935733760681324 4 = _ := g_isOnce (J := J) (t := t) (u := u) (i := i) (f := f) (s := s) (x := x) (j := 2) (by decide) (by decide) hq k40 ho
  have o3 : f_M_isOnce (zs I J (zPt t u i f s x)) 91 495672716390 8 = _ := g_isOnce (J := J) (t := t) (u := u) (i := i) (f := f) (s := s) (x := x) (j := 3) (by decide) (by decide) hq k40 ho
  have o4 : f_M_isOnce (zs I J (zPt t u i f s x)) 91 1836019556 16 = _ := g_isOnce (J := J) (t := t) (u := u) (i := i) (f := f) (s := s) (x := x) (j := 4) (by decide) (by decide) hq k40 ho
  have h77d : (∀ j, j < 5 → ¬ ((ytok B n ps.1).1 = 7 + j ∧ ps.2.2.2.2.2.2.2.2.2.2.2.1.testBit j = false)) → f_M_readLine_77 (zs I J (zPt t u i f s x)) 91 = (f_M_wrong (zs I J (zPt t u i f s x)) 91 2).bind fun σ6 => f_M_readLine_196 σ6 91 := fun hno => by
    rw [if_neg (hno 0 (by decide))] at o0
    rw [if_neg (hno 1 (by decide))] at o1
    rw [if_neg (hno 2 (by decide))] at o2
    rw [if_neg (hno 3 (by decide))] at o3
    rw [if_neg (hno 4 (by decide))] at o4
    rw [f_M_readLine_77, o0, zbs, if_pos rfl, o1, zbs, if_pos rfl, o2, zbs, if_pos rfl, o3, zbs, if_pos rfl, o4, zbs, if_pos rfl]
  rw [yline_fin]
  by_cases h4 : (ytok B n ps.1).1 = 4
  · rw [yline1_4 h4]
    rw [decide_eq_true (show (ytok B n ps.1).1 = 4 + 0 from h4)] at w0
    rw [decide_eq_false (show ¬ (ytok B n ps.1).1 = 4 + 1 by omega)] at w1
    rw [decide_eq_false (show ¬ (ytok B n ps.1).1 = 4 + 2 by omega)] at w2
    by_cases hl : ps.2.1.length < 4
    · rw [if_pos hl]
      have cl : ¬ (4 : Int32) ≤ nI ps.2.1.length := by rw [show (4 : Int32) = nI 4 from rfl, zle_nI (by decide) (by omega)]; omega
      have := m_topicLine (t := t) (u := u) (i := i) (f := f) (s := s) (x := x) hq hi hd (by omega) hl
      simp only [ybd_bd]
      rw [f_M_readLine, zg_12, w0, zbs, if_neg zt, gi_12, zbs, k34, if_neg cl]
      exact this
    · rw [if_neg hl]
      have cl : (4 : Int32) ≤ nI ps.2.1.length := by
        have := hi.2.1
        rw [show (4 : Int32) = nI 4 from rfl, zle_nI (by decide) (by omega)]; omega
      rw [f_M_readLine, zg_12, w0, zbs, if_neg zt, gi_12, zbs, k34, if_pos cl, f_M_readLine_25, w1, zbs, if_pos zf, f_M_readLine_51, w2, zbs, if_pos zf, h77d (fun j hj h => by omega)]
      exact m_refL hq hd
  by_cases h5 : (ytok B n ps.1).1 = 5
  · rw [yline1_5 h5]
    rw [decide_eq_false (show ¬ (ytok B n ps.1).1 = 4 + 0 by omega)] at w0
    rw [decide_eq_true (show (ytok B n ps.1).1 = 4 + 1 from h5)] at w1
    rw [decide_eq_false (show ¬ (ytok B n ps.1).1 = 4 + 2 by omega)] at w2
    by_cases hl : ps.2.2.1.length < 10
    · rw [if_pos hl]
      have cl : ¬ (10 : Int32) ≤ nI ps.2.2.1.length := by rw [show (10 : Int32) = nI 10 from rfl, zle_nI (by decide) (by omega)]; omega
      have := m_bookLine (t := t) (u := u) (i := i) (f := f) (s := s) (x := x) hq hi hp hd (by omega) hl
      simp only [ybd_bd]
      rw [f_M_readLine, zg_12, w0, zbs, if_pos zf, f_M_readLine_25, w1, zbs, if_neg zt, gi_12, zbs, k35, if_neg cl]
      exact this
    · rw [if_neg hl]
      have cl : (10 : Int32) ≤ nI ps.2.2.1.length := by
        have := hi.2.2.1
        rw [show (10 : Int32) = nI 10 from rfl, zle_nI (by decide) (by omega)]; omega
      rw [f_M_readLine, zg_12, w0, zbs, if_pos zf, f_M_readLine_25, w1, zbs, if_neg zt, gi_12, zbs, k35, if_pos cl, f_M_readLine_51, w2, zbs, if_pos zf, h77d (fun j hj h => by omega)]
      exact m_refL hq hd
  by_cases h6 : (ytok B n ps.1).1 = 6
  · rw [yline1_6 h6]
    rw [decide_eq_false (show ¬ (ytok B n ps.1).1 = 4 + 0 by omega)] at w0
    rw [decide_eq_false (show ¬ (ytok B n ps.1).1 = 4 + 1 by omega)] at w1
    rw [decide_eq_true (show (ytok B n ps.1).1 = 4 + 2 from h6)] at w2
    by_cases hl : ps.2.2.2.1.length < 6
    · rw [if_pos hl]
      have cl : ¬ (6 : Int32) ≤ nI ps.2.2.2.1.length := by rw [show (6 : Int32) = nI 6 from rfl, zle_nI (by decide) (by omega)]; omega
      have := m_readerLine (t := t) (u := u) (i := i) (f := f) (s := s) (x := x) hq hi hp hd (by omega) hl
      simp only [ybd_bd]
      rw [f_M_readLine, zg_12, w0, zbs, if_pos zf, f_M_readLine_25, w1, zbs, if_pos zf, f_M_readLine_51, w2, zbs, if_neg zt, gi_12, zbs, k36, if_neg cl]
      exact this
    · rw [if_neg hl]
      have cl : (6 : Int32) ≤ nI ps.2.2.2.1.length := by
        have := hi.2.2.2.1
        rw [show (6 : Int32) = nI 6 from rfl, zle_nI (by decide) (by omega)]; omega
      rw [f_M_readLine, zg_12, w0, zbs, if_pos zf, f_M_readLine_25, w1, zbs, if_pos zf, f_M_readLine_51, w2, zbs, if_neg zt, gi_12, zbs, k36, if_pos cl, h77d (fun j hj h => by omega)]
      exact m_refL hq hd
  by_cases h7 : (ytok B n ps.1).1 = 7
  · rw [yline1_7 h7]
    rw [decide_eq_false (show ¬ (ytok B n ps.1).1 = 4 + 0 by omega)] at w0
    rw [decide_eq_false (show ¬ (ytok B n ps.1).1 = 4 + 1 by omega)] at w1
    rw [decide_eq_false (show ¬ (ytok B n ps.1).1 = 4 + 2 by omega)] at w2
    by_cases hb : ps.2.2.2.2.2.2.2.2.2.2.2.1.testBit 0 = false
    · rw [if_pos hb]
      rw [if_pos ⟨h7, hb⟩] at o0
      have hq1 : yMq (zup I 91 40 (nI (ps.2.2.2.2.2.2.2.2.2.2.2.1 ||| 1))) J B n ((ps.1, ps.2.1, ps.2.2.1, ps.2.2.2.1, ps.2.2.2.2.1, ps.2.2.2.2.2.1, ps.2.2.2.2.2.2.1, ps.2.2.2.2.2.2.2.1, ps.2.2.2.2.2.2.2.2.1, ps.2.2.2.2.2.2.2.2.2.1, ps.2.2.2.2.2.2.2.2.2.2.1, ps.2.2.2.2.2.2.2.2.2.2.2.1 ||| 1, ps.2.2.2.2.2.2.2.2.2.2.2.2.1, ps.2.2.2.2.2.2.2.2.2.2.2.2.2.1, ps.2.2.2.2.2.2.2.2.2.2.2.2.2.2) : yPs).1 := yMq_fr hq (zup_ne _ _ _ (by decide)) (fun k _ _ => zup_k _ _ (by omega)) rfl
      have hd1 : yMD (zup I 91 40 (nI (ps.2.2.2.2.2.2.2.2.2.2.2.1 ||| 1))) J (ps.1, ps.2.1, ps.2.2.1, ps.2.2.2.1, ps.2.2.2.2.1, ps.2.2.2.2.2.1, ps.2.2.2.2.2.2.1, ps.2.2.2.2.2.2.2.1, ps.2.2.2.2.2.2.2.2.1, ps.2.2.2.2.2.2.2.2.2.1, ps.2.2.2.2.2.2.2.2.2.2.1, ps.2.2.2.2.2.2.2.2.2.2.2.1 ||| 1, ps.2.2.2.2.2.2.2.2.2.2.2.2.1, ps.2.2.2.2.2.2.2.2.2.2.2.2.2.1, ps.2.2.2.2.2.2.2.2.2.2.2.2.2.2) := yMD_once (p := ps.1) hd
      have o0 : f_M_isOnce (zs I J (zPt t u i f s x)) 91 7102839 1 = some (1, (zs (zup I 91 40 (nI (ps.2.2.2.2.2.2.2.2.2.2.2.1 ||| 1))) J (zPt t u i f s x))) := o0
      have := m_formulaLine_law (t := t) (u := u) (i := i) (f := f) (s := s) (x := x) hq1 hd1 (by simp only; omega) (hi.2.2.2.2.2.2.2.2.2.2.2.2.2.2.2.2.2.1.2.1 (hi.2.2.2.2.2.2.2.2.2.2.2.2.2.2.2.1.mpr hb)) (fun M hM => (hi.2.2.2.2.2.2.2.2.2.2.2.2.2.2.1 M hM).2)
      refine yML_fr (yfL'_up (a := 91) (k := 40) (v := nI (ps.2.2.2.2.2.2.2.2.2.2.2.1 ||| 1)) (yfL'_refl I J) rfl) ?_
      simp only [ybd_bd]
      rw [f_M_readLine, zg_12, w0, zbs, if_pos zf, f_M_readLine_25, w1, zbs, if_pos zf, f_M_readLine_51, w2, zbs, if_pos zf, f_M_readLine_77, o0, zbs, if_neg n1]
      exact this
    · rw [if_neg hb, f_M_readLine, zg_12, w0, zbs, if_pos zf, f_M_readLine_25, w1, zbs, if_pos zf, f_M_readLine_51, w2, zbs, if_pos zf, h77d (fun j hj h => by
        have : j = 0 := by omega
        rw [this] at h
        exact hb h.2)]
      exact m_refL hq hd
  by_cases h8 : (ytok B n ps.1).1 = 8
  · rw [yline1_8 h8]
    rw [decide_eq_false (show ¬ (ytok B n ps.1).1 = 4 + 0 by omega)] at w0
    rw [decide_eq_false (show ¬ (ytok B n ps.1).1 = 4 + 1 by omega)] at w1
    rw [decide_eq_false (show ¬ (ytok B n ps.1).1 = 4 + 2 by omega)] at w2
    by_cases hb : ps.2.2.2.2.2.2.2.2.2.2.2.1.testBit 1 = false
    · rw [if_pos hb]
      rw [if_pos ⟨h8, hb⟩] at o1
      have hq1 : yMq (zup I 91 40 (nI (ps.2.2.2.2.2.2.2.2.2.2.2.1 ||| 2))) J B n ((ps.1, ps.2.1, ps.2.2.1, ps.2.2.2.1, ps.2.2.2.2.1, ps.2.2.2.2.2.1, ps.2.2.2.2.2.2.1, ps.2.2.2.2.2.2.2.1, ps.2.2.2.2.2.2.2.2.1, ps.2.2.2.2.2.2.2.2.2.1, ps.2.2.2.2.2.2.2.2.2.2.1, ps.2.2.2.2.2.2.2.2.2.2.2.1 ||| 2, ps.2.2.2.2.2.2.2.2.2.2.2.2.1, ps.2.2.2.2.2.2.2.2.2.2.2.2.2.1, ps.2.2.2.2.2.2.2.2.2.2.2.2.2.2) : yPs).1 := yMq_fr hq (zup_ne _ _ _ (by decide)) (fun k _ _ => zup_k _ _ (by omega)) rfl
      have hd1 : yMD (zup I 91 40 (nI (ps.2.2.2.2.2.2.2.2.2.2.2.1 ||| 2))) J (ps.1, ps.2.1, ps.2.2.1, ps.2.2.2.1, ps.2.2.2.2.1, ps.2.2.2.2.2.1, ps.2.2.2.2.2.2.1, ps.2.2.2.2.2.2.2.1, ps.2.2.2.2.2.2.2.2.1, ps.2.2.2.2.2.2.2.2.2.1, ps.2.2.2.2.2.2.2.2.2.2.1, ps.2.2.2.2.2.2.2.2.2.2.2.1 ||| 2, ps.2.2.2.2.2.2.2.2.2.2.2.2.1, ps.2.2.2.2.2.2.2.2.2.2.2.2.2.1, ps.2.2.2.2.2.2.2.2.2.2.2.2.2.2) := yMD_once (p := ps.1) hd
      have o1 : f_M_isOnce (zs I J (zPt t u i f s x)) 91 1650814564 2 = some (1, (zs (zup I 91 40 (nI (ps.2.2.2.2.2.2.2.2.2.2.2.1 ||| 2))) J (zPt t u i f s x))) := o1
      rw [if_neg (by rintro ⟨h, _⟩; omega)] at o0
      have := m_formulaLine_bend (t := t) (u := u) (i := i) (f := f) (s := s) (x := x) hq1 hd1 (by simp only; omega) (hi.2.2.2.2.2.2.2.2.2.2.2.2.2.2.2.2.2.1.2.2.1 (hi.2.2.2.2.2.2.2.2.2.2.2.2.2.2.2.2.1.mpr hb)) (fun M hM => (hi.2.2.2.2.2.2.2.2.2.2.2.2.2.1 M hM).2)
      refine yML_fr (yfL'_up (a := 91) (k := 40) (v := nI (ps.2.2.2.2.2.2.2.2.2.2.2.1 ||| 2)) (yfL'_refl I J) rfl) ?_
      simp only [ybd_bd]
      rw [f_M_readLine, zg_12, w0, zbs, if_pos zf, f_M_readLine_25, w1, zbs, if_pos zf, f_M_readLine_51, w2, zbs, if_pos zf, f_M_readLine_77, o0, zbs, if_pos rfl, o1, zbs, if_neg n1]
      exact this
    · rw [if_neg hb, f_M_readLine, zg_12, w0, zbs, if_pos zf, f_M_readLine_25, w1, zbs, if_pos zf, f_M_readLine_51, w2, zbs, if_pos zf, h77d (fun j hj h => by
        have : j = 1 := by omega
        rw [this] at h
        exact hb h.2)]
      exact m_refL hq hd
  by_cases h9 : (ytok B n ps.1).1 = 9
  · rw [yline1_9 h9]
    rw [decide_eq_false (show ¬ (ytok B n ps.1).1 = 4 + 0 by omega)] at w0
    rw [decide_eq_false (show ¬ (ytok B n ps.1).1 = 4 + 1 by omega)] at w1
    rw [decide_eq_false (show ¬ (ytok B n ps.1).1 = 4 + 2 by omega)] at w2
    by_cases hb : ps.2.2.2.2.2.2.2.2.2.2.2.1.testBit 2 = false
    · rw [if_pos hb]
      rw [if_pos ⟨h9, hb⟩] at o2
      have hq1 : yMq (zup I 91 40 (nI (ps.2.2.2.2.2.2.2.2.2.2.2.1 ||| 4))) J B n ((ps.1, ps.2.1, ps.2.2.1, ps.2.2.2.1, ps.2.2.2.2.1, ps.2.2.2.2.2.1, ps.2.2.2.2.2.2.1, ps.2.2.2.2.2.2.2.1, ps.2.2.2.2.2.2.2.2.1, ps.2.2.2.2.2.2.2.2.2.1, ps.2.2.2.2.2.2.2.2.2.2.1, ps.2.2.2.2.2.2.2.2.2.2.2.1 ||| 4, ps.2.2.2.2.2.2.2.2.2.2.2.2.1, ps.2.2.2.2.2.2.2.2.2.2.2.2.2.1, ps.2.2.2.2.2.2.2.2.2.2.2.2.2.2) : yPs).1 := yMq_fr hq (zup_ne _ _ _ (by decide)) (fun k _ _ => zup_k _ _ (by omega)) rfl
      have hd1 : yMD (zup I 91 40 (nI (ps.2.2.2.2.2.2.2.2.2.2.2.1 ||| 4))) J (ps.1, ps.2.1, ps.2.2.1, ps.2.2.2.1, ps.2.2.2.2.1, ps.2.2.2.2.2.1, ps.2.2.2.2.2.2.1, ps.2.2.2.2.2.2.2.1, ps.2.2.2.2.2.2.2.2.1, ps.2.2.2.2.2.2.2.2.2.1, ps.2.2.2.2.2.2.2.2.2.2.1, ps.2.2.2.2.2.2.2.2.2.2.2.1 ||| 4, ps.2.2.2.2.2.2.2.2.2.2.2.2.1, ps.2.2.2.2.2.2.2.2.2.2.2.2.2.1, ps.2.2.2.2.2.2.2.2.2.2.2.2.2.2) := yMD_once (p := ps.1) hd
      have o2 : f_M_isOnce (zs I J (zPt t u i f s x)) 91 31935733760681324 4 = some (1, (zs (zup I 91 40 (nI (ps.2.2.2.2.2.2.2.2.2.2.2.1 ||| 4))) J (zPt t u i f s x))) := o2
      rw [if_neg (by rintro ⟨h, _⟩; omega)] at o0
      rw [if_neg (by rintro ⟨h, _⟩; omega)] at o1
      have := m_quarrelLine (t := t) (u := u) (i := i) (f := f) (s := s) (x := x) hq1 hd1 (by simp only; omega)
      refine yML_fr (yfL'_up (a := 91) (k := 40) (v := nI (ps.2.2.2.2.2.2.2.2.2.2.2.1 ||| 4)) (yfL'_refl I J) rfl) ?_
      rw [apply_ite (fun r => yRs.bd r (yfin (ytok B n)))]
      rw [f_M_readLine, zg_12, w0, zbs, if_pos zf, f_M_readLine_25, w1, zbs, if_pos zf, f_M_readLine_51, w2, zbs, if_pos zf, f_M_readLine_77, o0, zbs, if_pos rfl, o1, zbs, if_pos rfl, o2, zbs, if_neg n1]
      exact this
    · rw [if_neg hb, f_M_readLine, zg_12, w0, zbs, if_pos zf, f_M_readLine_25, w1, zbs, if_pos zf, f_M_readLine_51, w2, zbs, if_pos zf, h77d (fun j hj h => by
        have : j = 2 := by omega
        rw [this] at h
        exact hb h.2)]
      exact m_refL hq hd
  by_cases h10 : (ytok B n ps.1).1 = 10
  · rw [yline1_10 h10]
    rw [decide_eq_false (show ¬ (ytok B n ps.1).1 = 4 + 0 by omega)] at w0
    rw [decide_eq_false (show ¬ (ytok B n ps.1).1 = 4 + 1 by omega)] at w1
    rw [decide_eq_false (show ¬ (ytok B n ps.1).1 = 4 + 2 by omega)] at w2
    by_cases hb : ps.2.2.2.2.2.2.2.2.2.2.2.1.testBit 3 = false
    · rw [if_pos hb]
      rw [if_pos ⟨h10, hb⟩] at o3
      have hq1 : yMq (zup I 91 40 (nI (ps.2.2.2.2.2.2.2.2.2.2.2.1 ||| 8))) J B n ((ps.1, ps.2.1, ps.2.2.1, ps.2.2.2.1, ps.2.2.2.2.1, ps.2.2.2.2.2.1, ps.2.2.2.2.2.2.1, ps.2.2.2.2.2.2.2.1, ps.2.2.2.2.2.2.2.2.1, ps.2.2.2.2.2.2.2.2.2.1, ps.2.2.2.2.2.2.2.2.2.2.1, ps.2.2.2.2.2.2.2.2.2.2.2.1 ||| 8, ps.2.2.2.2.2.2.2.2.2.2.2.2.1, ps.2.2.2.2.2.2.2.2.2.2.2.2.2.1, ps.2.2.2.2.2.2.2.2.2.2.2.2.2.2) : yPs).1 := yMq_fr hq (zup_ne _ _ _ (by decide)) (fun k _ _ => zup_k _ _ (by omega)) rfl
      have hd1 : yMD (zup I 91 40 (nI (ps.2.2.2.2.2.2.2.2.2.2.2.1 ||| 8))) J (ps.1, ps.2.1, ps.2.2.1, ps.2.2.2.1, ps.2.2.2.2.1, ps.2.2.2.2.2.1, ps.2.2.2.2.2.2.1, ps.2.2.2.2.2.2.2.1, ps.2.2.2.2.2.2.2.2.1, ps.2.2.2.2.2.2.2.2.2.1, ps.2.2.2.2.2.2.2.2.2.2.1, ps.2.2.2.2.2.2.2.2.2.2.2.1 ||| 8, ps.2.2.2.2.2.2.2.2.2.2.2.2.1, ps.2.2.2.2.2.2.2.2.2.2.2.2.2.1, ps.2.2.2.2.2.2.2.2.2.2.2.2.2.2) := yMD_once (p := ps.1) hd
      have o3 : f_M_isOnce (zs I J (zPt t u i f s x)) 91 495672716390 8 = some (1, (zs (zup I 91 40 (nI (ps.2.2.2.2.2.2.2.2.2.2.2.1 ||| 8))) J (zPt t u i f s x))) := o3
      rw [if_neg (by rintro ⟨h, _⟩; omega)] at o0
      rw [if_neg (by rintro ⟨h, _⟩; omega)] at o1
      rw [if_neg (by rintro ⟨h, _⟩; omega)] at o2
      have := m_shelfLine (t := t) (u := u) (i := i) (f := f) (s := s) (x := x) hq1 hd1 h10
      refine yML_fr (yfL'_up (a := 91) (k := 40) (v := nI (ps.2.2.2.2.2.2.2.2.2.2.2.1 ||| 8)) (yfL'_refl I J) rfl) ?_
      simp only [ybd_bd]
      rw [f_M_readLine, zg_12, w0, zbs, if_pos zf, f_M_readLine_25, w1, zbs, if_pos zf, f_M_readLine_51, w2, zbs, if_pos zf, f_M_readLine_77, o0, zbs, if_pos rfl, o1, zbs, if_pos rfl, o2, zbs, if_pos rfl, o3, zbs, if_neg n1]
      exact this
    · rw [if_neg hb, f_M_readLine, zg_12, w0, zbs, if_pos zf, f_M_readLine_25, w1, zbs, if_pos zf, f_M_readLine_51, w2, zbs, if_pos zf, h77d (fun j hj h => by
        have : j = 3 := by omega
        rw [this] at h
        exact hb h.2)]
      exact m_refL hq hd
  by_cases h11 : (ytok B n ps.1).1 = 11
  · rw [yline1_11 h11]
    rw [decide_eq_false (show ¬ (ytok B n ps.1).1 = 4 + 0 by omega)] at w0
    rw [decide_eq_false (show ¬ (ytok B n ps.1).1 = 4 + 1 by omega)] at w1
    rw [decide_eq_false (show ¬ (ytok B n ps.1).1 = 4 + 2 by omega)] at w2
    by_cases hb : ps.2.2.2.2.2.2.2.2.2.2.2.1.testBit 4 = false
    · rw [if_pos hb]
      rw [if_pos ⟨h11, hb⟩] at o4
      have hq1 : yMq (zup I 91 40 (nI (ps.2.2.2.2.2.2.2.2.2.2.2.1 ||| 16))) J B n ((ps.1, ps.2.1, ps.2.2.1, ps.2.2.2.1, ps.2.2.2.2.1, ps.2.2.2.2.2.1, ps.2.2.2.2.2.2.1, ps.2.2.2.2.2.2.2.1, ps.2.2.2.2.2.2.2.2.1, ps.2.2.2.2.2.2.2.2.2.1, ps.2.2.2.2.2.2.2.2.2.2.1, ps.2.2.2.2.2.2.2.2.2.2.2.1 ||| 16, ps.2.2.2.2.2.2.2.2.2.2.2.2.1, ps.2.2.2.2.2.2.2.2.2.2.2.2.2.1, ps.2.2.2.2.2.2.2.2.2.2.2.2.2.2) : yPs).1 := yMq_fr hq (zup_ne _ _ _ (by decide)) (fun k _ _ => zup_k _ _ (by omega)) rfl
      have hd1 : yMD (zup I 91 40 (nI (ps.2.2.2.2.2.2.2.2.2.2.2.1 ||| 16))) J (ps.1, ps.2.1, ps.2.2.1, ps.2.2.2.1, ps.2.2.2.2.1, ps.2.2.2.2.2.1, ps.2.2.2.2.2.2.1, ps.2.2.2.2.2.2.2.1, ps.2.2.2.2.2.2.2.2.1, ps.2.2.2.2.2.2.2.2.2.1, ps.2.2.2.2.2.2.2.2.2.2.1, ps.2.2.2.2.2.2.2.2.2.2.2.1 ||| 16, ps.2.2.2.2.2.2.2.2.2.2.2.2.1, ps.2.2.2.2.2.2.2.2.2.2.2.2.2.1, ps.2.2.2.2.2.2.2.2.2.2.2.2.2.2) := yMD_once (p := ps.1) hd
      have o4 : f_M_isOnce (zs I J (zPt t u i f s x)) 91 1836019556 16 = some (1, (zs (zup I 91 40 (nI (ps.2.2.2.2.2.2.2.2.2.2.2.1 ||| 16))) J (zPt t u i f s x))) := o4
      rw [if_neg (by rintro ⟨h, _⟩; omega)] at o0
      rw [if_neg (by rintro ⟨h, _⟩; omega)] at o1
      rw [if_neg (by rintro ⟨h, _⟩; omega)] at o2
      rw [if_neg (by rintro ⟨h, _⟩; omega)] at o3
      have := m_moodLine (t := t) (u := u) (i := i) (f := f) (s := s) (x := x) hq1 hd1 h11
      refine yML_fr (yfL'_up (a := 91) (k := 40) (v := nI (ps.2.2.2.2.2.2.2.2.2.2.2.1 ||| 16)) (yfL'_refl I J) rfl) ?_
      simp only [ybd_bd]
      rw [f_M_readLine, zg_12, w0, zbs, if_pos zf, f_M_readLine_25, w1, zbs, if_pos zf, f_M_readLine_51, w2, zbs, if_pos zf, f_M_readLine_77, o0, zbs, if_pos rfl, o1, zbs, if_pos rfl, o2, zbs, if_pos rfl, o3, zbs, if_pos rfl, o4, zbs, if_neg n1]
      exact this
    · rw [if_neg hb, f_M_readLine, zg_12, w0, zbs, if_pos zf, f_M_readLine_25, w1, zbs, if_pos zf, f_M_readLine_51, w2, zbs, if_pos zf, h77d (fun j hj h => by
        have : j = 4 := by omega
        rw [this] at h
        exact hb h.2)]
      exact m_refL hq hd
  rw [yline1_d (by omega)]
  rw [decide_eq_false (show ¬ (ytok B n ps.1).1 = 4 + 0 by omega)] at w0
  rw [decide_eq_false (show ¬ (ytok B n ps.1).1 = 4 + 1 by omega)] at w1
  rw [decide_eq_false (show ¬ (ytok B n ps.1).1 = 4 + 2 by omega)] at w2
  rw [f_M_readLine, zg_12, w0, zbs, if_pos zf, f_M_readLine_25, w1, zbs, if_pos zf, f_M_readLine_51, w2, zbs, if_pos zf, h77d (fun j hj h => by omega)]
  exact m_refL hq hd
theorem m_allLoop : ∀ (d fuel : Nat), d + 1 < fuel → ∀ (I : Nat → Nat → Int32) (J : Nat → Nat → Int64) (ps : yPs), n - ps.1 < d → yMq I J B n ps.1 → yPi n ps → yPz ps → yMD I J ps → match yall (ytok B n) d ps with
    | .error (c, pl) => ∃ I' J', f_M_readAll_72L fuel (zs I J (zPt t u i f s x)) 91 = some (zs I' J' (zPt t u i f s x)) ∧ yEL (zPt t u i f s x) I J (zs I' J' (zPt t u i f s x)) c pl ∧ ¬ I' 91 2 ≤ 0
    | .ok s' => ∃ I' J', f_M_readAll_72L fuel (zs I J (zPt t u i f s x)) 91 = some (zs I' J' (zPt t u i f s x)) ∧ yfL' I J I' J' ∧ yMD I' J' s' ∧ yPz s' := by
  intro d
  induction d with
  | zero => intro fuel _ I J ps h; omega
  | succ d ih =>
    intro fuel hf I J ps hn hq hi hp hd
    obtain ⟨m, rfl⟩ : ∃ m, fuel = m + 1 := ⟨fuel - 1, by omega⟩
    have k2 := hd.1.2.2.2.2.2.2.2.2.1
    have hτ := ytok_To (B := B) hq.2.2
    have hb := yso_lt hτ.1
    have s0 : (I 91 6 = 0) = ((ytok B n ps.1).1 = 0) := by rw [hq.2.1.1, zeq_0 (by omega), yso_0]
    rw [f_M_readAll_72L, f_M_readAll_72, gi_12, zbs, if_pos k2, gi_12, zbs]
    unfold yall
    by_cases h0 : (ytok B n ps.1).1 = 0
    · rw [if_pos h0, if_pos (by rw [s0]; exact h0)]
      exact ⟨I, J, rfl, yfL'_refl I J, hd, hp⟩
    · rw [if_neg h0, if_neg (by rw [s0]; exact h0)]
      have L := m_readLine (t := t) (u := u) (i := i) (f := f) (s := s) (x := x) hq hi hp hd
      cases hx : yline (ytok B n) ps with
      | error cp_ =>
        obtain ⟨c, pl⟩ := cp_
        rw [hx] at L
        obtain ⟨I', J', e1, e2, e3⟩ := L
        obtain ⟨m2, rfl⟩ : ∃ m2, m = m2 + 1 := ⟨m - 1, by omega⟩
        refine ⟨I', J', ?_, e2, e3.2⟩
        rw [e1, zbs, f_M_readAll_72L, f_M_readAll_72, gi_12, zbs, if_neg e3.1]
      | ok s1 =>
        rw [hx] at L
        obtain ⟨I', J', e1, e2, e3, e4⟩ := L
        have hi1 := yline_ok hi hx
        have nx := ih m (by omega) I' J' s1 (by have := hi1.1.1; omega) e3 hi1.1 (yline_pz hi hp hx) e4
        rw [e1, zbs]
        simp only [yRs.bd]
        cases hy : yall (ytok B n) d s1 with
        | error cp_ =>
          obtain ⟨c, pl⟩ := cp_
          rw [hy] at nx
          obtain ⟨I2, J2, g1, g2, g3⟩ := nx
          exact ⟨I2, J2, g1, yEL_fr e2 g2, g3⟩
        | ok s2 =>
          rw [hy] at nx
          obtain ⟨I2, J2, g1, g2, g3, g4⟩ := nx
          exact ⟨I2, J2, g1, yfL'_trans e2 g2, g3, g4⟩
/-- what the reading of a text may leave otherwise -/
def yAF : Nat → Nat → Bool := fun a k => yLF a k || (a == 91 && (k == 1 || k == 5))
theorem m_readAll (hT : yTq I B n) (h1 : I 91 1 = nI n) (hB : yBm I) : match ytext B n with
    | .error (c, pl) => ∃ I' J', f_M_readAll (zs I J (zPt t u i f s x)) 91 = some (zs I' J' (zPt t u i f s x)) ∧ zfr yAF I I' ∧ (∀ a, a ≠ 91 → a ≠ 93 → J' a = J a) ∧ I' 91 1 = 0 ∧ I' 91 2 = nI c ∧ I' 91 3 = nI pl ∧ ¬ I' 91 2 ≤ 0 ∧ yBm I'
    | .ok ps => ∃ I' J', f_M_readAll (zs I J (zPt t u i f s x)) 91 = some (zs I' J' (zPt t u i f s x)) ∧ zfr yAF I I' ∧ (∀ a, a ≠ 91 → a ≠ 93 → J' a = J a) ∧ I' 91 1 = 0 ∧ yMD I' J' ps ∧ yPz ps := by
  have hn := hT.1
  generalize hI1 : zup (zup (zup (zup (zup (zup (zup (zup (zup (zup (zup (zup (zup I 91 5 (nI n)) 91 1 0) 91 4 0) 91 2 0) 91 3 (-1)) 91 34 0) 91 35 0) 91 36 0) 91 37 0) 91 38 5) 91 39 3) 91 40 0) 91 21 0 = I1
  have hr : ∀ a, a ≠ 91 → I1 a = I a := fun a ha => by rw [← hI1]; iterate 13 rw [zup_ne _ _ _ ha]
  have c1 : I1 91 1 = 0 ∧ I1 91 2 = 0 ∧ I1 91 3 = -1 ∧ I1 91 4 = 0 ∧ I1 91 5 = nI n ∧ I1 91 34 = 0 ∧ I1 91 35 = 0 ∧ I1 91 36 = 0 ∧ I1 91 37 = 0 ∧ I1 91 38 = 5 ∧ I1 91 39 = 3 ∧ I1 91 40 = 0 ∧ I1 91 21 = 0 := by rw [← hI1]; simp [zup_at]
  obtain ⟨d1, d2, d3, d4, d5, d34, d35, d36, d37, d38, d39, d40, d21⟩ := c1
  have f0 : zfr yAF I I1 := by
    rw [← hI1]
    iterate 13 refine zfr_up ?_ rfl
    exact zfr_refl _ _
  have hT1 : yTq I1 B n := ⟨hT.1, hT.2.1, fun k hk => by rw [hr 92 (by decide)]; exact hT.2.2 k hk⟩
  obtain ⟨I2, J2, a1, a2, a3⟩ := m_token (I := I1) (J := J) (t := t) (u := u) (i := i) (f := f) (s := s) (x := x) (p := 0) hT1 ⟨d5, d4⟩ (Nat.zero_le _)
  have z : ∀ k, k ≠ 4 → k ≠ 6 → k ≠ 7 → k ≠ 8 → I2 91 k = I1 91 k := fun k g2 g3 g4 g5 => a2.1 91 k (by simp [yTm, g2, g3, g4, g5])
  have hq : yMq I2 J2 B n yps0.1 := ⟨yTq_fm hT1 a2, a3, Nat.zero_le _⟩
  have hd : yMD I2 J2 yps0 := by
    refine ⟨⟨(z 34 (by decide) (by decide) (by decide) (by decide)).trans d34, (z 35 (by decide) (by decide) (by decide) (by decide)).trans d35, (z 36 (by decide) (by decide) (by decide) (by decide)).trans d36, (z 37 (by decide) (by decide) (by decide) (by decide)).trans d37, (z 38 (by decide) (by decide) (by decide) (by decide)).trans d38, (z 39 (by decide) (by decide) (by decide) (by decide)).trans d39, (z 40 (by decide) (by decide) (by decide) (by decide)).trans d40, (z 21 (by decide) (by decide) (by decide) (by decide)).trans d21, (z 2 (by decide) (by decide) (by decide) (by decide)).trans d2, (z 3 (by decide) (by decide) (by decide) (by decide)).trans d3⟩, ⟨fun k hk => absurd hk (Nat.not_lt_zero _), fun k hk => absurd hk (Nat.not_lt_zero _), fun k hk => absurd hk (Nat.not_lt_zero _), fun k hk => absurd hk (Nat.not_lt_zero _)⟩, ⟨(fun M h => by cases h), (fun M h => by cases h)⟩, ⟨(fun k w h => by cases h), (fun k w h => by cases h), (fun k w h => by cases h)⟩, fun f hf => ?_⟩
    rw [zfr_row a2.1 96 (fun _ => rfl), hr 96 (by decide)]
    exact hB f hf
  have L := m_allLoop (t := t) (u := u) (i := i) (f := f) (s := s) (x := x) (B := B) (n := n) (n + 1) zfu (zfu_lt (by omega)) I2 J2 yps0 (by show n - 0 < n + 1; omega) hq yps0_ok ⟨fun _ _ => rfl, fun _ _ => ⟨rfl, rfl⟩⟩ hd
  have hres : f_M_readAll (zs I J (zPt t u i f s x)) 91 = f_M_readAll_72L zfu (zs I2 J2 (zPt t u i f s x)) 91 := by
    rw [f_M_readAll, zg_12, gi_12, zbs, h1, si_12, zbs, si_12, zbs, si_12, zbs, si_12, zbs, si_12, zbs, si_12, zbs, si_12, zbs, si_12, zbs, si_12, zbs, si_12, zbs, si_12, zbs, si_12, zbs, si_12, zbs, hI1, a1, zbs]
  have fA : ∀ I' J', yfL' I2 J2 I' J' → zfr yAF I I' ∧ (∀ a, a ≠ 91 → a ≠ 93 → J' a = J a) ∧ I' 91 1 = 0 := fun I' J' h => ⟨zfr_trans f0 (zfr_trans (zfr_mono a2.1 (fun a k h => by unfold yAF; rw [yTm_LF a k h]; rfl)) (zfr_mono h.1 (fun a k h => by unfold yAF; rw [h]; rfl))), fun a h1 h2 => (h.2 a h1 h2).trans (a2.2 a h1), (h.1 91 1 rfl).trans ((z 1 (by decide) (by decide) (by decide) (by decide)).trans d1)⟩
  rw [hres]
  unfold ytext
  cases hx : yall (ytok B n) (n + 1) yps0 with
  | error cp_ =>
    obtain ⟨c, pl⟩ := cp_
    rw [hx] at L
    obtain ⟨I', J', e1, e2, e3⟩ := L
    obtain ⟨Ia, Ja, g1, g2, g3, g4, g5⟩ := e2
    obtain ⟨rfl, rfl⟩ := zs_inj g1
    have := fA I' J' g2
    exact ⟨I', J', e1, this.1, this.2.1, this.2.2, g3.1, g3.2, e3, g5⟩
  | ok ps =>
    rw [hx] at L
    obtain ⟨I', J', e1, e2, e3, e4⟩ := L
    have := fA I' J' e2
    exact ⟨I', J', e1, this.1, this.2.1, this.2.2, e3, e4⟩
end ZMa
