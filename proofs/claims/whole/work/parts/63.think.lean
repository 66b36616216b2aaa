/-! think -/
theorem zjoint_congs {K K' : Nat → Nat → Int32} {q set nr b : Nat} (h : ∀ r, r < nr → set.testBit r = true → K r b = K' r b) : zjoint K q set nr b = zjoint K' q set nr b := by
  unfold zjoint
  rw [zrn_congr2 (zjt K q set b) (zjt K' q set b) nr (fun r p hr => by
    unfold zjt
    by_cases hs : set.testBit r = true
    · rw [h r hr hs]
    · simp [hs])]
theorem ztu_congs {K K' : Nat → Nat → Int32} {nb nr set : Nat} (hset : set < 2 ^ nr) (hnr : nr ≤ 6) (h0 : set ≠ 0) (h : ∀ r b, r < nr → set.testBit r = true → b < nb → K r b = K' r b) : ∀ (d c : Nat) (ok ok' : Nat → Bool), c < 7 → (∀ b, b < nb → ok b = ok' b) → ztu K nb set d c ok = ztu K' nb set d c ok' := by
  have h64 : set < 64 := z64 hnr hset
  intro d
  induction d with
  | zero => intro c ok ok' _ _; exact (rfl : ([] : List Nat) = [])
  | succ d ih =>
    intro c ok ok' hc hok
    have h1 := znx_in c hc set h64 h0
    have hx : znx set 6 c < nr := by
      by_cases h2 : znx set 6 c < nr
      · exact h2
      · rw [Nat.testBit_lt_two_pow (Nat.lt_of_lt_of_le hset (Nat.pow_le_pow_right (by decide) (by omega)))] at h1
        cases h1
    have e : ztp K nb set c ok = ztp K' nb set c ok' := zbest_congr hok (fun b hb _ => h _ b hx h1 hb)
    have step : ∀ (K : Nat → Nat → Int32) (ok : Nat → Bool), ztu K nb set (d + 1) c ok = match ztp K nb set c ok with
        | none => []
        | some b => b :: ztu K nb set d (ztn set c) (zwo ok b) := fun _ _ => rfl
    rw [step, step, e]
    cases ztp K' nb set c ok' with
    | none => exact (rfl : ([] : List Nat) = [])
    | some b =>
      have hn : ztn set c < 7 := by unfold ztn; omega
      simp only [ih (ztn set c) (zwo ok b) (zwo ok' b) hn (fun b' hb' => by unfold zwo; rw [hok b' hb'])]
theorem zord_congs {K K' : Nat → Nat → Int32} {q nr nb set : Nat} {ok ok' : Nat → Bool} (hset : set < 2 ^ nr) (hnr : nr ≤ 6) (h : ∀ r b, r < nr → set.testBit r = true → b < nb → K r b = K' r b) (hok : ∀ b, b < nb → ok b = ok' b) : zord K q nr nb ok set = zord K' q nr nb ok' set := by
  unfold zord
  by_cases hc : q = 3 ∧ set ≠ 0
  · rw [if_pos hc, if_pos hc]
    exact ztu_congs hset hnr hc.2 h 10 0 ok ok' (by decide) hok
  · rw [if_neg hc, if_neg hc, zsel_congr (v := zjoint K q set nr) (v' := zjoint K' q set nr) (fun b hb => zjoint_congs (fun r hr hs => h r b hr hs hb))]
    exact zgo_congr (n := nb) (fun c ok ok' h => zbest_congr h (fun _ _ _ => rfl)) 10 0 ok ok' hok
theorem zrI_succ : ∀ k, zrI k + 1 = zrI (k + 1) := by
  intro k
  unfold zrI
  cases k with
  | zero => decide
  | succ k =>
    rw [if_neg (by omega), if_neg (by omega)]
    exact nI_1 k
theorem zrI_pos (k : Nat) : zrI (k + 1) = nI k := by
  unfold zrI
  rw [if_neg (by omega)]
  rfl
theorem zrI_le {n k : Nat} (hn : n < 2 ^ 31) (hk : k < 2 ^ 31) : (nI n ≤ zrI k) = (n + 1 ≤ k) := by
  cases k with
  | zero =>
    have : ¬ nI n ≤ zrI 0 := by
      unfold zrI
      rw [if_pos rfl, Int32.le_iff_toInt_le, nI_toInt hn, zm1]
      omega
    exact propext ⟨fun h => absurd h this, fun h => by omega⟩
  | succ k =>
    rw [zrI_pos, zle_nI hn (by omega)]
    exact propext ⟨fun h => by omega, fun h => by omega⟩
def ztx (P : Nat → Nat) (k : Nat) (q : Nat × Nat) : Nat × Nat := if P k < q.2 then (k, P k) else q
def zthm (P : Nat → Nat) (sh k : Nat) (q : Nat × Nat) : Nat × Nat := if zst sh (P k) < q.2 then (k, zst sh (P k)) else q
theorem zthink_rel (P : Nat → Nat) (sh n : Nat) (hP : ∀ k, k < n → P k < 10) : ∀ d, d ≤ n → (d = 0 ∧ zrn (ztx P) d 0 (0, 10) = (0, 10) ∧ zrn (zthm P sh) d 0 (0, 1000000) = (0, 1000000)) ∨
    ∃ c p, c < d ∧ p < 10 ∧ zrn (ztx P) d 0 (0, 10) = (c, p) ∧ zrn (zthm P sh) d 0 (0, 1000000) = (c, zst sh p) := by
  intro d
  induction d with
  | zero => intro _; exact Or.inl ⟨rfl, rfl, rfl⟩
  | succ d ih =>
    intro hd
    right
    have hp := hP (0 + d) (by omega)
    have hs := zst_lt (sh := sh) hp
    rw [zrn_succ, zrn_succ]
    rcases ih (by omega) with ⟨h0, h1, h2⟩ | ⟨c, p, hc, hp2, h1, h2⟩
    · rw [h1, h2]
      refine ⟨0 + d, P (0 + d), by omega, hp, ?_, ?_⟩
      · unfold ztx
        rw [if_pos hp]
      · unfold zthm
        rw [if_pos (show zst sh (P (0 + d)) < 1000000 by omega)]
    · rw [h1, h2]
      unfold ztx zthm
      by_cases hlt : P (0 + d) < p
      · have := zst_mono (sh := sh) hlt
        refine ⟨0 + d, P (0 + d), by omega, hp, ?_, ?_⟩
        · rw [if_pos hlt]
        · rw [if_pos this]
      · have : ¬ zst sh (P (0 + d)) < zst sh p := by
          rcases Nat.lt_or_eq_of_le (Nat.not_lt.mp hlt) with h | h
          · have := zst_mono (sh := sh) h
            omega
          · rw [← h]; omega
        refine ⟨c, p, by omega, hp2, ?_, ?_⟩
        · rw [if_neg hlt]
        · rw [if_neg this]
section ZTh
variable {I : Nat → Nat → Int32} {J : Nat → Nat → Int64} {t u i f s x : Nat} {nt nb nr q sh md om im : Nat} {LW BW : List Int32}
theorem zbridge_md (hC : zCo I t nt nb nr q sh md om im LW BW) {r b : Nat} (hr : r < nr) (hb : b < nb) (w : Int32) : zkx I t nt LW (fun k => I 31 (4 * r + k) + (if nI k = w then I t 5 else 0)) (I 33 (10 * r + b)) r b = zkm I nt LW (zhd I r w) r b := by
  obtain ⟨ht, hT, hN, hB, ho, hi, -, -⟩ := hC
  obtain ⟨hM, hX, hq, hsh, hmd, hun, hw, hou, hod, hbd⟩ := hT
  have hnb := hM.2.1.2
  have hnr := hM.2.2.1.2
  have hnt := hM.1.2
  unfold zkx zkm
  have w1 : ∀ k, k < nt → I (t + 1) (4 * b + k) = I 107 (4 * b + k) := fun k hk => hw b k hb hk
  rw [hN.2.2.2.2 (10 * r + b) (by omega), zsm_congr (n := nt) (h' := zhd I r w) (w' := fun k => I 107 (4 * b + k)) (fun k hk => by
    show I 31 (4 * r + k) + _ = zhd I r w k
    unfold zhd
    rw [hN.1 (4 * r + k) (by omega), hmd.1, hmd.2.1]) w1, zsm_congr (n := nt) (h' := fun k => I 109 (4 * r + k)) (w' := fun k => I 107 (4 * b + k)) (fun k hk => hou r k hr hk) w1, Nat.add_assoc]
/-- his order alone, in mood w -/
def zLt (I : Nat → Nat → Int32) (nt nb nr q om : Nat) (LW : List Int32) (r : Nat) (w : Int32) : List Nat := zord (fun _ b => zkm I nt LW (zhd I r w) r b) q nr nb (zokO om) (2 ^ r)
theorem z2r {r nr : Nat} (h : r < nr) : 2 ^ r < 2 ^ nr := Nat.pow_lt_pow_right (by decide) h
theorem ztb_2 {r r' : Nat} (h : (2 ^ r).testBit r' = true) : r' = r := by
  rw [Nat.testBit_two_pow] at h
  exact (of_decide_eq_true h).symm
theorem zLt_Od (hnb : nb ≤ 10) (r : Nat) (w : Int32) : zOd (zLt I nt nb nr q om LW r w) (zokO om) nb := zord_Od hnb
theorem zLt_has (hnb : nb ≤ 10) {b : Nat} (hb : b < nb) (hob : om.testBit b = false) (r : Nat) (w : Int32) : ∃ k : Nat, (zLt I nt nb nr q om LW r w)[k]? = some b ∧ zps (zLt I nt nb nr q om LW r w) b = k ∧ k < 10 := by
  have hO := zLt_Od (I := I) (nt := nt) (nr := nr) (q := q) (om := om) (LW := LW) hnb r w
  obtain ⟨k, hk⟩ := List.getElem?_of_mem ((hO.2.2 b).mpr ⟨hb, by simp [zokO, hob]⟩)
  have h1 := (List.getElem?_eq_some_iff.mp hk).1
  have h2 := zct_le (zokO om) nb
  rw [hO.2.1] at h1
  exact ⟨k, hk, zps_at hO.1 hk, by omega⟩
theorem x_thinkL (hC : zCo I t nt nb nr q sh md om im LW BW) {r b : Nat} (hr : r < nr) (hb : b < nb) (hob : om.testBit b = false) (w : Int32) {I1 : Nat → Nat → Int32} (hf1 : zfr zSg I I1) (hS : zSh I1 t nb nr q (zhm nb om)) :
    ∃ I2, zfr zSg I I2 ∧ f_W_think_53L zfu (zs I1 J (zPt t u i f t x)) 0 (nI r) (nI b) w (-1) 10 (-1) = f_W_think_113 (zs I2 J (zPt t u i f t x)) 0 w (zrI (zrn (ztx (fun k => zps (zLt I nt nb nr q om LW r (zrI k)) b)) (nt + 1) 0 (0, 10)).1) (nI (zrn (ztx (fun k => zps (zLt I nt nb nr q om LW r (zrI k)) b)) (nt + 1) 0 (0, 10)).2) := by
  have ht := hC.1
  have hnb := hS.2.1
  have hnr := hS.2.2.2.1
  have hnt := hC.2.1.1.1.2
  obtain ⟨Q, ⟨h1, -, h2, -⟩, h3⟩ := zfor (fun fuel (q : (Nat → Nat → Int32) × (Nat × Nat)) k => f_W_think_53L fuel (zs q.1 J (zPt t u i f t x)) 0 (nI r) (nI b) w (zrI q.2.1) (nI q.2.2) (zrI k)) (nt + 1)
    (fun k q' => zfr zSg I q'.1 ∧ zSh q'.1 t nb nr q (zhm nb om) ∧ q'.2 = zrn (ztx (fun k => zps (zLt I nt nb nr q om LW r (zrI k)) b)) k 0 (0, 10) ∧ q'.2.2 ≤ 10)
    (fun q => f_W_think_113 (zs q.1 J (zPt t u i f t x)) 0 w (zrI q.2.1) (nI q.2.2))
    (fun m k Q hk hi => by
      obtain ⟨I3, c, bp⟩ := Q
      obtain ⟨h1, hS3, h2, h4⟩ := hi
      dsimp only at h1 hS3 h2 h4
      have hC3 := zCo_fr hC h1
      obtain ⟨I4, a1, a2, a3, -⟩ := g_S_weigh (N := 30) (J := J) (t := t) (u := u) (i := i) (f := f) (x := x) ht (Or.inl rfl) hC3.2.1.2.1 hC3.2.2.2.2.2.2.1 hC3.2.2.2.2.2.2.2 (show r < 6 by omega) (zrI k)
      have hS4 : zSh I4 t nb nr q (zhm nb om) := by
        unfold zSh
        rw [zKs_row ht a2 t (by omega) (by omega) (by omega), zKs_row ht a2 47 (by decide) (by decide) (by omega)]
        exact hS3
      have f4 : zfr zSg I I4 := zfr_trans h1 (zfr_g a2 (zSg_ks ht))
      obtain ⟨I5, p, c1, c2, c3⟩ := g_S_placeFor (J := J) (t := t) (u := u) (i := i) (f := f) (x := x) ht hS4 (z2r hr) hb (by rw [zhm_ok hnb hb]; simp [zokO, hob])
      have hord : zord (zKx I4) q nr nb (fun b => (zhm nb om).testBit b) (2 ^ r) = zLt I nt nb nr q om LW r (zrI k) := zord_congs (z2r hr) hnr (fun r' b' _ hs hb' => by
        have := ztb_2 hs
        subst this
        show I4 48 (10 * r' + b') = zkm I nt LW (zhd I r' (zrI k)) r' b'
        rw [a3 b' hb']
        have := zbridge_md hC3 hr hb' (zrI k)
        simp only [Nat.reduceAdd]
        rw [this]
        unfold zkm zhd
        rw [zfr_row h1 107 (fun _ => rfl), zfr_row h1 109 (fun _ => rfl), zfr_row h1 111 (fun _ => rfl), h1 91 46 rfl]) (fun b hb => zhm_ok hnb hb)
      rw [hord] at c3
      have hp : zps (zLt I nt nb nr q om LW r (zrI k)) b = p := zps_at (zLt_Od hnb r (zrI k)).1 c3
      have hp10 : p < 10 := by
        obtain ⟨k', -, e, h⟩ := zLt_has (I := I) (nt := nt) (nr := nr) (q := q) (LW := LW) hnb hb hob r (zrI k)
        omega
      have hle : ¬ nt + 1 ≤ k := by omega
      have e1 : (nI nt ≤ zrI k) = (nt + 1 ≤ k) := zrI_le (by omega) (by omega)
      have m0 : I3 t 0 = nI nt := hC3.2.1.2.1.1.1
      refine ⟨(I5, ztx (fun k => zps (zLt I nt nb nr q om LW r (zrI k)) b) k (c, bp)), ⟨zfr_trans f4 (zfr_g c2 zSg_xls), zSh_ls ht hS4 c2, ?_, ?_⟩, ?_⟩
      · show _ = zrn _ (k + 1) 0 (0, 10)
        rw [zrn_succ, ← h2, Nat.zero_add]
      · dsimp only [ztx]
        simp only [hp]
        split
        · exact Nat.le_of_lt hp10
        · exact h4
      · show f_W_think_53L (m + 1) _ _ _ _ _ _ _ _ = _
        rw [f_W_think_53L]
        unfold ztx
        simp only [hp]
        by_cases hlt : p < bp
        · have hlt2 : ¬ bp ≤ p := by omega
          simp (disch := (first | omega | assumption)) only [f_W_think_53, gi_10, gp_11_2, gp_11_9, gp_11_5, zbs, nI_add, pk_mul, znI_add1, znI_sub1, znI_subm, zle_nI, zlt_nI, zeq_nI, zle_0, zeq_0, zlt_0, zeq_m, zeq_1, zge_0, zbt0, zbt1, zB_0, zB_1, zB_b, zbool_0, zbool_1, ↓reduceIte, m0, e1, hle, a1, zshl1 r (by omega), c1, hlt, hlt2, zrI_succ]
        · have hlt2 : bp ≤ p := by omega
          simp (disch := (first | omega | assumption)) only [f_W_think_53, gi_10, gp_11_2, gp_11_9, gp_11_5, zbs, nI_add, pk_mul, znI_add1, znI_sub1, znI_subm, zle_nI, zlt_nI, zeq_nI, zle_0, zeq_0, zlt_0, zeq_m, zeq_1, zge_0, zbt0, zbt1, zB_0, zB_1, zB_b, zbool_0, zbool_1, ↓reduceIte, m0, e1, hle, a1, zshl1 r (by omega), c1, hlt, hlt2, zrI_succ])
    (fun m Q hi => by
      have hC3 := zCo_fr hC hi.1
      have m0 : Q.1 t 0 = nI nt := hC3.2.1.2.1.1.1
      have e1 : (nI nt ≤ zrI (nt + 1)) = (nt + 1 ≤ nt + 1) := zrI_le (by omega) (by omega)
      show f_W_think_53L (m + 1) _ _ _ _ _ _ _ _ = _
      rw [f_W_think_53L]
      simp (disch := (first | omega | assumption)) only [f_W_think_53, gi_10, gp_11_2, gp_11_9, gp_11_5, zbs, nI_add, pk_mul, znI_add1, znI_sub1, znI_subm, zle_nI, zlt_nI, zeq_nI, zle_0, zeq_0, zlt_0, zeq_m, zeq_1, zge_0, zbt0, zbt1, zB_0, zB_1, zB_b, zbool_0, zbool_1, ↓reduceIte, m0, e1, Nat.le_refl]) (nt + 1) 0 (I1, (0, 10)) zfu (by omega) ⟨hf1, hS, rfl, Nat.le_refl _⟩ (zfu_lt (by omega))
  refine ⟨Q.1, h1, ?_⟩
  rw [← h2]
  exact h3
theorem m_thinkL (hC : zCo I t nt nb nr q sh md om im LW BW) {r b : Nat} (hr : r < nr) (hb : b < nb) (hob : om.testBit b = false) (w : Int32) {I1 : Nat → Nat → Int32} (hf1 : zfr zSg I I1) :
    ∃ I2, zfr zSg I I2 ∧ f_M_think_47L zfu (zs I1 J (zPt t u i f s x)) 91 (nI r) (nI b) w (-1) 1000000 (-1) = f_M_think_111 (zs I2 J (zPt t u i f s x)) w (zrI (zrn (zthm (fun k => zps (zLt I nt nb nr q om LW r (zrI k)) b) sh) (nt + 1) 0 (0, 1000000)).1) (nI (zrn (zthm (fun k => zps (zLt I nt nb nr q om LW r (zrI k)) b) sh) (nt + 1) 0 (0, 1000000)).2) := by
  have hnb := hC.2.1.1.2.1.2
  have hnr := hC.2.1.1.2.2.1.2
  have hnt := hC.2.1.1.1.2
  have hsh := hC.2.1.2.2.2.1
  obtain ⟨Q, ⟨h1, h2, -⟩, h3⟩ := zfor (fun fuel (q : (Nat → Nat → Int32) × (Nat × Nat)) k => f_M_think_47L fuel (zs q.1 J (zPt t u i f s x)) 91 (nI r) (nI b) w (zrI q.2.1) (nI q.2.2) (zrI k)) (nt + 1)
    (fun k q' => zfr zSg I q'.1 ∧ q'.2 = zrn (zthm (fun k => zps (zLt I nt nb nr q om LW r (zrI k)) b) sh) k 0 (0, 1000000) ∧ q'.2.2 ≤ 1000000)
    (fun q => f_M_think_111 (zs q.1 J (zPt t u i f s x)) w (zrI q.2.1) (nI q.2.2))
    (fun m k Q hk hi => by
      obtain ⟨I3, c, bp⟩ := Q
      obtain ⟨h1, h2, h4⟩ := hi
      dsimp only at h1 h2 h4
      have hC3 := zCo_fr hC h1
      obtain ⟨I4, a1, a2, a3⟩ := g_M_layHand (I := I3) (J := J) (t := t) (u := u) (i := i) (f := f) (s := s) (x := x) (show r < 6 by omega) (zrI k)
      have f4 : zfr zSg I3 I4 := zfr_gl a2 (fun a ha k => by simp at ha; subst ha; rfl)
      have hC4 := zCo_fr hC3 f4
      obtain ⟨I5, b1, b2, b3, -⟩ := g_M_layKeys (J := J) (t := t) (u := u) (i := i) (f := f) (s := s) (x := x) hC4.2.1.1 (show r < 6 by omega)
      have f5 : zfr zSg I4 I5 := zfr_gl b2 (fun a ha k => by
        simp at ha
        rcases ha with rfl | rfl | rfl <;> rfl)
      have hC5 := zCo_fr hC4 f5
      obtain ⟨hM5, -, hq5, -⟩ := hC5.2.1
      obtain ⟨I6, c1, c2, c3⟩ := g_M_layOrder (J := J) (t := t) (u := u) (i := i) (f := f) (s := s) (x := x) hM5.2.1.1 hnb hC5.2.2.2.2.1.1 (z2n hnb hC5.2.2.2.2.1.2) hM5.2.2.1.1 hnr hq5.1 hq5.2.2 (z64 hnr (z2r hr))
      have hord : zord (zKm I5) q nr nb (zokO om) (2 ^ r) = zLt I nt nb nr q om LW r (zrI k) := zord_congs (z2r hr) hnr (fun r' b' _ hs hb' => by
        have := ztb_2 hs
        subst this
        show I5 113 (10 * r' + b') = zkm I nt LW (zhd I r' (zrI k)) r' b'
        rw [b3 b' hb', zkm_hand hnt a3]
        unfold zkm zhd
        rw [zfr_row f4 107 (fun _ => rfl), zfr_row f4 109 (fun _ => rfl), zfr_row f4 111 (fun _ => rfl), zfr_row h1 107 (fun _ => rfl), zfr_row h1 109 (fun _ => rfl), zfr_row h1 111 (fun _ => rfl), h1 91 46 rfl]) (fun b hb => rfl)
      rw [hord] at c3
      obtain ⟨p, hp1, hp, hp10⟩ := zLt_has (I := I) (nt := nt) (nr := nr) (q := q) (LW := LW) hnb hb hob r (zrI k)
      have e := (c3.2.1 p b hp1).2
      have f6 : zfr zSg I5 I6 := zfr_g c2 zSg_ls
      have hC6 := zCo_fr hC5 f6
      have y6 := g_M_stepsTo (p := p) (J := J) (t := t) (u := u) (i := i) (f := f) (s := s) (x := x) hC6.2.1.2.2.2.1.1 hsh.2.2.1 hsh.2.2.2 (by omega)
      have e2 : p + 1 + 2 * (p / sh) = zst sh p := rfl
      have hst := zst_lt (sh := sh) hp10
      have hle : ¬ nt + 1 ≤ k := by omega
      have e1 : (nI nt ≤ zrI k) = (nt + 1 ≤ k) := zrI_le (by omega) (by omega)
      have m0 : I3 91 41 = nI nt := hC3.2.1.1.1.1
      refine ⟨(I6, zthm (fun k => zps (zLt I nt nb nr q om LW r (zrI k)) b) sh k (c, bp)), ⟨zfr_trans h1 (zfr_trans f4 (zfr_trans f5 f6)), ?_, ?_⟩, ?_⟩
      · show _ = zrn _ (k + 1) 0 (0, 1000000)
        rw [zrn_succ, ← h2, Nat.zero_add]
      · dsimp only [zthm]
        simp only [hp]
        split
        · show zst sh p ≤ 1000000
          omega
        · exact h4
      · show f_M_think_47L (m + 1) _ _ _ _ _ _ _ _ = _
        rw [f_M_think_47L]
        unfold zthm
        simp only [hp]
        by_cases hlt : zst sh p < bp
        · simp (disch := (first | omega | assumption)) only [f_M_think_47, gi_12, gp_12_53, ai_115, zbs, nI_add, pk_mul, znI_add1, znI_sub1, znI_subm, zle_nI, zlt_nI, zeq_nI, zle_0, zeq_0, zlt_0, zeq_m, zeq_1, zge_0, zbt0, zbt1, zB_0, zB_1, zB_b, zbool_0, zbool_1, ↓reduceIte, m0, e1, hle, a1, b1, zshl1 r (by omega), c1, e, y6, e2, hlt, zrI_succ]
        · simp (disch := (first | omega | assumption)) only [f_M_think_47, gi_12, gp_12_53, ai_115, zbs, nI_add, pk_mul, znI_add1, znI_sub1, znI_subm, zle_nI, zlt_nI, zeq_nI, zle_0, zeq_0, zlt_0, zeq_m, zeq_1, zge_0, zbt0, zbt1, zB_0, zB_1, zB_b, zbool_0, zbool_1, ↓reduceIte, m0, e1, hle, a1, b1, zshl1 r (by omega), c1, e, y6, e2, hlt, zrI_succ])
    (fun m Q hi => by
      have hC3 := zCo_fr hC hi.1
      have m0 : Q.1 91 41 = nI nt := hC3.2.1.1.1.1
      have e1 : (nI nt ≤ zrI (nt + 1)) = (nt + 1 ≤ nt + 1) := zrI_le (by omega) (by omega)
      show f_M_think_47L (m + 1) _ _ _ _ _ _ _ _ = _
      rw [f_M_think_47L]
      simp (disch := (first | omega | assumption)) only [f_M_think_47, gi_12, gp_12_53, ai_115, zbs, nI_add, pk_mul, znI_add1, znI_sub1, znI_subm, zle_nI, zlt_nI, zeq_nI, zle_0, zeq_0, zlt_0, zeq_m, zeq_1, zge_0, zbt0, zbt1, zB_0, zB_1, zB_b, zbool_0, zbool_1, ↓reduceIte, m0, e1, Nat.le_refl]) (nt + 1) 0 (I1, (0, 1000000)) zfu (by omega) ⟨hf1, rfl, Nat.le_refl _⟩ (zfu_lt (by omega))
  refine ⟨Q.1, h1, ?_⟩
  rw [← h2]
  exact h3
theorem q_think (hC : zCo I t nt nb nr q sh md om im LW BW) (r b w : Int32) : zOK2 I J t u i f s x (fun σ => f_W_think σ 0 r b w) (fun σ => f_M_think σ 91 r b w) := by
  have hC2 := hC
  obtain ⟨ht, ⟨hM, hX, -, hsh, -⟩, hN, -, ho, him, -⟩ := hC
  have hnb := hM.2.1.2
  have hnr := hM.2.2.1.2
  have hom := z2n hnb ho.2
  have h4 : I 30 4 = nI om := hN.2.2.2.1.trans ho.1
  have x1 := g_W_isReader (J := J) (t := t) (u := u) (i := i) (f := f) (s := s) (x := x) ht hX.2.2.1.1 r
  have m1 := g_M_isReader (J := J) (t := t) (u := u) (i := i) (f := f) (s := s) (x := x) hM.2.2.1.1 hM.2.2.1.2 r
  have m2 := g_M_isBook (J := J) (t := t) (u := u) (i := i) (f := f) (s := s) (x := x) hM.2.1.1 hM.2.1.2 b
  have n10 : ¬ (1 : Int32) = 0 := by decide
  rcases zlt_cases r (n := nr) (by omega) with ⟨hr, r, hrn, rfl⟩ | hr
  · rw [hr] at x1 m1
    rcases zlt_cases b (n := nb) (by omega) with ⟨hb, b, hbn, rfl⟩ | hb
    · rw [hb] at m2
      have x2 := g_W_isHere1 (J := J) (t := t) (u := u) (i := i) (f := f) (s := s) (x := x) ht hX.2.1.1 hnb h4 hom hbn
      have m3 := g_M_isOut (J := J) (t := t) (u := u) (i := i) (f := f) (s := s) (x := x) ho.1 hom (show b < 10 by omega)
      cases hob : om.testBit b with
      | true =>
        rw [hob] at x2 m3
        refine ⟨-2, I, J, s, I, J, ?_, ?_, zfr_refl _ _, Or.inl rfl⟩
        · show f_W_think _ 0 _ _ _ = _
          simp (disch := (first | omega | assumption)) only [f_W_think, zg_11, zbs, nI_add, pk_mul, znI_add1, znI_sub1, znI_subm, zle_nI, zlt_nI, zeq_nI, zle_0, zeq_0, zlt_0, zeq_m, zeq_1, zge_0, zbt0, zbt1, zB_0, zB_1, zB_b, zbool_0, zbool_1, ↓reduceIte, x1, x2, Bool.not_true, Bool.true_eq_false]
        · show f_M_think _ 91 _ _ _ = _
          simp (disch := (first | omega | assumption)) only [f_M_think, zg_12, zbs, nI_add, pk_mul, znI_add1, znI_sub1, znI_subm, zle_nI, zlt_nI, zeq_nI, zle_0, zeq_0, zlt_0, zeq_m, zeq_1, zge_0, zbt0, zbt1, zB_0, zB_1, zB_b, zbool_0, zbool_1, ↓reduceIte, m1, m2, m3, Bool.true_eq_false]
      | false =>
        rw [hob] at x2 m3
        rcases z01 w with ⟨hw, hw2⟩ | ⟨hw, hw0, hw1⟩
        · obtain ⟨I1, a1, a2, -, a4, a3⟩ := q_open (J := J) (t := t) (u := u) (i := i) (f := f) (s := s) (x := x) hC2
          obtain ⟨I2, f2, c1⟩ := x_thinkL (J := J) (t := t) (u := u) (i := i) (f := f) (x := x) hC2 hrn hbn hob w a2 a4
          have hC3 := zCo_fr hC2 f2
          obtain ⟨I4, f4, d1⟩ := m_thinkL (J := J) (t := t) (u := u) (i := i) (f := f) (s := t) (x := x) hC2 hrn hbn hob w f2
          rcases zthink_rel (fun k => zps (zLt I nt nb nr q om LW r (zrI k)) b) sh (nt + 1) (fun k _ => by
            obtain ⟨k', -, e, h⟩ := zLt_has (I := I) (nt := nt) (nr := nr) (q := q) (LW := LW) hnb hbn hob r (zrI k)
            omega) (nt + 1) (Nat.le_refl _) with ⟨h0, -⟩ | ⟨c, p, hc, hp, r1, r2⟩
          · omega
          · rw [r1] at c1
            rw [r2] at d1
            dsimp only at c1 d1
            have m1' := g_M_isReader (J := J) (t := t) (u := u) (i := i) (f := f) (s := t) (x := x) hC3.2.1.1.2.2.1.1 hnr (nI r)
            have m2' := g_M_isBook (J := J) (t := t) (u := u) (i := i) (f := f) (s := t) (x := x) hC3.2.1.1.2.1.1 hnb (nI b)
            have m3' := g_M_isOut (J := J) (t := t) (u := u) (i := i) (f := f) (s := t) (x := x) hC3.2.2.2.2.1.1 hom (show b < 10 by omega)
            have m4' := g_M_isIn1 w
            rw [hr] at m1'
            rw [hb] at m2'
            rw [hob] at m3'
            rw [hw] at m4'
            have x6 := g_D_stepsTo (p := p) (J := J) (t := t) (u := u) (i := i) (f := f) (s := t) (x := x) ht hC3.2.1.2.2.2.1.2.1 hsh.2.2.1 hsh.2.2.2 (by omega)
            have e2 : p + 1 + 2 * (p / sh) = zst sh p := rfl
            rw [e2] at x6
            have hx : ∃ v, f_W_think_113 (zs I2 J (zPt t u i f t x)) 0 w (zrI c) (nI p) = some (v, (zs I2 J (zPt t u i f t x))) ∧ f_M_think_111 (zs I4 J (zPt t u i f t x)) w (zrI c) (nI (zst sh p)) = some (v, (zs I4 J (zPt t u i f t x))) := by
              rcases hw2 with rfl | rfl
              · refine ⟨nI (zst sh p), ?_, ?_⟩
                · simp (disch := (first | omega | assumption)) only [f_W_think_113, gp_11_2, zbs, nI_add, pk_mul, znI_add1, znI_sub1, znI_subm, zle_nI, zlt_nI, zeq_nI, zle_0, zeq_0, zlt_0, zeq_m, zeq_1, zge_0, zbt0, zbt1, zB_0, zB_1, zB_b, zbool_0, zbool_1, ↓reduceIte, x6]
                · simp (disch := (first | omega | assumption)) only [f_M_think_111, zbs, nI_add, pk_mul, znI_add1, znI_sub1, znI_subm, zle_nI, zlt_nI, zeq_nI, zle_0, zeq_0, zlt_0, zeq_m, zeq_1, zge_0, zbt0, zbt1, zB_0, zB_1, zB_b, zbool_0, zbool_1, ↓reduceIte]
              · refine ⟨zrI c, ?_, ?_⟩
                · simp (disch := (first | omega | assumption)) only [f_W_think_113, gp_11_2, zbs, nI_add, pk_mul, znI_add1, znI_sub1, znI_subm, zle_nI, zlt_nI, zeq_nI, zle_0, zeq_0, zlt_0, zeq_m, zeq_1, zge_0, zbt0, zbt1, zB_0, zB_1, zB_b, zbool_0, zbool_1, ↓reduceIte, n10]
                · simp (disch := (first | omega | assumption)) only [f_M_think_111, zbs, nI_add, pk_mul, znI_add1, znI_sub1, znI_subm, zle_nI, zlt_nI, zeq_nI, zle_0, zeq_0, zlt_0, zeq_m, zeq_1, zge_0, zbt0, zbt1, zB_0, zB_1, zB_b, zbool_0, zbool_1, ↓reduceIte, n10]
            obtain ⟨v, v1, v2⟩ := hx
            refine ⟨v, I2, J, t, I4, J, ?_, ?_, f4, Or.inr rfl⟩
            · show f_W_think _ 0 _ _ _ = _
              rcases hw2 with rfl | rfl
              · simp (disch := (first | omega | assumption)) only [f_W_think, f_W_think_28, zg_11, gp_11_9, gp_11_2, gp_11_5, zbs, nI_add, pk_mul, znI_add1, znI_sub1, znI_subm, zle_nI, zlt_nI, zeq_nI, zle_0, zeq_0, zlt_0, zeq_m, zeq_1, zge_0, zbt0, zbt1, zB_0, zB_1, zB_b, zbool_0, zbool_1, ↓reduceIte, x1, x2, a1, Bool.true_eq_false, Bool.not_false]
                exact c1.trans v1
              · simp (disch := (first | omega | assumption)) only [f_W_think, f_W_think_28, zg_11, gp_11_9, gp_11_2, gp_11_5, zbs, nI_add, pk_mul, znI_add1, znI_sub1, znI_subm, zle_nI, zlt_nI, zeq_nI, zle_0, zeq_0, zlt_0, zeq_m, zeq_1, zge_0, zbt0, zbt1, zB_0, zB_1, zB_b, zbool_0, zbool_1, ↓reduceIte, x1, x2, a1, n10, Bool.true_eq_false, Bool.not_false]
                exact c1.trans v1
            · show f_M_think _ 91 _ _ _ = _
              simp (disch := (first | omega | assumption)) only [f_M_think, zg_12, zbs, nI_add, pk_mul, znI_add1, znI_sub1, znI_subm, zle_nI, zlt_nI, zeq_nI, zle_0, zeq_0, zlt_0, zeq_m, zeq_1, zge_0, zbt0, zbt1, zB_0, zB_1, zB_b, zbool_0, zbool_1, ↓reduceIte, m1', m2', m3', m4', Bool.true_eq_false]
              exact d1.trans v2
        · have m4 := g_M_isIn1 w
          rw [hw] at m4
          refine ⟨-2, I, J, s, I, J, ?_, ?_, zfr_refl _ _, Or.inl rfl⟩
          · show f_W_think _ 0 _ _ _ = _
            simp (disch := (first | omega | assumption)) only [f_W_think, zg_11, zbs, nI_add, pk_mul, znI_add1, znI_sub1, znI_subm, zle_nI, zlt_nI, zeq_nI, zle_0, zeq_0, zlt_0, zeq_m, zeq_1, zge_0, zbt0, zbt1, zB_0, zB_1, zB_b, zbool_0, zbool_1, ↓reduceIte, x1, x2, hw0, hw1, Bool.true_eq_false, Bool.not_false]
          · show f_M_think _ 91 _ _ _ = _
            simp (disch := (first | omega | assumption)) only [f_M_think, zg_12, zbs, nI_add, pk_mul, znI_add1, znI_sub1, znI_subm, zle_nI, zlt_nI, zeq_nI, zle_0, zeq_0, zlt_0, zeq_m, zeq_1, zge_0, zbt0, zbt1, zB_0, zB_1, zB_b, zbool_0, zbool_1, ↓reduceIte, m1, m2, m3, m4, Bool.true_eq_false]
    · rw [hb] at m2
      have x2 := g_W_isHere0 (J := J) (t := t) (u := u) (i := i) (f := f) (s := s) (x := x) ht hX.2.1.1 hb
      refine ⟨-2, I, J, s, I, J, ?_, ?_, zfr_refl _ _, Or.inl rfl⟩
      · show f_W_think _ 0 _ _ _ = _
        simp (disch := (first | omega | assumption)) only [f_W_think, zg_11, zbs, nI_add, pk_mul, znI_add1, znI_sub1, znI_subm, zle_nI, zlt_nI, zeq_nI, zle_0, zeq_0, zlt_0, zeq_m, zeq_1, zge_0, zbt0, zbt1, zB_0, zB_1, zB_b, zbool_0, zbool_1, ↓reduceIte, x1, x2, Bool.true_eq_false]
      · show f_M_think _ 91 _ _ _ = _
        simp (disch := (first | omega | assumption)) only [f_M_think, zg_12, zbs, nI_add, pk_mul, znI_add1, znI_sub1, znI_subm, zle_nI, zlt_nI, zeq_nI, zle_0, zeq_0, zlt_0, zeq_m, zeq_1, zge_0, zbt0, zbt1, zB_0, zB_1, zB_b, zbool_0, zbool_1, ↓reduceIte, m1, m2, Bool.true_eq_false]
  · rw [hr] at x1 m1
    refine ⟨-2, I, J, s, I, J, ?_, ?_, zfr_refl _ _, Or.inl rfl⟩
    · show f_W_think _ 0 _ _ _ = _
      simp (disch := (first | omega | assumption)) only [f_W_think, zg_11, zbs, nI_add, pk_mul, znI_add1, znI_sub1, znI_subm, zle_nI, zlt_nI, zeq_nI, zle_0, zeq_0, zlt_0, zeq_m, zeq_1, zge_0, zbt0, zbt1, zB_0, zB_1, zB_b, zbool_0, zbool_1, ↓reduceIte, x1]
    · show f_M_think _ 91 _ _ _ = _
      simp (disch := (first | omega | assumption)) only [f_M_think, zg_12, zbs, nI_add, pk_mul, znI_add1, znI_sub1, znI_subm, zle_nI, zlt_nI, zeq_nI, zle_0, zeq_0, zlt_0, zeq_m, zeq_1, zge_0, zbt0, zbt1, zB_0, zB_1, zB_b, zbool_0, zbool_1, ↓reduceIte, m1]
end ZTh
