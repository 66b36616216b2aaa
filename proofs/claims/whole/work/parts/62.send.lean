/-! send -/
theorem zrn_rel {A B : Type} (f : Nat → A → A) (g : Nat → B → B) (n : Nat) (R : Nat → A → B → Prop) (h : ∀ k a b, k < n → R k a b → R (k + 1) (f k a) (g k b)) : ∀ (d k : Nat) (a : A) (b : B), k + d ≤ n → R k a b → R (k + d) (zrn f d k a) (zrn g d k b) := by
  intro d
  induction d with
  | zero => intro k a b _ hi; exact hi
  | succ d ih =>
    intro k a b hk hi
    have := ih (k + 1) (f k a) (g k b) (by omega) (h k a b (by omega) hi)
    rw [show k + (d + 1) = k + 1 + d by omega]
    exact this
theorem zrn_next {A : Type} (f : Nat → A → A) (k : Nat) (hk : 1 ≤ k) (s : A) : zrn f (k + 1 - 1) 1 s = f k (zrn f (k - 1) 1 s) := by
  obtain ⟨d, rfl⟩ : ∃ d, k = d + 1 := ⟨k - 1, by omega⟩
  rw [Nat.add_sub_cancel, Nat.add_sub_cancel, zrn_succ, Nat.add_comm 1 d]
/-- the place of b in a row -/
def zps : List Nat → Nat → Nat
  | [], _ => 0
  | a :: l, b => if a = b then 0 else zps l b + 1
theorem zps_at : ∀ {L : List Nat} {k b : Nat}, L.Nodup → L[k]? = some b → zps L b = k := by
  intro L
  induction L with
  | nil => intro k b _ h; simp at h
  | cons a l ih =>
    intro k b hn h
    obtain ⟨h1, h2⟩ := List.nodup_cons.mp hn
    cases k with
    | zero =>
      simp only [List.getElem?_cons_zero, Option.some.injEq] at h
      simp [zps, h]
    | succ k =>
      rw [List.getElem?_cons_succ] at h
      have hne : a ≠ b := fun e => h1 (e ▸ List.mem_of_getElem? h)
      simp [zps, hne, ih h2 h]
/-- STEPS to a place -/
def zst (sh p : Nat) : Nat := p + 1 + 2 * (p / sh)
theorem zst_mono {sh p p' : Nat} (h : p < p') : zst sh p < zst sh p' := by
  unfold zst
  have := Nat.div_le_div_right (c := sh) (Nat.le_of_lt h)
  omega
theorem zst_lt {sh p : Nat} (hp : p < 10) : zst sh p < 100 := by
  unfold zst
  have := Nat.div_le_self p sh
  omega
/-- how many bits -/
def zbc (set : Nat) : Nat := zct (fun j => set.testBit j) 10
theorem zbc_le {set : Nat} (h : set < 64) : zbc set ≤ 6 := by
  unfold zbc
  rw [zct_ext (n := 6) (by decide) (fun b h1 h2 => Nat.testBit_lt_two_pow (Nat.lt_of_lt_of_le (show set < 2 ^ 6 from h) (Nat.pow_le_pow_right (by decide) h1)))]
  exact zct_le _ _
theorem g_M_members {k : Nat} (hk : k < 1024) : f_M_members (nI k) = some (nI (zbc k)) := by
  have h := zforF (fun fuel (n : Nat) j => f_M_members_4L fuel (nI k) (nI n) (nI j)) 10 (fun j n => if k.testBit j = true then n + 1 else n) (fun _ _ => True) (fun n => some (nI n))
    (fun m j n hj _ => by
      have hle : ¬ 10 ≤ j := by omega
      have hb := zbit (k := k) (j := j) (by omega) (by omega)
      show f_M_members_4L (m + 1) _ _ _ = _
      rw [f_M_members_4L]
      cases hq : k.testBit j with
      | false =>
        rw [hq] at hb
        simp (disch := (first | omega | assumption)) only [f_M_members_4, ge10, zbs, nI_add, pk_mul, znI_add1, znI_sub1, znI_subm, zle_nI, zlt_nI, zeq_nI, zle_0, zeq_0, zlt_0, zeq_m, zeq_1, zge_0, zbt0, zbt1, zB_0, zB_1, zB_b, zbool_0, zbool_1, ↓reduceIte, hle, hb, Bool.toNat_false, Bool.false_eq_true, Nat.add_zero]
      | true =>
        rw [hq] at hb
        simp (disch := (first | omega | assumption)) only [f_M_members_4, ge10, zbs, nI_add, pk_mul, znI_add1, znI_sub1, znI_subm, zle_nI, zlt_nI, zeq_nI, zle_0, zeq_0, zlt_0, zeq_m, zeq_1, zge_0, zbt0, zbt1, zB_0, zB_1, zB_b, zbool_0, zbool_1, ↓reduceIte, hle, hb, Bool.toNat_true]) (fun _ _ _ _ => trivial)
    (fun m n _ => by
      show f_M_members_4L (m + 1) _ _ _ = _
      rw [f_M_members_4L]
      simp (disch := (first | omega | assumption)) only [f_M_members_4, ge10, zbs, nI_add, pk_mul, znI_add1, znI_sub1, znI_subm, zle_nI, zlt_nI, zeq_nI, zle_0, zeq_0, zlt_0, zeq_m, zeq_1, zge_0, zbt0, zbt1, zB_0, zB_1, zB_b, zbool_0, zbool_1, ↓reduceIte, Nat.le_refl]) 10 0 0 zfu (by omega) trivial (zfu_lt (by decide))
  rw [zrn_ct (fun j => k.testBit j), Nat.zero_add] at h
  unfold f_M_members
  exact h
def zsx (P : Nat → Nat) (k : Nat) (q : Option Nat × Nat) : Option Nat × Nat :=
  if P k < q.2 then (some k, P k) else match q.1 with
    | none => q
    | some c => if P k = q.2 ∧ zbc k < zbc c then (some k, P k) else q
theorem zsx_or (P : Nat → Nat) (k : Nat) (q : Option Nat × Nat) : zsx P k q = (some k, P k) ∨ zsx P k q = q := by
  unfold zsx
  split
  · exact Or.inl rfl
  · split
    · exact Or.inr rfl
    · split
      · exact Or.inl rfl
      · exact Or.inr rfl
def zsmm (P : Nat → Nat) (sh k : Nat) (q : Nat × Nat) : Nat × Nat := if 10 * zst sh (P k) + zbc k < q.2 then (k, 10 * zst sh (P k) + zbc k) else q
theorem zsend_rel (P : Nat → Nat) (sh n : Nat) (hn : n ≤ 64) (hP : ∀ k, k < n → P k < 10) : ∀ d, 1 + d ≤ n → (d = 0 ∧ zrn (zsx P) d 1 (none, 10) = (none, 10) ∧ zrn (zsmm P sh) d 1 (0, 1000000) = (0, 1000000)) ∨
    ∃ c p, c < n ∧ p < 10 ∧ zrn (zsx P) d 1 (none, 10) = (some c, p) ∧ zrn (zsmm P sh) d 1 (0, 1000000) = (c, 10 * zst sh p + zbc c) := by
  intro d
  induction d with
  | zero => intro _; exact Or.inl ⟨rfl, rfl, rfl⟩
  | succ d ih =>
    intro hd
    right
    have hp := hP (1 + d) (by omega)
    have hb := zbc_le (set := 1 + d) (by omega)
    have hs := zst_lt (sh := sh) hp
    rw [zrn_succ, zrn_succ]
    rcases ih (by omega) with ⟨h0, h1, h2⟩ | ⟨c, p, hc, hp2, h1, h2⟩
    · rw [h1, h2]
      refine ⟨1 + d, P (1 + d), by omega, hp, ?_, ?_⟩
      · simp [zsx, hp]
      · unfold zsmm
        rw [if_pos (show 10 * zst sh (P (1 + d)) + zbc (1 + d) < 1000000 by omega)]
    · rw [h1, h2]
      have hb2 := zbc_le (set := c) (by omega)
      unfold zsx zsmm
      by_cases hlt : P (1 + d) < p
      · have := zst_mono (sh := sh) hlt
        refine ⟨1 + d, P (1 + d), by omega, hp, ?_, ?_⟩
        · rw [if_pos hlt]
        · rw [if_pos (by show _ < 10 * zst sh p + zbc c; omega)]
      · by_cases heq : P (1 + d) = p
        · by_cases hbc : zbc (1 + d) < zbc c
          · refine ⟨1 + d, P (1 + d), by omega, hp, ?_, ?_⟩
            · rw [if_neg hlt]
              simp [heq, hbc]
            · rw [if_pos (by show _ < 10 * zst sh p + zbc c; rw [heq]; omega)]
          · refine ⟨c, p, hc, hp2, ?_, ?_⟩
            · rw [if_neg hlt]
              simp [hbc]
            · rw [if_neg (by show ¬ _ < 10 * zst sh p + zbc c; rw [heq]; omega)]
        · have := zst_mono (sh := sh) (show p < P (1 + d) by omega)
          refine ⟨c, p, hc, hp2, ?_, ?_⟩
          · rw [if_neg hlt]
            simp [heq]
          · rw [if_neg (by show ¬ _ < 10 * zst sh p + zbc c; omega)]
section ZSe
variable {I : Nat → Nat → Int32} {J : Nat → Nat → Int64} {t u i f s x : Nat} {nt nb nr q sh md om im : Nat} {LW BW : List Int32}
theorem zKx_ls {I' : Nat → Nat → Int32} (hf : zfr zXls I I') : zKx I' = zKx I := by
  unfold zKx
  rw [zXls_row hf 48 (by decide) (by decide) (by decide)]
theorem zKm_ls {I' : Nat → Nat → Int32} (hf : zfr zLs I I') : zKm I' = zKm I := by
  unfold zKm
  rw [zLs_row hf 113 (by decide) (by decide) (by decide)]
theorem zpos_lt (hnb : nb ≤ 10) {set k b : Nat} (h : (zL I nt nb nr q om LW set)[k]? = some b) : zps (zL I nt nb nr q om LW set) b = k ∧ k < 10 := ⟨zps_at (zL_Od hnb set).1 h, zL_lt hnb h⟩
theorem zL_has (hnb : nb ≤ 10) {b : Nat} (hb : b < nb) (hob : om.testBit b = false) (set : Nat) : ∃ k : Nat, (zL I nt nb nr q om LW set)[k]? = some b := List.getElem?_of_mem (((zL_Od hnb set).2.2 b).mpr ⟨hb, by simp [zokO, hob]⟩)
theorem zpos_10 (hnb : nb ≤ 10) {b : Nat} (hb : b < nb) (hob : om.testBit b = false) (set : Nat) : zps (zL I nt nb nr q om LW set) b < 10 := by
  obtain ⟨k, hk⟩ := zL_has (I := I) (nt := nt) (nr := nr) (q := q) (LW := LW) hnb hb hob set
  have := zpos_lt hnb hk
  omega
theorem x_sendL (hC : zCo I t nt nb nr q sh md om im LW BW) {b : Nat} (hb : b < nb) (hob : om.testBit b = false) (w : Int32) {I1 : Nat → Nat → Int32} (hS : zSh I1 t nb nr q (zhm nb om)) (hK : ∀ r b, r < nr → b < nb → zKx I1 r b = zKy I nt LW r b) :
    ∃ I2, zfr zXls I1 I2 ∧ f_W_send_53L zfu (zs I1 J (zPt t u i f t x)) 0 (nI b) w (-1) 10 1 = f_W_send_118 (zs I2 J (zPt t u i f t x)) 0 w (zoI (zrn (zsx (fun set => zps (zL I nt nb nr q om LW set) b)) (2 ^ nr - 1) 1 (none, 10)).1) (nI (zrn (zsx (fun set => zps (zL I nt nb nr q om LW set) b)) (2 ^ nr - 1) 1 (none, 10)).2) := by
  obtain ⟨ht, hT, -⟩ := hC
  have hnb := hS.2.1
  have hnr := hS.2.2.2.1
  have hpw : 2 ^ nr ≤ 64 := Nat.le_trans (Nat.pow_le_pow_right (by decide) hnr) (by decide)
  have hp0 : 0 < 2 ^ nr := Nat.two_pow_pos nr
  obtain ⟨Q, ⟨h1, h2, -⟩, h3⟩ := zfor (fun fuel (q : (Nat → Nat → Int32) × (Option Nat × Nat)) k => f_W_send_53L fuel (zs q.1 J (zPt t u i f t x)) 0 (nI b) w (zoI q.2.1) (nI q.2.2) (nI k)) (2 ^ nr)
    (fun k q' => zfr zXls I1 q'.1 ∧ q'.2 = zrn (zsx (fun set => zps (zL I nt nb nr q om LW set) b)) (k - 1) 1 (none, 10) ∧ 1 ≤ k ∧ q'.2.2 ≤ 10 ∧ (∀ c, q'.2.1 = some c → c < 64) ∧ (q'.2.1 = none → q'.2.2 = 10))
    (fun q => f_W_send_118 (zs q.1 J (zPt t u i f t x)) 0 w (zoI q.2.1) (nI q.2.2))
    (fun m k Q hk hi => by
      obtain ⟨I3, best, bp⟩ := Q
      obtain ⟨h1, h2, hk1, h4, h5, h6⟩ := hi
      dsimp only at h1 h2 h4 h5 h6
      have hS3 := zSh_ls ht hS h1
      obtain ⟨I4, p, c1, c2, c3⟩ := q_placeFor (J := J) (t := t) (u := u) (i := i) (f := f) (x := x) ht hS3 (by rw [zKx_ls h1]; exact hK) hk hb hob
      obtain ⟨hp, hp10⟩ := zpos_lt hnb c3
      have hle : ¬ 2 ^ nr ≤ k := by omega
      have hbk := zbitCount k (by omega)
      refine ⟨(I4, zsx (fun set => zps (zL I nt nb nr q om LW set) b) k (best, bp)), ⟨zfr_trans h1 c2, ?_, by omega, ?_, ?_, ?_⟩, ?_⟩
      · show _ = zrn _ (k + 1 - 1) 1 (none, 10)
        rw [zrn_next _ k hk1, ← h2]
      · dsimp only
        rcases zsx_or (fun set => zps (zL I nt nb nr q om LW set) b) k (best, bp) with h | h
        · rw [h]; show zps _ _ ≤ 10; omega
        · rw [h]; exact h4
      · dsimp only
        intro c hc
        rcases zsx_or (fun set => zps (zL I nt nb nr q om LW set) b) k (best, bp) with h | h
        · rw [h] at hc; cases hc; omega
        · rw [h] at hc; exact h5 c hc
      · dsimp only
        intro hc
        rcases zsx_or (fun set => zps (zL I nt nb nr q om LW set) b) k (best, bp) with h | h
        · rw [h] at hc; cases hc
        · rw [h] at hc ⊢; exact h6 hc
      · show f_W_send_53L (m + 1) _ _ _ _ _ _ _ = _
        rw [f_W_send_53L]
        unfold zsx
        simp only [hp]
        by_cases hlt : p < bp
        · simp (disch := (first | omega | assumption)) only [f_W_send_53, gi_10, gp_11_2, gp_11_9, zbs, nI_add, pk_mul, znI_add1, znI_sub1, znI_subm, zle_nI, zlt_nI, zeq_nI, zle_0, zeq_0, zlt_0, zeq_m, zeq_1, zge_0, zbt0, zbt1, zB_0, zB_1, zB_b, zbool_0, zbool_1, ↓reduceIte, hS3.2.2.1, zshl1 nr (by omega), hle, c1, hlt]
          rfl
        · cases best with
          | none => have := h6 rfl; omega
          | some c =>
            have hbc := zbitCount c (by have := h5 c rfl; omega)
            have hbc : f_J_bitCount (zoI (some c)) = some (nI (zct (fun j => c.testBit j) 10)) := hbc
            have z1 := zct_le (fun j => k.testBit j) 10
            have z2 := zct_le (fun j => c.testBit j) 10
            by_cases heq : p = bp
            · by_cases hb2 : zct (fun j => c.testBit j) 10 ≤ zct (fun j => k.testBit j) 10
              · have hb3 : ¬ zbc k < zbc c := by unfold zbc; omega
                simp (disch := (first | omega | assumption)) only [f_W_send_53, gi_10, gp_11_2, gp_11_9, zbs, nI_add, pk_mul, znI_add1, znI_sub1, znI_subm, zle_nI, zlt_nI, zeq_nI, zle_0, zeq_0, zlt_0, zeq_m, zeq_1, zge_0, zbt0, zbt1, zB_0, zB_1, zB_b, zbool_0, zbool_1, ↓reduceIte, hS3.2.2.1, zshl1 nr (by omega), hle, c1, hlt, heq, hbk, hbc, hb2, hb3, and_false, Nat.lt_irrefl]
              · have hb3 : zbc k < zbc c := by unfold zbc; omega
                simp (disch := (first | omega | assumption)) only [f_W_send_53, gi_10, gp_11_2, gp_11_9, zbs, nI_add, pk_mul, znI_add1, znI_sub1, znI_subm, zle_nI, zlt_nI, zeq_nI, zle_0, zeq_0, zlt_0, zeq_m, zeq_1, zge_0, zbt0, zbt1, zB_0, zB_1, zB_b, zbool_0, zbool_1, ↓reduceIte, hS3.2.2.1, zshl1 nr (by omega), hle, c1, hlt, heq, hbk, hbc, hb2, hb3, and_self, Nat.lt_irrefl]
                rfl
            · simp (disch := (first | omega | assumption)) only [f_W_send_53, gi_10, gp_11_2, gp_11_9, zbs, nI_add, pk_mul, znI_add1, znI_sub1, znI_subm, zle_nI, zlt_nI, zeq_nI, zle_0, zeq_0, zlt_0, zeq_m, zeq_1, zge_0, zbt0, zbt1, zB_0, zB_1, zB_b, zbool_0, zbool_1, ↓reduceIte, hS3.2.2.1, zshl1 nr (by omega), hle, c1, hlt, heq, false_and])
    (fun m Q hi => by
      have hS3 := zSh_ls ht hS hi.1
      show f_W_send_53L (m + 1) _ _ _ _ _ _ _ = _
      rw [f_W_send_53L]
      simp (disch := (first | omega | assumption)) only [f_W_send_53, gi_10, gp_11_2, gp_11_9, zbs, nI_add, pk_mul, znI_add1, znI_sub1, znI_subm, zle_nI, zlt_nI, zeq_nI, zle_0, zeq_0, zlt_0, zeq_m, zeq_1, zge_0, zbt0, zbt1, zB_0, zB_1, zB_b, zbool_0, zbool_1, ↓reduceIte, hS3.2.2.1, zshl1 nr (by omega), Nat.le_refl]) (2 ^ nr - 1) 1 (I1, (none, 10)) zfu (by omega) ⟨zfr_refl _ _, rfl, by omega, Nat.le_refl _, (fun c hc => by cases hc), fun _ => rfl⟩ (zfu_lt (by omega))
  refine ⟨Q.1, h1, ?_⟩
  rw [← h2]
  exact h3
theorem m_sendL (hC : zCo I t nt nb nr q sh md om im LW BW) {b : Nat} (hb : b < nb) (hob : om.testBit b = false) (w : Int32) {I1 : Nat → Nat → Int32} (hC1 : zCo I1 t nt nb nr q sh md om im LW BW) (hK : ∀ r b, r < nr → b < nb → zKm I1 r b = zKy I nt LW r b) :
    ∃ I2, zfr zLs I1 I2 ∧ f_M_send_48L zfu (zs I1 J (zPt t u i f s x)) 91 (nI b) w 0 1000000 1 = f_M_send_109 (zs I2 J (zPt t u i f s x)) w (nI (zrn (zsmm (fun set => zps (zL I nt nb nr q om LW set) b) sh) (2 ^ nr - 1) 1 (0, 1000000)).1) (nI (zrn (zsmm (fun set => zps (zL I nt nb nr q om LW set) b) sh) (2 ^ nr - 1) 1 (0, 1000000)).2) := by
  have hnb := hC.2.1.1.2.1.2
  have hnr := hC.2.1.1.2.2.1.2
  have hsh := hC.2.1.2.2.2.1
  have hpw : 2 ^ nr ≤ 64 := Nat.le_trans (Nat.pow_le_pow_right (by decide) hnr) (by decide)
  have hp0 : 0 < 2 ^ nr := Nat.two_pow_pos nr
  obtain ⟨Q, ⟨h1, h2, -⟩, h3⟩ := zfor (fun fuel (q : (Nat → Nat → Int32) × (Nat × Nat)) k => f_M_send_48L fuel (zs q.1 J (zPt t u i f s x)) 91 (nI b) w (nI q.2.1) (nI q.2.2) (nI k)) (2 ^ nr)
    (fun k q' => zfr zLs I1 q'.1 ∧ q'.2 = zrn (zsmm (fun set => zps (zL I nt nb nr q om LW set) b) sh) (k - 1) 1 (0, 1000000) ∧ 1 ≤ k ∧ q'.2.2 ≤ 1000000)
    (fun q => f_M_send_109 (zs q.1 J (zPt t u i f s x)) w (nI q.2.1) (nI q.2.2))
    (fun m k Q hk hi => by
      obtain ⟨I3, best, bp⟩ := Q
      obtain ⟨h1, h2, hk1, h4⟩ := hi
      dsimp only at h1 h2 h4
      have hC3 := zCo_fr hC1 (zfr_g h1 zSg_ls)
      obtain ⟨I4, c1, c2, c3⟩ := q_layOrder (J := J) (t := t) (u := u) (i := i) (f := f) (s := s) (x := x) hC3 (by rw [zKm_ls h1]; exact hK) hk
      obtain ⟨p, hp⟩ := zL_has (I := I) (nt := nt) (nr := nr) (q := q) (LW := LW) hnb hb hob k
      have e := (c3.2.1 p b hp).2
      obtain ⟨hp2, hp10⟩ := zpos_lt hnb hp
      have hC4 := zCo_fr hC3 (zfr_g c2 zSg_ls)
      have y6 := g_M_stepsTo (p := p) (J := J) (t := t) (u := u) (i := i) (f := f) (s := s) (x := x) hC4.2.1.2.2.2.1.1 hsh.2.2.1 hsh.2.2.2 (by omega)
      have hle : ¬ 2 ^ nr ≤ k := by omega
      have hbk := g_M_members (k := k) (by omega)
      have hst := zst_lt (sh := sh) hp10
      have hbc := zbc_le (set := k) (by omega)
      refine ⟨(I4, zsmm (fun set => zps (zL I nt nb nr q om LW set) b) sh k (best, bp)), ⟨zfr_trans h1 c2, ?_, by omega, ?_⟩, ?_⟩
      · show _ = zrn _ (k + 1 - 1) 1 (0, 1000000)
        rw [zrn_next _ k hk1, ← h2]
      · dsimp only [zsmm]
        simp only [hp2]
        split
        · show 10 * zst sh p + zbc k ≤ 1000000
          omega
        · exact h4
      · show f_M_send_48L (m + 1) _ _ _ _ _ _ _ = _
        rw [f_M_send_48L]
        unfold zsmm
        simp only [hp2]
        have e2 : p + 1 + 2 * (p / sh) = zst sh p := rfl
        by_cases hlt : 10 * zst sh p + zbc k < bp
        · simp (disch := (first | omega | assumption)) only [f_M_send_48, gi_12, gp_12_53, ai_115, ml10, zbs, nI_add, pk_mul, znI_add1, znI_sub1, znI_subm, zle_nI, zlt_nI, zeq_nI, zle_0, zeq_0, zlt_0, zeq_m, zeq_1, zge_0, zbt0, zbt1, zB_0, zB_1, zB_b, zbool_0, zbool_1, ↓reduceIte, hC3.2.1.1.2.2.1.1, zshl1 nr (by omega), hle, c1, e, y6, hbk, e2, hlt]
        · simp (disch := (first | omega | assumption)) only [f_M_send_48, gi_12, gp_12_53, ai_115, ml10, zbs, nI_add, pk_mul, znI_add1, znI_sub1, znI_subm, zle_nI, zlt_nI, zeq_nI, zle_0, zeq_0, zlt_0, zeq_m, zeq_1, zge_0, zbt0, zbt1, zB_0, zB_1, zB_b, zbool_0, zbool_1, ↓reduceIte, hC3.2.1.1.2.2.1.1, zshl1 nr (by omega), hle, c1, e, y6, hbk, e2, hlt])
    (fun m Q hi => by
      have hC3 := zCo_fr hC1 (zfr_g hi.1 zSg_ls)
      show f_M_send_48L (m + 1) _ _ _ _ _ _ _ = _
      rw [f_M_send_48L]
      simp (disch := (first | omega | assumption)) only [f_M_send_48, gi_12, gp_12_53, ai_115, ml10, zbs, nI_add, pk_mul, znI_add1, znI_sub1, znI_subm, zle_nI, zlt_nI, zeq_nI, zle_0, zeq_0, zlt_0, zeq_m, zeq_1, zge_0, zbt0, zbt1, zB_0, zB_1, zB_b, zbool_0, zbool_1, ↓reduceIte, hC3.2.1.1.2.2.1.1, zshl1 nr (by omega), Nat.le_refl]) (2 ^ nr - 1) 1 (I1, (0, 1000000)) zfu (by omega) ⟨zfr_refl _ _, rfl, by omega, Nat.le_refl _⟩ (zfu_lt (by omega))
  refine ⟨Q.1, h1, ?_⟩
  rw [← h2]
  exact h3
theorem z01 (w : Int32) : (zlt w 2 = true ∧ (w = 0 ∨ w = 1)) ∨ (zlt w 2 = false ∧ ¬ w = 0 ∧ ¬ w = 1) := by
  rcases zlt_cases w (n := 2) (by decide) with ⟨h, k, hk, rfl⟩ | h
  · left
    refine ⟨h, ?_⟩
    rcases (show k = 0 ∨ k = 1 by omega) with rfl | rfl
    · exact Or.inl rfl
    · exact Or.inr rfl
  · right
    refine ⟨h, fun e => ?_, fun e => ?_⟩
    · subst e; exact absurd h (by decide)
    · subst e; exact absurd h (by decide)
theorem g_M_isIn1 (w : Int32) : f_M_isIn w 0 1 = some (zB (zlt w 2)) := g_M_isIn w (n := 2) (by decide)
theorem q_send (hC : zCo I t nt nb nr q sh md om im LW BW) (b w : Int32) : zOK2 I J t u i f s x (fun σ => f_W_send σ 0 b w) (fun σ => f_M_send σ 91 b w) := by
  have hC2 := hC
  obtain ⟨ht, ⟨hM, hX, -, hsh, -⟩, hN, -, ho, him, -⟩ := hC
  have hnb := hM.2.1.2
  have hnr := hM.2.2.1.2
  have hom := z2n hnb ho.2
  have h4 : I 30 4 = nI om := hN.2.2.2.1.trans ho.1
  have m2 := g_M_isBook (J := J) (t := t) (u := u) (i := i) (f := f) (s := s) (x := x) hM.2.1.1 hM.2.1.2 b
  have n10 : ¬ (1 : Int32) = 0 := by decide
  rcases zlt_cases b (n := nb) (by omega) with ⟨hb, b, hbn, rfl⟩ | hb
  · rw [hb] at m2
    have x2 := g_W_isHere1 (J := J) (t := t) (u := u) (i := i) (f := f) (s := s) (x := x) ht hX.2.1.1 hnb h4 hom hbn
    have m3 := g_M_isOut (J := J) (t := t) (u := u) (i := i) (f := f) (s := s) (x := x) ho.1 hom (show b < 10 by omega)
    cases hob : om.testBit b with
    | true =>
      rw [hob] at x2 m3
      refine ⟨-1, I, J, s, I, J, ?_, ?_, zfr_refl _ _, Or.inl rfl⟩
      · show f_W_send _ 0 _ _ = _
        simp (disch := (first | omega | assumption)) only [f_W_send, zg_11, gi_10, gp_11_2, zbs, nI_add, pk_mul, znI_add1, znI_sub1, znI_subm, zle_nI, zlt_nI, zeq_nI, zle_0, zeq_0, zlt_0, zeq_m, zeq_1, zge_0, zbt0, zbt1, zB_0, zB_1, zB_b, zbool_0, zbool_1, ↓reduceIte, x2, Bool.not_true]
      · show f_M_send _ 91 _ _ = _
        simp (disch := (first | omega | assumption)) only [f_M_send, zg_12, gi_12, zbs, nI_add, pk_mul, znI_add1, znI_sub1, znI_subm, zle_nI, zlt_nI, zeq_nI, zle_0, zeq_0, zlt_0, zeq_m, zeq_1, zge_0, zbt0, zbt1, zB_0, zB_1, zB_b, zbool_0, zbool_1, ↓reduceIte, m2, m3, Bool.true_eq_false]
    | false =>
      rw [hob] at x2 m3
      by_cases hr0 : nr = 0
      · refine ⟨-1, I, J, s, I, J, ?_, ?_, zfr_refl _ _, Or.inl rfl⟩
        · show f_W_send _ 0 _ _ = _
          simp (disch := (first | omega | assumption)) only [f_W_send, zg_11, gi_10, gp_11_2, zbs, nI_add, pk_mul, znI_add1, znI_sub1, znI_subm, zle_nI, zlt_nI, zeq_nI, zle_0, zeq_0, zlt_0, zeq_m, zeq_1, zge_0, zbt0, zbt1, zB_0, zB_1, zB_b, zbool_0, zbool_1, ↓reduceIte, x2, hX.2.2.1.1, hr0, Bool.true_eq_false, Bool.not_false]
        · show f_M_send _ 91 _ _ = _
          simp (disch := (first | omega | assumption)) only [f_M_send, zg_12, gi_12, zbs, nI_add, pk_mul, znI_add1, znI_sub1, znI_subm, zle_nI, zlt_nI, zeq_nI, zle_0, zeq_0, zlt_0, zeq_m, zeq_1, zge_0, zbt0, zbt1, zB_0, zB_1, zB_b, zbool_0, zbool_1, ↓reduceIte, m2, m3, hM.2.2.1.1, hr0, Bool.true_eq_false]
      · rcases z01 w with ⟨hw, hw2⟩ | ⟨hw, hw0, hw1⟩
        · obtain ⟨I1, a1, a2, -, a4, a3⟩ := q_open (J := J) (t := t) (u := u) (i := i) (f := f) (s := s) (x := x) hC2
          obtain ⟨I2, c2, c1⟩ := x_sendL (J := J) (t := t) (u := u) (i := i) (f := f) (x := x) hC2 hbn hob w a4 a3
          have f2 : zfr zSg I I2 := zfr_trans a2 (zfr_g c2 zSg_xls)
          have hC3 := zCo_fr hC2 f2
          obtain ⟨I3, b1, b2, -, b3⟩ := q_layAll (J := J) (t := t) (u := u) (i := i) (f := f) (s := t) (x := x) hC3
          rw [zKy_fr f2] at b3
          have hC4 := zCo_fr hC3 b2
          obtain ⟨I4, d2, d1⟩ := m_sendL (J := J) (t := t) (u := u) (i := i) (f := f) (s := t) (x := x) hC2 hbn hob w hC4 b3
          have hpw : 2 ^ nr ≤ 64 := Nat.le_trans (Nat.pow_le_pow_right (by decide) hnr) (by decide)
          have hp1 : 1 < 2 ^ nr := Nat.one_lt_two_pow hr0
          rcases zsend_rel (fun set => zps (zL I nt nb nr q om LW set) b) sh (2 ^ nr) hpw (fun k _ => zpos_10 hnb hbn hob k) (2 ^ nr - 1) (by omega) with ⟨h0, -⟩ | ⟨c, p, hc, hp, r1, r2⟩
          · omega
          · rw [r1] at c1
            rw [r2] at d1
            dsimp only at c1 d1
            have hst := zst_lt (sh := sh) hp
            have hbc := zbc_le (set := c) (by omega)
            have m2' := g_M_isBook (J := J) (t := t) (u := u) (i := i) (f := f) (s := t) (x := x) hC3.2.1.1.2.1.1 hnb (nI b)
            have m3' := g_M_isOut (J := J) (t := t) (u := u) (i := i) (f := f) (s := t) (x := x) hC3.2.2.2.2.1.1 hom (show b < 10 by omega)
            have m4' := g_M_isIn1 w
            rw [hb] at m2'
            rw [hob] at m3'
            rw [hw] at m4'
            have x6 := g_D_stepsTo (p := p) (J := J) (t := t) (u := u) (i := i) (f := f) (s := t) (x := x) ht hC3.2.1.2.2.2.1.2.1 hsh.2.2.1 hsh.2.2.2 (by omega)
            have e2 : p + 1 + 2 * (p / sh) = zst sh p := rfl
            rw [e2] at x6
            have e3 : (10 * zst sh p + zbc c) / 10 = zst sh p := by omega
            have hx : ∃ v, f_W_send_118 (zs I2 J (zPt t u i f t x)) 0 w (zoI (some c)) (nI p) = some (v, (zs I2 J (zPt t u i f t x))) ∧ f_M_send_109 (zs I4 J (zPt t u i f t x)) w (nI c) (nI (10 * zst sh p + zbc c)) = some (v, (zs I4 J (zPt t u i f t x))) := by
              rcases hw2 with rfl | rfl
              · refine ⟨nI (zst sh p), ?_, ?_⟩
                · simp (disch := (first | omega | assumption)) only [f_W_send_118, gp_11_2, zbs, nI_add, pk_mul, znI_add1, znI_sub1, znI_subm, zle_nI, zlt_nI, zeq_nI, zle_0, zeq_0, zlt_0, zeq_m, zeq_1, zge_0, zbt0, zbt1, zB_0, zB_1, zB_b, zbool_0, zbool_1, ↓reduceIte, x6]
                · simp (disch := (first | omega | assumption)) only [f_M_send_109, dr10, zbs, nI_add, pk_mul, znI_add1, znI_sub1, znI_subm, zle_nI, zlt_nI, zeq_nI, zle_0, zeq_0, zlt_0, zeq_m, zeq_1, zge_0, zbt0, zbt1, zB_0, zB_1, zB_b, zbool_0, zbool_1, ↓reduceIte, e3]
              · refine ⟨nI c, ?_, ?_⟩
                · simp (disch := (first | omega | assumption)) only [f_W_send_118, gp_11_2, zbs, nI_add, pk_mul, znI_add1, znI_sub1, znI_subm, zle_nI, zlt_nI, zeq_nI, zle_0, zeq_0, zlt_0, zeq_m, zeq_1, zge_0, zbt0, zbt1, zB_0, zB_1, zB_b, zbool_0, zbool_1, ↓reduceIte, n10]
                  rfl
                · simp (disch := (first | omega | assumption)) only [f_M_send_109, dr10, zbs, nI_add, pk_mul, znI_add1, znI_sub1, znI_subm, zle_nI, zlt_nI, zeq_nI, zle_0, zeq_0, zlt_0, zeq_m, zeq_1, zge_0, zbt0, zbt1, zB_0, zB_1, zB_b, zbool_0, zbool_1, ↓reduceIte, n10]
            obtain ⟨v, v1, v2⟩ := hx
            refine ⟨v, I2, J, t, I4, J, ?_, ?_, zfr_trans f2 (zfr_trans b2 (zfr_g d2 zSg_ls)), Or.inr rfl⟩
            · show f_W_send _ 0 _ _ = _
              rcases hw2 with rfl | rfl
              · simp (disch := (first | omega | assumption)) only [f_W_send, f_W_send_29, zg_11, gi_10, gp_11_2, gp_11_9, gp_11_5, zbs, nI_add, pk_mul, znI_add1, znI_sub1, znI_subm, zle_nI, zlt_nI, zeq_nI, zle_0, zeq_0, zlt_0, zeq_m, zeq_1, zge_0, zbt0, zbt1, zB_0, zB_1, zB_b, zbool_0, zbool_1, ↓reduceIte, x2, hX.2.2.1.1, hr0, a1, Bool.true_eq_false, Bool.not_false]
                exact c1.trans v1
              · simp (disch := (first | omega | assumption)) only [f_W_send, f_W_send_29, zg_11, gi_10, gp_11_2, gp_11_9, gp_11_5, zbs, nI_add, pk_mul, znI_add1, znI_sub1, znI_subm, zle_nI, zlt_nI, zeq_nI, zle_0, zeq_0, zlt_0, zeq_m, zeq_1, zge_0, zbt0, zbt1, zB_0, zB_1, zB_b, zbool_0, zbool_1, ↓reduceIte, x2, hX.2.2.1.1, hr0, a1, n10, Bool.true_eq_false, Bool.not_false]
                exact c1.trans v1
            · show f_M_send _ 91 _ _ = _
              simp (disch := (first | omega | assumption)) only [f_M_send, zg_12, gi_12, zbs, nI_add, pk_mul, znI_add1, znI_sub1, znI_subm, zle_nI, zlt_nI, zeq_nI, zle_0, zeq_0, zlt_0, zeq_m, zeq_1, zge_0, zbt0, zbt1, zB_0, zB_1, zB_b, zbool_0, zbool_1, ↓reduceIte, m2', m3', hC3.2.1.1.2.2.1.1, hr0, m4', b1, Bool.true_eq_false]
              exact d1.trans v2
        · have m4 := g_M_isIn1 w
          rw [hw] at m4
          refine ⟨-1, I, J, s, I, J, ?_, ?_, zfr_refl _ _, Or.inl rfl⟩
          · show f_W_send _ 0 _ _ = _
            simp (disch := (first | omega | assumption)) only [f_W_send, zg_11, gi_10, gp_11_2, zbs, nI_add, pk_mul, znI_add1, znI_sub1, znI_subm, zle_nI, zlt_nI, zeq_nI, zle_0, zeq_0, zlt_0, zeq_m, zeq_1, zge_0, zbt0, zbt1, zB_0, zB_1, zB_b, zbool_0, zbool_1, ↓reduceIte, x2, hX.2.2.1.1, hr0, hw0, hw1, Bool.true_eq_false, Bool.not_false]
          · show f_M_send _ 91 _ _ = _
            simp (disch := (first | omega | assumption)) only [f_M_send, zg_12, gi_12, zbs, nI_add, pk_mul, znI_add1, znI_sub1, znI_subm, zle_nI, zlt_nI, zeq_nI, zle_0, zeq_0, zlt_0, zeq_m, zeq_1, zge_0, zbt0, zbt1, zB_0, zB_1, zB_b, zbool_0, zbool_1, ↓reduceIte, m2, m3, hM.2.2.1.1, hr0, m4, Bool.true_eq_false]
  · rw [hb] at m2
    have x2 := g_W_isHere0 (J := J) (t := t) (u := u) (i := i) (f := f) (s := s) (x := x) ht hX.2.1.1 hb
    refine ⟨-1, I, J, s, I, J, ?_, ?_, zfr_refl _ _, Or.inl rfl⟩
    · show f_W_send _ 0 _ _ = _
      simp (disch := (first | omega | assumption)) only [f_W_send, zg_11, gi_10, gp_11_2, zbs, nI_add, pk_mul, znI_add1, znI_sub1, znI_subm, zle_nI, zlt_nI, zeq_nI, zle_0, zeq_0, zlt_0, zeq_m, zeq_1, zge_0, zbt0, zbt1, zB_0, zB_1, zB_b, zbool_0, zbool_1, ↓reduceIte, x2]
    · show f_M_send _ 91 _ _ = _
      simp (disch := (first | omega | assumption)) only [f_M_send, zg_12, gi_12, zbs, nI_add, pk_mul, znI_add1, znI_sub1, znI_subm, zle_nI, zlt_nI, zeq_nI, zle_0, zeq_0, zlt_0, zeq_m, zeq_1, zge_0, zbt0, zbt1, zB_0, zB_1, zB_b, zbool_0, zbool_1, ↓reduceIte, m2]
end ZSe
