/-! crowd -/
theorem zlcmp0 (x : Int64) : (lg_cmp x 0 = 0) = (x = 0) := propext (lg_cmp_eq x 0)
theorem zlcmpl (x : Int64) : (lg_cmp x 0 ≤ 0) = (x ≤ 0) := propext (lg_cmp_le x 0)
theorem zlN0 {a : Nat} (h : a < 2 ^ 63) : (lN a = 0) = (a = 0) := propext (pk_lEQ (b := 0) h (by decide))
theorem zlNl {a : Nat} (h : a < 2 ^ 63) : (lN a ≤ 0) = (a = 0) := by
  have := pk_lLE (a := a) (b := 0) h (by decide)
  exact propext ⟨fun h2 => by have := this.mp h2; omega, fun h2 => this.mpr (by omega)⟩
theorem znZ_ne {x : Int64} (h : ¬ x = 0) : znZ x = some x := by simp [znZ, h]
theorem zremL_N {a b : Nat} (ha : a < 2 ^ 63) (h0 : 0 < b) (hb : b < 2 ^ 63) : zremL (lN a) (lN b) = lN (a % b) := pk_lRem ha h0 hb
theorem zmod2 {b r : Nat} (h0 : 0 < r) (hr : r < b) : 2 * (b % r) < b := by
  by_cases h : 2 * r ≤ b
  · have := Nat.mod_lt b h0
    omega
  · have : b % r = b - r := by
      rw [Nat.mod_eq_sub_mod (by omega), Nat.mod_eq_of_lt (by omega)]
    omega
theorem zgcd_step (a b : Nat) : Nat.gcd b (a % b) = Nat.gcd a b := by
  rw [Nat.gcd_comm a b, Nat.gcd_rec b a, Nat.gcd_comm]
theorem g_W_gcdL : ∀ (e a b i fuel : Nat), a < 2 ^ 60 → b < 2 ^ e → e ≤ 50 → i + 2 * e ≤ 100 → 2 * e < fuel → f_W_commonDivisor_3L fuel (lN a) (lN b) (nI i) = some (lN (Nat.gcd a b)) := by
  intro e
  induction e with
  | zero =>
    intro a b i fuel ha hb _ hi hf
    obtain ⟨m, rfl⟩ : ∃ m, fuel = m + 1 := ⟨fuel - 1, by omega⟩
    have hb0 : b = 0 := by omega
    subst hb0
    rw [f_W_commonDivisor_3L, Nat.gcd_zero_right]
    by_cases h : 100 ≤ i
    · simp (disch := (first | omega | assumption)) only [f_W_commonDivisor_3, ge100, zbs, nI_add, pk_mul, znI_add1, znI_sub1, znI_subm, zle_nI, zlt_nI, zeq_nI, zle_0, zeq_0, zlt_0, zeq_m, zeq_1, zge_0, zbt0, zbt1, zB_0, zB_1, zB_b, zbool_0, zbool_1, ↓reduceIte, h]
    · have : lg_cmp (lN 0) 0 = 0 := by rw [zlcmp0]; rfl
      simp (disch := (first | omega | assumption)) only [f_W_commonDivisor_3, ge100, zbs, nI_add, pk_mul, znI_add1, znI_sub1, znI_subm, zle_nI, zlt_nI, zeq_nI, zle_0, zeq_0, zlt_0, zeq_m, zeq_1, zge_0, zbt0, zbt1, zB_0, zB_1, zB_b, zbool_0, zbool_1, ↓reduceIte, h, this]
  | succ e ih =>
    intro a b i fuel ha hb he hi hf
    obtain ⟨m, rfl⟩ : ∃ m, fuel = m + 1 := ⟨fuel - 1, by omega⟩
    have hb50 : b < 2 ^ 51 := Nat.lt_of_lt_of_le hb (Nat.pow_le_pow_right (by decide) (by omega))
    have h100 : ¬ 100 ≤ i := by omega
    rw [f_W_commonDivisor_3L]
    by_cases hb0 : b = 0
    · subst hb0
      have : lg_cmp (lN 0) 0 = 0 := by rw [zlcmp0]; rfl
      rw [Nat.gcd_zero_right]
      simp (disch := (first | omega | assumption)) only [f_W_commonDivisor_3, ge100, zbs, nI_add, pk_mul, znI_add1, znI_sub1, znI_subm, zle_nI, zlt_nI, zeq_nI, zle_0, zeq_0, zlt_0, zeq_m, zeq_1, zge_0, zbt0, zbt1, zB_0, zB_1, zB_b, zbool_0, zbool_1, ↓reduceIte, h100, this]
    · have n0 : ¬ lg_cmp (lN b) 0 = 0 := by rw [zlcmp0, zlN0 (by omega)]; exact hb0
      have nz : znZ (lN b) = some (lN b) := znZ_ne (by rw [zlN0 (by omega)]; exact hb0)
      have hr := Nat.mod_lt a (show 0 < b by omega)
      have e1 := zremL_N (a := a) (b := b) (by omega) (by omega) (by omega)
      have goal1 : f_W_commonDivisor_3L m (lN b) (lN (a % b)) (nI (i + 1)) = some (lN (Nat.gcd a b)) := by
        rw [← zgcd_step a b]
        obtain ⟨m, rfl⟩ : ∃ m', m = m' + 1 := ⟨m - 1, by omega⟩
        have h101 : ¬ 100 ≤ i + 1 := by omega
        rw [f_W_commonDivisor_3L]
        by_cases hr0 : a % b = 0
        · have : lg_cmp (lN (a % b)) 0 = 0 := by rw [zlcmp0, hr0]; rfl
          rw [hr0, Nat.gcd_zero_right] at *
          simp (disch := (first | omega | assumption)) only [f_W_commonDivisor_3, ge100, zbs, nI_add, pk_mul, znI_add1, znI_sub1, znI_subm, zle_nI, zlt_nI, zeq_nI, zle_0, zeq_0, zlt_0, zeq_m, zeq_1, zge_0, zbt0, zbt1, zB_0, zB_1, zB_b, zbool_0, zbool_1, ↓reduceIte, h101, this]
        · have n1 : ¬ lg_cmp (lN (a % b)) 0 = 0 := by rw [zlcmp0, zlN0 (by omega)]; exact hr0
          have nz1 : znZ (lN (a % b)) = some (lN (a % b)) := znZ_ne (by rw [zlN0 (by omega)]; exact hr0)
          have e2 := zremL_N (a := b) (b := a % b) (by omega) (by omega) (by omega)
          have hh := zmod2 (b := b) (r := a % b) (by omega) hr
          have := ih (a % b) (b % (a % b)) (i + 2) m (by omega) (by rw [Nat.pow_succ] at hb; omega) (by omega) (by omega) (by omega)
          rw [zgcd_step b (a % b)] at this
          simp (disch := (first | omega | assumption)) only [f_W_commonDivisor_3, ge100, zbs, nI_add, pk_mul, znI_add1, znI_sub1, znI_subm, zle_nI, zlt_nI, zeq_nI, zle_0, zeq_0, zlt_0, zeq_m, zeq_1, zge_0, zbt0, zbt1, zB_0, zB_1, zB_b, zbool_0, zbool_1, ↓reduceIte, h101, n1, nz1, e2]
          exact this
      simp (disch := (first | omega | assumption)) only [f_W_commonDivisor_3, ge100, zbs, nI_add, pk_mul, znI_add1, znI_sub1, znI_subm, zle_nI, zlt_nI, zeq_nI, zle_0, zeq_0, zlt_0, zeq_m, zeq_1, zge_0, zbt0, zbt1, zB_0, zB_1, zB_b, zbool_0, zbool_1, ↓reduceIte, h100, n0, nz, e1]
      exact goal1
theorem g_M_gcdL : ∀ (e a b fuel : Nat), a < 2 ^ 60 → b < 2 ^ e → e ≤ 55 → 2 * e < fuel → f_M_common_6L fuel (lN a) (lN b) = some (lN (Nat.gcd a b)) := by
  intro e
  induction e with
  | zero =>
    intro a b fuel ha hb _ hf
    obtain ⟨m, rfl⟩ : ∃ m, fuel = m + 1 := ⟨fuel - 1, by omega⟩
    have hb0 : b = 0 := by omega
    subst hb0
    rw [f_M_common_6L, Nat.gcd_zero_right]
    have : lg_cmp (lN 0) 0 ≤ 0 := by rw [zlcmpl, zlNl (by decide)]
    simp (disch := (first | omega | assumption)) only [f_M_common_6, zbs, nI_add, pk_mul, znI_add1, znI_sub1, znI_subm, zle_nI, zlt_nI, zeq_nI, zle_0, zeq_0, zlt_0, zeq_m, zeq_1, zge_0, zbt0, zbt1, zB_0, zB_1, zB_b, zbool_0, zbool_1, ↓reduceIte, this]
  | succ e ih =>
    intro a b fuel ha hb he hf
    obtain ⟨m, rfl⟩ : ∃ m, fuel = m + 1 := ⟨fuel - 1, by omega⟩
    have hb50 : b < 2 ^ 56 := Nat.lt_of_lt_of_le hb (Nat.pow_le_pow_right (by decide) (by omega))
    rw [f_M_common_6L]
    by_cases hb0 : b = 0
    · subst hb0
      have : lg_cmp (lN 0) 0 ≤ 0 := by rw [zlcmpl, zlNl (by decide)]
      rw [Nat.gcd_zero_right]
      simp (disch := (first | omega | assumption)) only [f_M_common_6, zbs, nI_add, pk_mul, znI_add1, znI_sub1, znI_subm, zle_nI, zlt_nI, zeq_nI, zle_0, zeq_0, zlt_0, zeq_m, zeq_1, zge_0, zbt0, zbt1, zB_0, zB_1, zB_b, zbool_0, zbool_1, ↓reduceIte, this]
    · have n0 : ¬ lg_cmp (lN b) 0 ≤ 0 := by rw [zlcmpl, zlNl (by omega)]; exact hb0
      have nz : znZ (lN b) = some (lN b) := znZ_ne (by rw [zlN0 (by omega)]; exact hb0)
      have hr := Nat.mod_lt a (show 0 < b by omega)
      have e1 := zremL_N (a := a) (b := b) (by omega) (by omega) (by omega)
      have goal1 : f_M_common_6L m (lN b) (lN (a % b)) = some (lN (Nat.gcd a b)) := by
        rw [← zgcd_step a b]
        obtain ⟨m, rfl⟩ : ∃ m', m = m' + 1 := ⟨m - 1, by omega⟩
        rw [f_M_common_6L]
        by_cases hr0 : a % b = 0
        · have : lg_cmp (lN (a % b)) 0 ≤ 0 := by rw [zlcmpl, zlNl (by omega)]; exact hr0
          rw [hr0, Nat.gcd_zero_right] at *
          simp (disch := (first | omega | assumption)) only [f_M_common_6, zbs, nI_add, pk_mul, znI_add1, znI_sub1, znI_subm, zle_nI, zlt_nI, zeq_nI, zle_0, zeq_0, zlt_0, zeq_m, zeq_1, zge_0, zbt0, zbt1, zB_0, zB_1, zB_b, zbool_0, zbool_1, ↓reduceIte, this]
        · have n1 : ¬ lg_cmp (lN (a % b)) 0 ≤ 0 := by rw [zlcmpl, zlNl (by omega)]; exact hr0
          have nz1 : znZ (lN (a % b)) = some (lN (a % b)) := znZ_ne (by rw [zlN0 (by omega)]; exact hr0)
          have e2 := zremL_N (a := b) (b := a % b) (by omega) (by omega) (by omega)
          have hh := zmod2 (b := b) (r := a % b) (by omega) hr
          have := ih (a % b) (b % (a % b)) m (by omega) (by rw [Nat.pow_succ] at hb; omega) (by omega) (by omega)
          rw [zgcd_step b (a % b)] at this
          simp (disch := (first | omega | assumption)) only [f_M_common_6, zbs, nI_add, pk_mul, znI_add1, znI_sub1, znI_subm, zle_nI, zlt_nI, zeq_nI, zle_0, zeq_0, zlt_0, zeq_m, zeq_1, zge_0, zbt0, zbt1, zB_0, zB_1, zB_b, zbool_0, zbool_1, ↓reduceIte, n1, nz1, e2]
          exact this
      simp (disch := (first | omega | assumption)) only [f_M_common_6, zbs, nI_add, pk_mul, znI_add1, znI_sub1, znI_subm, zle_nI, zlt_nI, zeq_nI, zle_0, zeq_0, zlt_0, zeq_m, zeq_1, zge_0, zbt0, zbt1, zB_0, zB_1, zB_b, zbool_0, zbool_1, ↓reduceIte, n0, nz, e1]
      exact goal1
/-- odds that just these are there -/
def zpd (od : Nat → Nat) (set r p : Nat) : Nat := p * (if set.testBit r = true then od r else 100 - od r)
theorem zpd_le {od : Nat → Nat} {n : Nat} (h : ∀ r, r < n → od r ≤ 100) (set : Nat) : ∀ d, d ≤ n → zrn (zpd od set) d 0 1 ≤ 100 ^ d := by
  intro d
  induction d with
  | zero => intro _; exact Nat.le_refl _
  | succ d ih =>
    intro hd
    rw [zrn_succ, Nat.pow_succ, Nat.zero_add]
    unfold zpd
    refine Nat.mul_le_mul (ih (by omega)) ?_
    have := h d (by omega)
    split <;> omega
def zcw (D : Nat → Nat) (B : Nat → Bool) (set U : Nat) : Nat := if B set = true then U + D set else U
theorem zcw_le {D : Nat → Nat} {B : Nat → Bool} {M : Nat} (h : ∀ k, D k ≤ M) : ∀ d, zrn (zcw D B) d 0 0 ≤ d * M := by
  intro d
  induction d with
  | zero => exact Nat.zero_le _
  | succ d ih =>
    rw [zrn_succ, Nat.zero_add, Nat.succ_mul]
    unfold zcw
    split
    · exact Nat.add_le_add ih (h d)
    · exact Nat.le_trans ih (Nat.le_add_right _ _)
def zOK2J (I : Nat → Nat → Int32) (J : Nat → Nat → Int64) (t u i f s x : Nat) (fx fm : zSt → Option (Int64 × zSt)) : Prop := ∃ (v : Int64) (I1 : Nat → Nat → Int32) (J1 : Nat → Nat → Int64) (s1 : Nat) (I2 : Nat → Nat → Int32) (J2 : Nat → Nat → Int64),
  fx (zs I J (zPt t u i f s x)) = some (v, zs I1 J1 (zPt t u i f s1 x)) ∧ fm (zs I1 J1 (zPt t u i f s1 x)) = some (v, zs I2 J2 (zPt t u i f s1 x)) ∧ zfr zSg I I2 ∧ (s1 = s ∨ s1 = t)
section ZCr
variable {I : Nat → Nat → Int32} {J : Nat → Nat → Int64} {t u i f s x : Nat} {nt nb nr q sh md om im : Nat} {LW BW : List Int32}
theorem zl100 (a : Nat) : lN a * 100 = lN (a * 100) := lN_mul a 100
theorem g_D_oddsOf (ht : t = 2 ∨ t = 13) (h2 : I t 2 = nI nr) (hnr : nr ≤ 6) {od : Nat → Nat} (hod : ∀ r, r < nr → I (t + 4) r = nI (od r) ∧ od r ≤ 100) {set : Nat} (hset : set < 64) : f_D_oddsOf (zs I J (zPt t u i f s x)) t (nI set) = some (lN (zrn (zpd od set) nr 0 1)) := by
  have h := zforF (fun fuel (p : Nat) k => f_D_oddsOf_5L fuel (zs I J (zPt t u i f s x)) t (nI set) (lN p) (nI k)) nr (zpd od set) (fun _ _ => True) (fun p => some (lN p))
    (fun m k p hk _ => by
      have hle : ¬ nr ≤ k := by omega
      obtain ⟨e1, e2⟩ := hod k hk
      have e3 : (nI (od k)).toInt64 = lN (od k) := nI_l (by omega)
      have e4 : (nI (100 - od k)).toInt64 = lN (100 - od k) := nI_l (by omega)
      show f_D_oddsOf_5L (m + 1) _ _ _ _ _ = _
      rw [f_D_oddsOf_5L]
      unfold zpd
      cases hb : set.testBit k with
      | false => simp (disch := (first | omega | assumption)) only [f_D_oddsOf_5, gi_10, gp_10_10, ai_10_10, sl100, zbs, nI_add, pk_mul, znI_add1, znI_sub1, znI_subm, zle_nI, zlt_nI, zeq_nI, zle_0, zeq_0, zlt_0, zeq_m, zeq_1, zge_0, zbt0, zbt1, zB_0, zB_1, zB_b, zbool_0, zbool_1, ↓reduceIte, h2, hle, hb, e1, e4, lN_mul, Bool.false_eq_true]
      | true => simp (disch := (first | omega | assumption)) only [f_D_oddsOf_5, gi_10, gp_10_10, ai_10_10, sl100, zbs, nI_add, pk_mul, znI_add1, znI_sub1, znI_subm, zle_nI, zlt_nI, zeq_nI, zle_0, zeq_0, zlt_0, zeq_m, zeq_1, zge_0, zbt0, zbt1, zB_0, zB_1, zB_b, zbool_0, zbool_1, ↓reduceIte, h2, hle, hb, e1, e3, lN_mul, Bool.true_eq_false]) (fun _ _ _ _ => trivial)
    (fun m p _ => by
      show f_D_oddsOf_5L (m + 1) _ _ _ _ _ = _
      rw [f_D_oddsOf_5L]
      simp (disch := (first | omega | assumption)) only [f_D_oddsOf_5, gi_10, gp_10_10, ai_10_10, sl100, zbs, nI_add, pk_mul, znI_add1, znI_sub1, znI_subm, zle_nI, zlt_nI, zeq_nI, zle_0, zeq_0, zlt_0, zeq_m, zeq_1, zge_0, zbt0, zbt1, zB_0, zB_1, zB_b, zbool_0, zbool_1, ↓reduceIte, h2, Nat.le_refl]) nr 0 1 zfu (by omega) trivial (zfu_lt (by omega))
  have h : f_D_oddsOf_5L zfu (zs I J (zPt t u i f s x)) t (nI set) 1 0 = _ := h
  simp (disch := (first | omega | assumption)) only [f_D_oddsOf, zg_10, zbs, nI_add, pk_mul, znI_add1, znI_sub1, znI_subm, zle_nI, zlt_nI, zeq_nI, zle_0, zeq_0, zlt_0, zeq_m, zeq_1, zge_0, zbt0, zbt1, zB_0, zB_1, zB_b, zbool_0, zbool_1, ↓reduceIte]
  exact h
theorem x_crowdL (hC : zCo I t nt nb nr q sh md om im LW BW) {b : Nat} (hb : b < nb) (hob : om.testBit b = false) (w : Int32) {od : Nat → Nat} (hod : ∀ r, r < nr → I (t + 4) r = nI (od r) ∧ od r ≤ 100) (ss : Int32) (lo : Nat) {I1 : Nat → Nat → Int32} (hf1 : zfr zSg I I1) (hS : zSh I1 t nb nr q (zhm nb om)) (hK : ∀ r b, r < nr → b < nb → zKx I1 r b = zKy I nt LW r b) :
    ∃ I2, zfr zSg I I2 ∧ f_W_crowd_74L zfu (zs I1 J (zPt t u i f t x)) 0 (nI b) ss w 0 (lN lo) 0 = f_W_crowd_129 (zs I2 J (zPt t u i f t x)) w (lN (zrn (zcw (fun set => zrn (zpd od set) nr 0 1) (fun set => !decide (ss < nI (zst sh (zps (zL I nt nb nr q om LW set) b))))) (2 ^ nr) 0 0)) (lN lo) := by
  have ht := hC.1
  have hnb := hS.2.1
  have hnr := hS.2.2.2.1
  have hsh := hC.2.1.2.2.2.1
  have hpw : 2 ^ nr ≤ 64 := Nat.le_trans (Nat.pow_le_pow_right (by decide) hnr) (by decide)
  obtain ⟨Q, ⟨h1, -, -, h2⟩, h3⟩ := zfor (fun fuel (q : (Nat → Nat → Int32) × Nat) k => f_W_crowd_74L fuel (zs q.1 J (zPt t u i f t x)) 0 (nI b) ss w (lN q.2) (lN lo) (nI k)) (2 ^ nr)
    (fun k q' => zfr zSg I q'.1 ∧ zSh q'.1 t nb nr q (zhm nb om) ∧ (∀ r b, r < nr → b < nb → zKx q'.1 r b = zKy I nt LW r b) ∧ q'.2 = zrn (zcw (fun set => zrn (zpd od set) nr 0 1) (fun set => !decide (ss < nI (zst sh (zps (zL I nt nb nr q om LW set) b))))) k 0 0)
    (fun q => f_W_crowd_129 (zs q.1 J (zPt t u i f t x)) w (lN q.2) (lN lo))
    (fun m k Q hk hi => by
      obtain ⟨I3, U⟩ := Q
      obtain ⟨h1, hS3, hK3, h2⟩ := hi
      dsimp only at h1 hS3 hK3 h2
      obtain ⟨I4, p, c1, c2, c3⟩ := q_placeFor (J := J) (t := t) (u := u) (i := i) (f := f) (x := x) ht hS3 hK3 hk hb hob
      obtain ⟨hp, hp10⟩ := zpos_lt hnb c3
      have f4 : zfr zSg I I4 := zfr_trans h1 (zfr_g c2 zSg_xls)
      have hC4 := zCo_fr hC f4
      have x6 := g_D_stepsTo (p := p) (J := J) (t := t) (u := u) (i := i) (f := f) (s := t) (x := x) ht hC4.2.1.2.2.2.1.2.1 hsh.2.2.1 hsh.2.2.2 (by omega)
      have e2 : p + 1 + 2 * (p / sh) = zst sh p := rfl
      rw [e2] at x6
      have od4 : ∀ r, r < nr → I4 (t + 4) r = nI (od r) ∧ od r ≤ 100 := fun r hr => by
        rw [zfr_row f4 (t + 4) (fun _ => by rcases ht with rfl | rfl <;> rfl)]
        exact hod r hr
      have y := g_D_oddsOf (J := J) (t := t) (u := u) (i := i) (f := f) (s := t) (x := x) ht hC4.2.1.2.1.2.2.1.1 hnr od4 (show k < 64 by omega)
      have hle : ¬ 2 ^ nr ≤ k := by omega
      refine ⟨(I4, zcw (fun set => zrn (zpd od set) nr 0 1) (fun set => !decide (ss < nI (zst sh (zps (zL I nt nb nr q om LW set) b)))) k U), ⟨f4, zSh_ls ht hS3 c2, by rw [zKx_ls c2]; exact hK3, ?_⟩, ?_⟩
      · show _ = zrn _ (k + 1) 0 0
        rw [zrn_succ, ← h2, Nat.zero_add]
      · show f_W_crowd_74L (m + 1) _ _ _ _ _ _ _ _ = _
        rw [f_W_crowd_74L]
        unfold zcw
        simp only [hp]
        by_cases hlt : ss < nI (zst sh p)
        · simp (disch := (first | omega | assumption)) only [f_W_crowd_74, gi_10, gp_11_2, gp_11_9, zbs, nI_add, pk_mul, znI_add1, znI_sub1, znI_subm, zle_nI, zlt_nI, zeq_nI, zle_0, zeq_0, zlt_0, zeq_m, zeq_1, zge_0, zbt0, zbt1, zB_0, zB_1, zB_b, zbool_0, zbool_1, ↓reduceIte, hS3.2.2.1, zshl1 nr (by omega), hle, c1, x6, hlt, decide_true, Bool.not_true, Bool.false_eq_true]
        · simp (disch := (first | omega | assumption)) only [f_W_crowd_74, gi_10, gp_11_2, gp_11_9, zbs, nI_add, pk_mul, znI_add1, znI_sub1, znI_subm, zle_nI, zlt_nI, zeq_nI, zle_0, zeq_0, zlt_0, zeq_m, zeq_1, zge_0, zbt0, zbt1, zB_0, zB_1, zB_b, zbool_0, zbool_1, ↓reduceIte, hS3.2.2.1, zshl1 nr (by omega), hle, c1, x6, hlt, y, lN_add, decide_false, Bool.not_false])
    (fun m Q hi => by
      show f_W_crowd_74L (m + 1) _ _ _ _ _ _ _ _ = _
      rw [f_W_crowd_74L]
      simp (disch := (first | omega | assumption)) only [f_W_crowd_74, gi_10, gp_11_2, gp_11_9, zbs, nI_add, pk_mul, znI_add1, znI_sub1, znI_subm, zle_nI, zlt_nI, zeq_nI, zle_0, zeq_0, zlt_0, zeq_m, zeq_1, zge_0, zbt0, zbt1, zB_0, zB_1, zB_b, zbool_0, zbool_1, ↓reduceIte, hi.2.1.2.2.1, zshl1 nr (by omega), Nat.le_refl]) (2 ^ nr) 0 (I1, 0) zfu (by omega) ⟨hf1, hS, hK, rfl⟩ (zfu_lt (by omega))
  refine ⟨Q.1, h1, ?_⟩
  rw [← h2]
  exact h3
theorem m_crowdL (hC : zCo I t nt nb nr q sh md om im LW BW) {b : Nat} (hb : b < nb) (hob : om.testBit b = false) (w : Int32) {od : Nat → Nat} (hod : ∀ r, r < nr → I 110 r = nI (od r) ∧ od r ≤ 100) (ss : Int32) (lo : Nat) {I1 : Nat → Nat → Int32} (hf1 : zfr zSg I I1) (hK : ∀ r b, r < nr → b < nb → zKm I1 r b = zKy I nt LW r b) :
    ∃ I2, zfr zSg I I2 ∧ f_M_crowd_68L zfu (zs I1 J (zPt t u i f s x)) 91 (nI b) ss w 0 (lN lo) 0 = f_M_crowd_174 (zs I2 J (zPt t u i f s x)) w (lN (zrn (zcw (fun set => zrn (zpd od set) nr 0 1) (fun set => !decide (ss < nI (zst sh (zps (zL I nt nb nr q om LW set) b))))) (2 ^ nr) 0 0)) (lN lo) := by
  have hnb := hC.2.1.1.2.1.2
  have hnr := hC.2.1.1.2.2.1.2
  have hsh := hC.2.1.2.2.2.1
  have hpw : 2 ^ nr ≤ 64 := Nat.le_trans (Nat.pow_le_pow_right (by decide) hnr) (by decide)
  obtain ⟨Q, ⟨h1, -, h2⟩, h3⟩ := zfor (fun fuel (q : (Nat → Nat → Int32) × Nat) k => f_M_crowd_68L fuel (zs q.1 J (zPt t u i f s x)) 91 (nI b) ss w (lN q.2) (lN lo) (nI k)) (2 ^ nr)
    (fun k q' => zfr zSg I q'.1 ∧ (∀ r b, r < nr → b < nb → zKm q'.1 r b = zKy I nt LW r b) ∧ q'.2 = zrn (zcw (fun set => zrn (zpd od set) nr 0 1) (fun set => !decide (ss < nI (zst sh (zps (zL I nt nb nr q om LW set) b))))) k 0 0)
    (fun q => f_M_crowd_174 (zs q.1 J (zPt t u i f s x)) w (lN q.2) (lN lo))
    (fun m k Q hk hi => by
      obtain ⟨I3, U⟩ := Q
      obtain ⟨h1, hK3, h2⟩ := hi
      dsimp only at h1 hK3 h2
      have hC3 := zCo_fr hC h1
      obtain ⟨I4, c1, c2, c3⟩ := q_layOrder (J := J) (t := t) (u := u) (i := i) (f := f) (s := s) (x := x) hC3 hK3 hk
      obtain ⟨p, hp1⟩ := zL_has (I := I) (nt := nt) (nr := nr) (q := q) (LW := LW) hnb hb hob k
      have e := (c3.2.1 p b hp1).2
      obtain ⟨hp, hp10⟩ := zpos_lt hnb hp1
      have f4 : zfr zSg I I4 := zfr_trans h1 (zfr_g c2 zSg_ls)
      have hC4 := zCo_fr hC f4
      have y6 := g_M_stepsTo (p := p) (J := J) (t := t) (u := u) (i := i) (f := f) (s := s) (x := x) hC4.2.1.2.2.2.1.1 hsh.2.2.1 hsh.2.2.2 (by omega)
      have e2 : p + 1 + 2 * (p / sh) = zst sh p := rfl
      rw [e2] at y6
      have od4 : ∀ r, r < nr → I4 110 r = nI (od r) ∧ od r ≤ 100 := fun r hr => by
        rw [zfr_row f4 110 (fun _ => rfl)]
        exact hod r hr
      have hle : ¬ 2 ^ nr ≤ k := by omega
      have hin := zforF (fun fuel (p : Nat) j => f_M_crowd_108L (f_M_crowd_68L m) fuel (zs I4 J (zPt t u i f s x)) 91 (nI b) ss w (lN U) (lN lo) (nI k) (lN p) (nI j)) nr (zpd od k) (fun _ _ => True) (fun p => f_M_crowd_68L m (zs I4 J (zPt t u i f s x)) 91 (nI b) ss w (lN (U + p)) (lN lo) (nI (k + 1)))
        (fun m' j p hj _ => by
          have hle2 : ¬ nr ≤ j := by omega
          obtain ⟨e1, e2⟩ := od4 j hj
          have e3 : (nI (od j)).toInt64 = lN (od j) := nI_l (by omega)
          have e4 : (nI (100 - od j)).toInt64 = lN (100 - od j) := nI_l (by omega)
          show f_M_crowd_108L _ (m' + 1) _ _ _ _ _ _ _ _ _ _ = _
          rw [f_M_crowd_108L]
          unfold zpd
          cases hbt : k.testBit j with
          | false => simp (disch := (first | omega | assumption)) only [f_M_crowd_108, gi_12, gp_12_33, ai_110, sl100, zbs, nI_add, pk_mul, znI_add1, znI_sub1, znI_subm, zle_nI, zlt_nI, zeq_nI, zle_0, zeq_0, zlt_0, zeq_m, zeq_1, zge_0, zbt0, zbt1, zB_0, zB_1, zB_b, zbool_0, zbool_1, ↓reduceIte, hC4.2.1.1.2.2.1.1, hle2, hbt, e1, e4, lN_mul, Bool.false_eq_true]
          | true => simp (disch := (first | omega | assumption)) only [f_M_crowd_108, gi_12, gp_12_33, ai_110, sl100, zbs, nI_add, pk_mul, znI_add1, znI_sub1, znI_subm, zle_nI, zlt_nI, zeq_nI, zle_0, zeq_0, zlt_0, zeq_m, zeq_1, zge_0, zbt0, zbt1, zB_0, zB_1, zB_b, zbool_0, zbool_1, ↓reduceIte, hC4.2.1.1.2.2.1.1, hle2, hbt, e1, e3, lN_mul]) (fun _ _ _ _ => trivial)
        (fun m' p _ => by
          show f_M_crowd_108L _ (m' + 1) _ _ _ _ _ _ _ _ _ _ = _
          rw [f_M_crowd_108L]
          simp (disch := (first | omega | assumption)) only [f_M_crowd_108, gi_12, gp_12_33, ai_110, sl100, zbs, nI_add, pk_mul, znI_add1, znI_sub1, znI_subm, zle_nI, zlt_nI, zeq_nI, zle_0, zeq_0, zlt_0, zeq_m, zeq_1, zge_0, zbt0, zbt1, zB_0, zB_1, zB_b, zbool_0, zbool_1, ↓reduceIte, hC4.2.1.1.2.2.1.1, Nat.le_refl, lN_add]) nr 0 1 zfu (by omega) trivial (zfu_lt (by omega))
      have hin : f_M_crowd_108L (f_M_crowd_68L m) zfu (zs I4 J (zPt t u i f s x)) 91 (nI b) ss w (lN U) (lN lo) (nI k) 1 0 = _ := hin
      refine ⟨(I4, zcw (fun set => zrn (zpd od set) nr 0 1) (fun set => !decide (ss < nI (zst sh (zps (zL I nt nb nr q om LW set) b)))) k U), ⟨f4, by rw [zKm_ls c2]; exact hK3, ?_⟩, ?_⟩
      · show _ = zrn _ (k + 1) 0 0
        rw [zrn_succ, ← h2, Nat.zero_add]
      · show f_M_crowd_68L (m + 1) _ _ _ _ _ _ _ _ = _
        rw [f_M_crowd_68L]
        unfold zcw
        simp only [hp]
        by_cases hlt : ss < nI (zst sh p)
        · have hlt2 : ¬ nI (zst sh p) ≤ ss := Int32.not_le.mpr hlt
          simp (disch := (first | omega | assumption)) only [f_M_crowd_68, gi_12, gp_12_53, ai_115, zbs, nI_add, pk_mul, znI_add1, znI_sub1, znI_subm, zle_nI, zlt_nI, zeq_nI, zle_0, zeq_0, zlt_0, zeq_m, zeq_1, zge_0, zbt0, zbt1, zB_0, zB_1, zB_b, zbool_0, zbool_1, ↓reduceIte, hC3.2.1.1.2.2.1.1, zshl1 nr (by omega), hle, c1, e, y6, hlt, hlt2, decide_true, Bool.not_true, Bool.false_eq_true]
        · have hlt2 : nI (zst sh p) ≤ ss := Int32.not_lt.mp hlt
          simp (disch := (first | omega | assumption)) only [f_M_crowd_68, gi_12, gp_12_53, ai_115, zbs, nI_add, pk_mul, znI_add1, znI_sub1, znI_subm, zle_nI, zlt_nI, zeq_nI, zle_0, zeq_0, zlt_0, zeq_m, zeq_1, zge_0, zbt0, zbt1, zB_0, zB_1, zB_b, zbool_0, zbool_1, ↓reduceIte, hC3.2.1.1.2.2.1.1, zshl1 nr (by omega), hle, c1, e, y6, hlt, hlt2, hin, decide_false, Bool.not_false])
    (fun m Q hi => by
      have hC3 := zCo_fr hC hi.1
      show f_M_crowd_68L (m + 1) _ _ _ _ _ _ _ _ = _
      rw [f_M_crowd_68L]
      simp (disch := (first | omega | assumption)) only [f_M_crowd_68, gi_12, gp_12_53, ai_115, zbs, nI_add, pk_mul, znI_add1, znI_sub1, znI_subm, zle_nI, zlt_nI, zeq_nI, zle_0, zeq_0, zlt_0, zeq_m, zeq_1, zge_0, zbt0, zbt1, zB_0, zB_1, zB_b, zbool_0, zbool_1, ↓reduceIte, hC3.2.1.1.2.2.1.1, zshl1 nr (by omega), Nat.le_refl]) (2 ^ nr) 0 (I1, 0) zfu (by omega) ⟨hf1, hK, rfl⟩ (zfu_lt (by omega))
  refine ⟨Q.1, h1, ?_⟩
  rw [← h2]
  exact h3
theorem zpow100 : ∀ d, zrn (fun _ (l : Nat) => l * 100) d 0 1 = 100 ^ d := by
  intro d
  induction d with
  | zero => rfl
  | succ d ih => rw [zrn_succ, ih, Nat.pow_succ]
theorem x_crowd0 (ht : t = 2 ∨ t = 13) (h2 : I t 2 = nI nr) (hnr : nr ≤ 6) (b ss w : Int32) : f_W_crowd_45L zfu (zs I J (zPt t u i f s x)) 0 b ss w 0 1 0 = f_W_crowd_74L zfu (zs I J (zPt t u i f s x)) 0 b ss w 0 (lN (100 ^ nr)) 0 := by
  have h := zforF (fun fuel (p : Nat) k => f_W_crowd_45L fuel (zs I J (zPt t u i f s x)) 0 b ss w 0 (lN p) (nI k)) nr (fun _ p => p * 100) (fun _ _ => True) (fun p => f_W_crowd_74L zfu (zs I J (zPt t u i f s x)) 0 b ss w 0 (lN p) 0)
    (fun m k p hk _ => by
      have hle : ¬ nr ≤ k := by omega
      show f_W_crowd_45L (m + 1) _ _ _ _ _ _ _ _ = _
      rw [f_W_crowd_45L]
      simp (disch := (first | omega | assumption)) only [f_W_crowd_45, gi_10, gp_11_2, mr100, zbs, nI_add, pk_mul, znI_add1, znI_sub1, znI_subm, zle_nI, zlt_nI, zeq_nI, zle_0, zeq_0, zlt_0, zeq_m, zeq_1, zge_0, zbt0, zbt1, zB_0, zB_1, zB_b, zbool_0, zbool_1, ↓reduceIte, h2, hle, zl100]) (fun _ _ _ _ => trivial)
    (fun m p _ => by
      show f_W_crowd_45L (m + 1) _ _ _ _ _ _ _ _ = _
      rw [f_W_crowd_45L]
      simp (disch := (first | omega | assumption)) only [f_W_crowd_45, gi_10, gp_11_2, mr100, zbs, nI_add, pk_mul, znI_add1, znI_sub1, znI_subm, zle_nI, zlt_nI, zeq_nI, zle_0, zeq_0, zlt_0, zeq_m, zeq_1, zge_0, zbt0, zbt1, zB_0, zB_1, zB_b, zbool_0, zbool_1, ↓reduceIte, h2, Nat.le_refl]) nr 0 1 zfu (by omega) trivial (zfu_lt (by omega))
  rw [zpow100] at h
  exact h
theorem m_crowd0 (h2 : I 91 43 = nI nr) (hnr : nr ≤ 6) (b ss w : Int32) : f_M_crowd_42L zfu (zs I J (zPt t u i f s x)) 91 b ss w 0 1 0 = f_M_crowd_68L zfu (zs I J (zPt t u i f s x)) 91 b ss w 0 (lN (100 ^ nr)) 0 := by
  have h := zforF (fun fuel (p : Nat) k => f_M_crowd_42L fuel (zs I J (zPt t u i f s x)) 91 b ss w 0 (lN p) (nI k)) nr (fun _ p => p * 100) (fun _ _ => True) (fun p => f_M_crowd_68L zfu (zs I J (zPt t u i f s x)) 91 b ss w 0 (lN p) 0)
    (fun m k p hk _ => by
      have hle : ¬ nr ≤ k := by omega
      show f_M_crowd_42L (m + 1) _ _ _ _ _ _ _ _ = _
      rw [f_M_crowd_42L]
      simp (disch := (first | omega | assumption)) only [f_M_crowd_42, gi_12, mr100, zbs, nI_add, pk_mul, znI_add1, znI_sub1, znI_subm, zle_nI, zlt_nI, zeq_nI, zle_0, zeq_0, zlt_0, zeq_m, zeq_1, zge_0, zbt0, zbt1, zB_0, zB_1, zB_b, zbool_0, zbool_1, ↓reduceIte, h2, hle, zl100]) (fun _ _ _ _ => trivial)
    (fun m p _ => by
      show f_M_crowd_42L (m + 1) _ _ _ _ _ _ _ _ = _
      rw [f_M_crowd_42L]
      simp (disch := (first | omega | assumption)) only [f_M_crowd_42, gi_12, mr100, zbs, nI_add, pk_mul, znI_add1, znI_sub1, znI_subm, zle_nI, zlt_nI, zeq_nI, zle_0, zeq_0, zlt_0, zeq_m, zeq_1, zge_0, zbt0, zbt1, zB_0, zB_1, zB_b, zbool_0, zbool_1, ↓reduceIte, h2, Nat.le_refl]) nr 0 1 zfu (by omega) trivial (zfu_lt (by omega))
  rw [zpow100] at h
  exact h
theorem q_crowd (hC : zCo I t nt nb nr q sh md om im LW BW) (b ss w : Int32) : zOK2J I J t u i f s x (fun σ => f_W_crowd σ 0 b ss w) (fun σ => f_M_crowd σ 91 b ss w) := by
  have hC2 := hC
  obtain ⟨ht, ⟨hM, hX, -, hsh, -, -, -, -, hodd, -⟩, hN, -, ho, him, -⟩ := hC
  have hnb := hM.2.1.2
  have hnr := hM.2.2.1.2
  have hom := z2n hnb ho.2
  have h4 : I 30 4 = nI om := hN.2.2.2.1.trans ho.1
  have m2 := g_M_isBook (J := J) (t := t) (u := u) (i := i) (f := f) (s := s) (x := x) hM.2.1.1 hM.2.1.2 b
  have n10 : ¬ (1 : Int32) = 0 := by decide
  rcases zlt_cases b (n := nb) (by omega) with ⟨hb, b, hbn, rfl⟩ | hb
  · rw [hb] at m2
    have x2 := g_W_isHere1 (J := J) (t := t) (u := u) (i := i) (f := f) (s := s) (x := x) ht hX.2.1.1 hnb h4 hom hbn
    have m3 := g_M_isOut (J := J) (t := t) (u := u) (i := i) (f := f) (s := s) (x := x) ho.1 hom (show b < 10 by omega)
    cases hob : om.testBit b with
    | true =>
      rw [hob] at x2 m3
      refine ⟨-1, I, J, s, I, J, ?_, ?_, zfr_refl _ _, Or.inl rfl⟩
      · show f_W_crowd _ 0 _ _ _ = _
        simp (disch := (first | omega | assumption)) only [f_W_crowd, zg_11, zbs, nI_add, pk_mul, znI_add1, znI_sub1, znI_subm, zle_nI, zlt_nI, zeq_nI, zle_0, zeq_0, zlt_0, zeq_m, zeq_1, zge_0, zbt0, zbt1, zB_0, zB_1, zB_b, zbool_0, zbool_1, ↓reduceIte, x2, Bool.not_true]
      · show f_M_crowd _ 91 _ _ _ = _
        simp (disch := (first | omega | assumption)) only [f_M_crowd, zg_12, zbs, nI_add, pk_mul, znI_add1, znI_sub1, znI_subm, zle_nI, zlt_nI, zeq_nI, zle_0, zeq_0, zlt_0, zeq_m, zeq_1, zge_0, zbt0, zbt1, zB_0, zB_1, zB_b, zbool_0, zbool_1, ↓reduceIte, m2, m3, Bool.true_eq_false]
    | false =>
      rw [hob] at x2 m3
      rcases z01 w with ⟨hw, hw2⟩ | ⟨hw, hw0, hw1⟩
      · have hex : ∃ od : Nat → Nat, ∀ r, r < nr → I 110 r = nI (od r) ∧ od r ≤ 100 := ⟨fun r => (I 110 r).toNatClampNeg, fun r hr => by
          obtain ⟨-, o, ho1, ho2⟩ := hodd r hr
          dsimp only
          rw [ho2, nI_clamp (by omega)]
          exact ⟨rfl, ho1⟩⟩
        obtain ⟨od, hod⟩ := hex
        obtain ⟨I1, a1, a2, -, a4, a3⟩ := q_open (J := J) (t := t) (u := u) (i := i) (f := f) (s := s) (x := x) hC2
        obtain ⟨I2, f2, c1⟩ := x_crowdL (J := J) (t := t) (u := u) (i := i) (f := f) (x := x) hC2 hbn hob w (fun r hr => by rw [(hodd r hr).1]; exact hod r hr) ss (100 ^ nr) a2 a4 a3
        have hC3 := zCo_fr hC2 f2
        obtain ⟨I3, b1, b2, -, b3⟩ := q_layAll (J := J) (t := t) (u := u) (i := i) (f := f) (s := t) (x := x) hC3
        rw [zKy_fr f2] at b3
        have hC4 := zCo_fr hC3 b2
        obtain ⟨I4, d2, d1⟩ := m_crowdL (J := J) (t := t) (u := u) (i := i) (f := f) (s := t) (x := x) hC2 hbn hob w hod ss (100 ^ nr) (zfr_trans f2 b2) b3
        have hp100 : 100 ^ nr ≤ 100 ^ 6 := Nat.pow_le_pow_right (by decide) hnr
        have hpw : 2 ^ nr ≤ 64 := Nat.le_trans (Nat.pow_le_pow_right (by decide) hnr) (by decide)
        have hU := zcw_le (D := fun set => zrn (zpd od set) nr 0 1) (B := fun set => !decide (ss < nI (zst sh (zps (zL I nt nb nr q om LW set) b)))) (M := 100 ^ 6) (fun k => Nat.le_trans (zpd_le (fun r hr => (hod r hr).2) k nr (Nat.le_refl _)) hp100) (2 ^ nr)
        have hU2 : 2 ^ nr * 100 ^ 6 ≤ 64 * 100 ^ 6 := Nat.mul_le_mul_right _ hpw
        generalize zrn (zcw (fun set => zrn (zpd od set) nr 0 1) (fun set => !decide (ss < nI (zst sh (zps (zL I nt nb nr q om LW set) b))))) (2 ^ nr) 0 0 = U at c1 d1 hU
        have hlow : 0 < 100 ^ nr := Nat.pow_pos (by decide)
        generalize hlo : 100 ^ nr = lo at c1 d1 hp100 hlow
        have hg : 0 < Nat.gcd U lo := Nat.gcd_pos_of_pos_right _ hlow
        have hgl : Nat.gcd U lo ≤ lo := Nat.le_of_dvd hlow (Nat.gcd_dvd_right _ _)
        have hUb : U ≤ 64 * 100 ^ 6 := Nat.le_trans hU hU2
        have gx : f_W_commonDivisor (lN U) (lN lo) = some (lN (Nat.gcd U lo)) := by
          unfold f_W_commonDivisor
          exact g_W_gcdL 50 U lo 0 zfu (by omega) (by omega) (by decide) (by decide) (zfu_lt (by decide))
        have gm : f_M_common (lN lo) (lN U) = some (lN (Nat.gcd U lo)) := by
          unfold f_M_common
          rw [Nat.gcd_comm U lo]
          exact g_M_gcdL 55 lo U zfu (by omega) (by omega) (by decide) (zfu_lt (by decide))
        have nz : znZ (lN (Nat.gcd U lo)) = some (lN (Nat.gcd U lo)) := znZ_ne (by rw [zlN0 (by omega)]; omega)
        have nc : ¬ lg_cmp (lN (Nat.gcd U lo)) 0 = 0 := by rw [zlcmp0, zlN0 (by omega)]; omega
        have hx : ∃ v, f_W_crowd_129 (zs I2 J (zPt t u i f t x)) w (lN U) (lN lo) = some (v, (zs I2 J (zPt t u i f t x))) ∧ f_M_crowd_174 (zs I4 J (zPt t u i f t x)) w (lN U) (lN lo) = some (v, (zs I4 J (zPt t u i f t x))) := by
          rcases hw2 with rfl | rfl
          · refine ⟨lN U / lN (Nat.gcd U lo), ?_, ?_⟩
            · simp (disch := (first | omega | assumption)) only [f_W_crowd_129, f_W_crowd_149, zbs, nI_add, pk_mul, znI_add1, znI_sub1, znI_subm, zle_nI, zlt_nI, zeq_nI, zle_0, zeq_0, zlt_0, zeq_m, zeq_1, zge_0, zbt0, zbt1, zB_0, zB_1, zB_b, zbool_0, zbool_1, ↓reduceIte, gx, nc, nz]
            · simp (disch := (first | omega | assumption)) only [f_M_crowd_174, zbs, nI_add, pk_mul, znI_add1, znI_sub1, znI_subm, zle_nI, zlt_nI, zeq_nI, zle_0, zeq_0, zlt_0, zeq_m, zeq_1, zge_0, zbt0, zbt1, zB_0, zB_1, zB_b, zbool_0, zbool_1, ↓reduceIte, gm, nz]
          · refine ⟨lN lo / lN (Nat.gcd U lo), ?_, ?_⟩
            · simp (disch := (first | omega | assumption)) only [f_W_crowd_129, f_W_crowd_149, zbs, nI_add, pk_mul, znI_add1, znI_sub1, znI_subm, zle_nI, zlt_nI, zeq_nI, zle_0, zeq_0, zlt_0, zeq_m, zeq_1, zge_0, zbt0, zbt1, zB_0, zB_1, zB_b, zbool_0, zbool_1, ↓reduceIte, gx, nc, nz, n10]
            · simp (disch := (first | omega | assumption)) only [f_M_crowd_174, zbs, nI_add, pk_mul, znI_add1, znI_sub1, znI_subm, zle_nI, zlt_nI, zeq_nI, zle_0, zeq_0, zlt_0, zeq_m, zeq_1, zge_0, zbt0, zbt1, zB_0, zB_1, zB_b, zbool_0, zbool_1, ↓reduceIte, gm, nz, n10]
        obtain ⟨v, v1, v2⟩ := hx
        have m2' := g_M_isBook (J := J) (t := t) (u := u) (i := i) (f := f) (s := t) (x := x) hC3.2.1.1.2.1.1 hnb (nI b)
        have m3' := g_M_isOut (J := J) (t := t) (u := u) (i := i) (f := f) (s := t) (x := x) hC3.2.2.2.2.1.1 hom (show b < 10 by omega)
        have m4' := g_M_isIn1 w
        rw [hb] at m2'
        rw [hob] at m3'
        rw [hw] at m4'
        have x0 := x_crowd0 (J := J) (t := t) (u := u) (i := i) (f := f) (s := t) (x := x) ht a4.2.2.1 hnr (nI b) ss w
        have m0 := m_crowd0 (J := J) (t := t) (u := u) (i := i) (f := f) (s := t) (x := x) hC4.2.1.1.2.2.1.1 hnr (nI b) ss w
        rw [hlo] at x0 m0
        refine ⟨v, I2, J, t, I4, J, ?_, ?_, d2, Or.inr rfl⟩
        · show f_W_crowd _ 0 _ _ _ = _
          rcases hw2 with rfl | rfl
          · simp (disch := (first | omega | assumption)) only [f_W_crowd, f_W_crowd_21, zg_11, gp_11_9, gp_11_2, gp_11_5, zbs, nI_add, pk_mul, znI_add1, znI_sub1, znI_subm, zle_nI, zlt_nI, zeq_nI, zle_0, zeq_0, zlt_0, zeq_m, zeq_1, zge_0, zbt0, zbt1, zB_0, zB_1, zB_b, zbool_0, zbool_1, ↓reduceIte, x2, a1, Bool.true_eq_false, Bool.not_false]
            exact x0.trans (c1.trans v1)
          · simp (disch := (first | omega | assumption)) only [f_W_crowd, f_W_crowd_21, zg_11, gp_11_9, gp_11_2, gp_11_5, zbs, nI_add, pk_mul, znI_add1, znI_sub1, znI_subm, zle_nI, zlt_nI, zeq_nI, zle_0, zeq_0, zlt_0, zeq_m, zeq_1, zge_0, zbt0, zbt1, zB_0, zB_1, zB_b, zbool_0, zbool_1, ↓reduceIte, x2, a1, n10, Bool.true_eq_false, Bool.not_false]
            exact x0.trans (c1.trans v1)
        · show f_M_crowd _ 91 _ _ _ = _
          simp (disch := (first | omega | assumption)) only [f_M_crowd, zg_12, zbs, nI_add, pk_mul, znI_add1, znI_sub1, znI_subm, zle_nI, zlt_nI, zeq_nI, zle_0, zeq_0, zlt_0, zeq_m, zeq_1, zge_0, zbt0, zbt1, zB_0, zB_1, zB_b, zbool_0, zbool_1, ↓reduceIte, m2', m3', m4', b1, Bool.true_eq_false]
          exact m0.trans (d1.trans v2)
      · have m4 := g_M_isIn1 w
        rw [hw] at m4
        refine ⟨-1, I, J, s, I, J, ?_, ?_, zfr_refl _ _, Or.inl rfl⟩
        · show f_W_crowd _ 0 _ _ _ = _
          simp (disch := (first | omega | assumption)) only [f_W_crowd, zg_11, zbs, nI_add, pk_mul, znI_add1, znI_sub1, znI_subm, zle_nI, zlt_nI, zeq_nI, zle_0, zeq_0, zlt_0, zeq_m, zeq_1, zge_0, zbt0, zbt1, zB_0, zB_1, zB_b, zbool_0, zbool_1, ↓reduceIte, x2, hw0, hw1, Bool.true_eq_false, Bool.not_false]
        · show f_M_crowd _ 91 _ _ _ = _
          simp (disch := (first | omega | assumption)) only [f_M_crowd, zg_12, zbs, nI_add, pk_mul, znI_add1, znI_sub1, znI_subm, zle_nI, zlt_nI, zeq_nI, zle_0, zeq_0, zlt_0, zeq_m, zeq_1, zge_0, zbt0, zbt1, zB_0, zB_1, zB_b, zbool_0, zbool_1, ↓reduceIte, m2, m3, m4, Bool.true_eq_false]
  · rw [hb] at m2
    have x2 := g_W_isHere0 (J := J) (t := t) (u := u) (i := i) (f := f) (s := s) (x := x) ht hX.2.1.1 hb
    refine ⟨-1, I, J, s, I, J, ?_, ?_, zfr_refl _ _, Or.inl rfl⟩
    · show f_W_crowd _ 0 _ _ _ = _
      simp (disch := (first | omega | assumption)) only [f_W_crowd, zg_11, zbs, nI_add, pk_mul, znI_add1, znI_sub1, znI_subm, zle_nI, zlt_nI, zeq_nI, zle_0, zeq_0, zlt_0, zeq_m, zeq_1, zge_0, zbt0, zbt1, zB_0, zB_1, zB_b, zbool_0, zbool_1, ↓reduceIte, x2]
    · show f_M_crowd _ 91 _ _ _ = _
      simp (disch := (first | omega | assumption)) only [f_M_crowd, zg_12, zbs, nI_add, pk_mul, znI_add1, znI_sub1, znI_subm, zle_nI, zlt_nI, zeq_nI, zle_0, zeq_0, zlt_0, zeq_m, zeq_1, zge_0, zbt0, zbt1, zB_0, zB_1, zB_b, zbool_0, zbool_1, ↓reduceIte, m2]
end ZCr
