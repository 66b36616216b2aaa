/-! bits of small masks -/
theorem zI_ext {a b : Int32} (h : a.toBitVec.toNat = b.toBitVec.toNat) : a = b := Int32.toBitVec_inj.mp (BitVec.eq_of_toNat_eq h)
theorem znand {a b : Nat} (ha : a < 2 ^ 32) (hb : b < 2 ^ 32) : nI a &&& nI b = nI (a &&& b) := by
  apply zI_ext
  rw [Int32.toBitVec_and, BitVec.toNat_and, pk_tn ha, pk_tn hb, pk_tn (Nat.and_lt_two_pow a hb)]
theorem znxor {a b : Nat} (ha : a < 2 ^ 32) (hb : b < 2 ^ 32) : nI a ^^^ nI b = nI (a ^^^ b) := by
  apply zI_ext
  rw [Int32.toBitVec_xor, BitVec.toNat_xor, pk_tn ha, pk_tn hb, pk_tn (Nat.xor_lt_two_pow ha hb)]
theorem znor {a b : Nat} (ha : a < 2 ^ 32) (hb : b < 2 ^ 32) : nI a ||| nI b = nI (a ||| b) := by
  apply zI_ext
  rw [Int32.toBitVec_or, BitVec.toNat_or, pk_tn ha, pk_tn hb, pk_tn (Nat.or_lt_two_pow ha hb)]
theorem zm1n : (-1 : Int32).toBitVec.toNat = 2 ^ 32 - 1 := by decide
theorem ztb_10 {w j : Nat} (hw : w < 1024) (hj : 10 ≤ j) : w.testBit j = false := Nat.testBit_lt_two_pow (Nat.lt_of_lt_of_le (show w < 2 ^ 10 from hw) (Nat.pow_le_pow_right (by decide) hj))
theorem znnot {w c : Nat} (hw : w < 1024) (hc : c < 2 ^ 31) : nI w &&& (nI c ^^^ (-1)) = nI (w &&& (1023 ^^^ c)) := by
  apply zI_ext
  have h1 : w &&& (1023 ^^^ c) < 2 ^ 32 := Nat.lt_of_le_of_lt Nat.and_le_left (by omega)
  rw [Int32.toBitVec_and, BitVec.toNat_and, Int32.toBitVec_xor, BitVec.toNat_xor, pk_tn (by omega), pk_tn (by omega), zm1n, pk_tn h1]
  apply Nat.eq_of_testBit_eq
  intro j
  rw [Nat.testBit_and, Nat.testBit_and, Nat.testBit_xor, Nat.testBit_xor, Nat.testBit_two_pow_sub_one, show (1023 : Nat) = 2 ^ 10 - 1 from rfl, Nat.testBit_two_pow_sub_one]
  by_cases hj : j < 10
  · simp [hj, show j < 32 by omega]
  · rw [ztb_10 hw (by omega)]
    simp
theorem zshl1 : ∀ k, k < 31 → (1 : Int32) <<< (nI k &&& 31) = nI (2 ^ k) := by decide +kernel
/-- one is taken out -/
def zclr (w b : Nat) : Nat := w &&& (1023 ^^^ 2 ^ b)
theorem zclr_b {w b : Nat} (hw : w < 1024) : (fun j => (zclr w b).testBit j) = zwo (fun j => w.testBit j) b := by
  funext j
  unfold zclr zwo
  rw [Nat.testBit_and, Nat.testBit_xor, show (1023 : Nat) = 2 ^ 10 - 1 from rfl, Nat.testBit_two_pow_sub_one, Nat.testBit_two_pow]
  by_cases hj : j < 10
  · by_cases hb : b = j
    · subst hb; simp [hj]
    · have : j ≠ b := fun h => hb h.symm
      simp [hj, hb, this]
  · have := ztb_10 hw (show 10 ≤ j by omega)
    simp [this]
theorem zclr_lt {w b : Nat} (hw : w < 1024) : zclr w b < 1024 := Nat.lt_of_le_of_lt Nat.and_le_left hw
theorem zclr_I {w b : Nat} (hw : w < 1024) (hb : b < 10) : nI w &&& ((1 <<< (nI b &&& 31)) ^^^ (-1)) = nI (zclr w b) := by
  rw [zshl1 b (by omega), znnot hw (Nat.lt_of_lt_of_le (Nat.pow_lt_pow_right (by decide) hb) (by decide))]
  rfl
/-- what is here: told, not out -/
def zhm (nb om : Nat) : Nat := (2 ^ nb - 1) &&& (1023 ^^^ om)
theorem zhm_I {nb om : Nat} (hn : nb ≤ 10) (ho : om < 1024) : ((1 <<< (nI nb &&& 31)) - 1) &&& (nI om ^^^ (-1)) = nI (zhm nb om) := by
  have h1 : 2 ^ nb ≤ 1024 := Nat.le_trans (Nat.pow_le_pow_right (by decide) hn) (by decide)
  have h2 : 0 < 2 ^ nb := Nat.two_pow_pos nb
  obtain ⟨p, hp⟩ : ∃ p, 2 ^ nb = p + 1 := ⟨2 ^ nb - 1, by omega⟩
  rw [zshl1 nb (by omega), hp, znI_sub1, znnot (by omega) (by omega)]
  unfold zhm
  rw [hp]
  rfl
theorem zhm_b {nb om b : Nat} (hn : nb ≤ 10) : (zhm nb om).testBit b = (decide (b < nb) && !om.testBit b) := by
  unfold zhm
  rw [Nat.testBit_and, Nat.testBit_xor, show (1023 : Nat) = 2 ^ 10 - 1 from rfl, Nat.testBit_two_pow_sub_one, Nat.testBit_two_pow_sub_one]
  by_cases hb : b < nb
  · simp [hb, show b < 10 by omega]
  · simp [hb]
theorem zhm_lt {nb om : Nat} (hn : nb ≤ 10) : zhm nb om < 1024 := by
  have h1 : 2 ^ nb ≤ 1024 := Nat.le_trans (Nat.pow_le_pow_right (by decide) hn) (by decide)
  have h2 : 0 < 2 ^ nb := Nat.two_pow_pos nb
  exact Nat.lt_of_le_of_lt (m := 2 ^ nb - 1) Nat.and_le_left (by omega)
set_option maxRecDepth 100000 in
theorem zbitCount : ∀ k, k < 1024 → f_J_bitCount (nI k) = some (nI (zct (fun j => k.testBit j) 10)) := by decide +kernel
theorem zne0_bit {w : Nat} (h : w ≠ 0) (hw : w < 1024) : ∃ j, j < 10 ∧ w.testBit j = true := by
  obtain ⟨j, hj⟩ := Nat.exists_testBit_of_ne_zero h
  refine ⟨j, ?_, hj⟩
  by_cases h10 : j < 10
  · exact h10
  · rw [ztb_10 hw (by omega)] at hj
    cases hj
