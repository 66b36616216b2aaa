/-! numbers -/
theorem zlit (n : Nat) : (OfNat.ofNat n : Int32) = nI n := rfl
theorem zm1 : (-1 : Int32).toInt = -1 := by decide
theorem znI_inj {a b : Nat} (ha : a < 2 ^ 31) (hb : b < 2 ^ 31) (h : nI a = nI b) : a = b := (nI_eq ha hb).mp h
theorem znI_ne_m1 {a : Nat} (ha : a < 2 ^ 31) : ¬ nI a = (-1) := by
  intro h
  have := congrArg Int32.toInt h
  rw [nI_toInt ha, zm1] at this
  omega
theorem zs_l : ∀ n, n < 32 → ((nI n &&& 31).toBitVec.smod 32).toNat = n := by decide +kernel
/-- a bit of a small mask -/
theorem zbit {k j : Nat} (hk : k < 2 ^ 31) (hj : j < 32) : (nI k >>> (nI j &&& 31)) &&& 1 = nI ((k.testBit j).toNat) := by
  rw [pk_shrN hk (nI j &&& 31) j (zs_l j hj), pk_andN (Nat.lt_of_le_of_lt (Nat.div_le_self _ _) (by omega)) 1 (by decide)]
  congr 1
  rw [Nat.testBit_eq_decide_div_mod_eq]
  have : k / 2 ^ j % 2 = 0 ∨ k / 2 ^ j % 2 = 1 := by omega
  rcases this with h | h <;> simp [h]
theorem zbit0 {k j : Nat} (hk : k < 2 ^ 31) (hj : j < 32) : ((nI k >>> (nI j &&& 31)) &&& 1 = 0) ↔ k.testBit j = false := by
  rw [zbit hk hj]
  cases k.testBit j <;> decide
theorem zbit1 {k j : Nat} (hk : k < 2 ^ 31) (hj : j < 32) : ((nI k >>> (nI j &&& 31)) &&& 1 = 1) ↔ k.testBit j = true := by
  rw [zbit hk hj]
  cases k.testBit j <;> decide
/-- an argument against a count -/
theorem zarg (x : Int32) (n : Nat) (hn : n < 2 ^ 31) : (x < 0 ∨ nI n ≤ x) ∨ ∃ k, k < n ∧ x = nI k := by
  rcases pk_ix x hn with h | h | h
  · exact Or.inl (Or.inl h)
  · exact Or.inl (Or.inr h)
  · exact Or.inr h
section ZPil
variable {I : Nat → Nat → Int32} {J : Nat → Nat → Int64} {t u i f s x : Nat}
theorem g_S_keyFor {r b : Nat} (hr : r < 6) (hb : b < 10) : f_S_keyFor (zs I J (zPt t u i f s x)) 47 (nI r) (nI b) = some (I 48 (10 * r + b)) := by
  have e : nI r * 10 + nI b = nI (10 * r + b) := by
    rw [zlit, pk_mul, nI_add, Nat.mul_comm]
  simp only [f_S_keyFor, zs_g zlay.2.2.2.2.2.2.2.2.2.2.2.2.2.2.2.2.2.2.2.2.2.2.2.2.2.2.2.2.2.2.2.2.2.2.2.2.2.2.2.2.2.2.2.2.2.2.2.1]
  simp only [zgP, zaI, zok, zs_1, zs_I, zs_P, zlay, zptr, if_true, Option.bind_some, e, zin_nI (show 10 * r + b < 60 by omega) (by decide), beq_self_eq_true, Bool.and_self, nI_clamp (show 10 * r + b < 2 ^ 31 by omega)]
end ZPil
