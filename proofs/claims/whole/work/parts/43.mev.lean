/-! the reference's formulas: worked() -/
theorem g_M_truth (v : Int32) : f_M_truth v = some (if v = 0 then 0 else 1) := by
  unfold f_M_truth
  split <;> rfl
/-- a sign of the reference's, and the mark that the class has for it -/
def zsg : List (Int32 × Int32) := [(43, -43), (45, -45), (42, -42), (47, -47), (37, -37), (60, -60), (62, -62), (61, -61), (38, -12), (124, -11)]
theorem g_M_done {c m : Int32} (h : (c, m) ∈ zsg) (a b : Int32) : f_M_done c a b = some (zjn m a b) := by
  have n1 : ¬ (1 : Int32) = 0 := by decide
  simp only [zsg, List.mem_cons, List.not_mem_nil, or_false, Prod.mk.injEq] at h
  rcases h with ⟨rfl, rfl⟩ | ⟨rfl, rfl⟩ | ⟨rfl, rfl⟩ | ⟨rfl, rfl⟩ | ⟨rfl, rfl⟩ | ⟨rfl, rfl⟩ | ⟨rfl, rfl⟩ | ⟨rfl, rfl⟩ | ⟨rfl, rfl⟩ | ⟨rfl, rfl⟩
  · simp [f_M_done, zjn]
  · simp [f_M_done, zjn]
  · simp [f_M_done, zjn]
  · by_cases h : b = 0 <;> simp [f_M_done, zjn, h, znz_ne]
  · by_cases h : b = 0 <;> simp [f_M_done, zjn, h, znz_ne]
  · by_cases h : b ≤ a
    · simp [f_M_done, f_M_done_166, f_M_done_180, f_M_done_194, g_M_truth, zjn, h, ztr, Int32.not_lt.mpr h]
    · simp [f_M_done, f_M_done_166, f_M_done_180, f_M_done_194, g_M_truth, zjn, h, ztr, Int32.not_le.mp h]
  · by_cases h : a ≤ b
    · simp [f_M_done, f_M_done_166, f_M_done_180, f_M_done_194, g_M_truth, zjn, h, ztr, Int32.not_lt.mpr h]
    · simp [f_M_done, f_M_done_166, f_M_done_180, f_M_done_194, g_M_truth, zjn, h, ztr, Int32.not_le.mp h]
  · by_cases h : a = b <;> simp [f_M_done, f_M_done_166, f_M_done_180, f_M_done_194, g_M_truth, zjn, h, ztr]
  · by_cases h : a = 0 <;> by_cases h2 : b = 0 <;> simp [f_M_done, f_M_done_210, f_M_done_211, g_M_truth, zjn, h, h2, ztr]
  · by_cases h : a = 0 <;> by_cases h2 : b = 0 <;> simp [f_M_done, f_M_done_215, f_M_done_223, f_M_done_228, g_M_truth, zjn, h, h2, ztr]
/-- a step of the reference's, and the mark that the class has for it -/
def zenc (st ar m : Int32) : Prop := (st = 0 ∧ ar = m ∧ 0 ≤ m) ∨ (st = 1 ∧ ∃ j, j < 6 ∧ ar = nI j ∧ m = (-1) - nI j) ∨ (st = 2 ∧ m = -13) ∨ (st = 3 ∧ (ar, m) ∈ zsg)
theorem zsg_lt : ∀ q ∈ zsg, q.2 ≤ -7 ∧ ¬ q.2 = -13 := by decide
theorem zask : ∀ j, j < 6 → ¬ ((-1 : Int32) - nI j ≤ -7) ∧ (-1 : Int32) - nI j < 0 ∧ ((-1 : Int32) - ((-1) - nI j)).toNatClampNeg = j := by decide +kernel
theorem znn {m : Int32} (h : 0 ≤ m) : ¬ m ≤ -7 ∧ ¬ m < 0 := by
  rw [Int32.le_iff_toInt_le] at h
  rw [Int32.le_iff_toInt_le, Int32.lt_iff_toInt_lt]
  have h0 : (0 : Int32).toInt = 0 := by decide
  have h7 : (-7 : Int32).toInt = -7 := by decide
  omega
