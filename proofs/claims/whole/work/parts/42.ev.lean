/-! formulas: what comes of a row of marks, on a list for a stack -/
theorem zup_zro {α : Type} (f : Nat → Nat → α) (a k : Nat) (r : Nat → α) (v : α) : zup (zro f a r) a k v = zro f a (va_up r k v) := by
  funext x
  unfold zup zro
  by_cases h : x = a <;> simp [h]
theorem zro_zro {α : Type} (f : Nat → Nat → α) (a : Nat) (r q : Nat → α) : zro (zro f a r) a q = zro f a q := by
  funext x
  unfold zro
  by_cases h : x = a <;> simp [h]
theorem zro_id {α : Type} (f : Nat → Nat → α) (a : Nat) : zro f a (f a) = f := by
  funext x
  unfold zro
  by_cases h : x = a <;> simp [h]
theorem zro_at {α : Type} (f : Nat → Nat → α) (a : Nat) (r : Nat → α) (k : Nat) : zro f a r a k = r k := by simp [zro]
def ztr (c : Bool) : Int32 := if c = true then 1 else 0
def zjn (m a b : Int32) : Int32 :=
  if m = -62 then ztr (decide (b < a)) else if m = -61 then ztr (decide (a = b)) else if m = -60 then ztr (decide (a < b)) else if m = -47 then (if b = 0 then 0 else a / b) else
  if m = -45 then a - b else if m = -43 then a + b else if m = -42 then a * b else if m = -12 then ztr (decide (¬ a = 0 ∧ ¬ b = 0)) else if m = -11 then ztr (decide (¬ a = 0 ∨ ¬ b = 0)) else (if b = 0 then 0 else zrem a b)
theorem g_F_asNumber (v : Int32) : f_F_asNumber v = some (if v = 0 then 0 else 1) := by
  unfold f_F_asNumber
  split <;> rfl
theorem znz_ne {x : Int32} (h : ¬ x = 0) : znz x = some x := by simp [znz, h]
theorem g_F_joined (m a b : Int32) : f_F_joined m a b = some (zjn m a b) := by
  have n1 : ¬ (1 : Int32) = 0 := by decide
  unfold f_F_joined zjn
  simp only [f_F_joined_142, f_F_joined_156, f_F_joined_128, f_F_joined_113, f_F_joined_114, f_F_joined_97, f_F_joined_92, g_F_asNumber, Option.bind_some, n1, if_true, if_false]
  split
  · by_cases h : a ≤ b
    · simp [h, ztr, Int32.not_lt.mpr h]
    · simp [h, ztr, Int32.not_le.mp h]
  split
  · by_cases h : a = b <;> simp [h, ztr]
  split
  · by_cases h : b ≤ a
    · simp [h, ztr, Int32.not_lt.mpr h]
    · simp [h, ztr, Int32.not_le.mp h]
  split
  · by_cases h : b = 0 <;> simp [h, znz_ne]
  split
  · rfl
  split
  · rfl
  split
  · rfl
  split
  · by_cases h : a = 0 <;> by_cases h2 : b = 0 <;> simp [h, h2, ztr]
  split
  · by_cases h : a = 0 <;> by_cases h2 : b = 0 <;> simp [h, h2, ztr]
  · by_cases h : b = 0 <;> simp [h, znz_ne]
def zstep (wd : Nat → Int32) (m : Int32) (st : List Int32) : List Int32 :=
  if m ≤ -7 then (if m = -13 then (match st with | a :: r => ztr (decide (a = 0)) :: r | [] => []) else (match st with | b :: a :: r => zjn m a b :: r | st => st))
  else (if m < 0 then wd ((-1) - m).toNatClampNeg else m) :: st
def zevl (wd : Nat → Int32) : List Int32 → List Int32 → List Int32
  | [], st => st
  | m :: ms, st => zevl wd ms (zstep wd m st)
/-- a row of marks that can be worked off, d numbers lying there: at most 30 at a time, one at the end -/
def zval : List Int32 → Nat → Prop
  | [], d => d = 1
  | m :: ms, d => (m ≤ -7 ∧ m = -13 ∧ 1 ≤ d ∧ zval ms d) ∨ (m ≤ -7 ∧ ¬ m = -13 ∧ 2 ≤ d ∧ zval ms (d - 1)) ∨ (¬ m ≤ -7 ∧ d < 30 ∧ zval ms (d + 1))
def zev (wd : Nat → Int32) (ms : List Int32) : Int32 := (zevl wd ms []).headD 0
/-- a list as it lies in a row, the bottom first -/
def zstk (row : Nat → Int32) (st : List Int32) : Prop := ∀ k, k < st.length → st[k]? = some (row (st.length - 1 - k))
theorem zstk_nil (row : Nat → Int32) : zstk row [] := fun k h => absurd h (Nat.not_lt_zero _)
theorem zstk_push {row : Nat → Int32} {st : List Int32} (h : zstk row st) (v : Int32) : zstk (va_up row st.length v) (v :: st) := by
  intro k hk
  cases k with
  | zero => simp [va_up]
  | succ k =>
    simp only [List.length_cons] at hk
    have := h k (by omega)
    simp only [List.length_cons, List.getElem?_cons_succ, this]
    rw [va_up_ne _ _ (by omega)]
    congr 2
    omega
theorem zstk_pop {row : Nat → Int32} {st : List Int32} {a : Int32} (h : zstk row (a :: st)) : zstk row st ∧ row st.length = a := by
  refine ⟨fun k hk => ?_, ?_⟩
  · have := h (k + 1) (by simp; omega)
    simp only [List.getElem?_cons_succ, List.length_cons] at this
    rw [this]
    congr 2
    omega
  · have := h 0 (by simp)
    simp only [List.getElem?_cons_zero, List.length_cons] at this
    have := Option.some.inj this
    rw [this]
    congr 1
theorem zstk_upd {row : Nat → Int32} {st : List Int32} {j : Nat} {v : Int32} (h : zstk row st) (hj : st.length ≤ j) : zstk (va_up row j v) st := by
  intro k hk
  rw [h k hk, va_up_ne _ _ (by omega)]
theorem zm7 : ¬ ((0 : Int32) ≤ -7) := by decide
section ZEv
variable {I : Nat → Nat → Int32} {J : Nat → Nat → Int64} {P : Nat → Nat → Option Nat}
/-- m between -6 and -1: which word -/
theorem zword {m : Int32} (h1 : ¬ m ≤ -7) (h2 : m < 0) : ∃ j, j < 6 ∧ (-1) - m = nI j := by
  rw [Int32.le_iff_toInt_le] at h1
  rw [Int32.lt_iff_toInt_lt] at h2
  rw [show (-7 : Int32).toInt = -7 from by decide] at h1
  rw [show (0 : Int32).toInt = 0 from by decide] at h2
  have hs : ((-1) - m).toInt = -1 - m.toInt := by
    rw [Int32.toInt_sub, show (-1 : Int32).toInt = -1 from by decide, Int.bmod_eq_of_le] <;> omega
  refine ⟨(-1 - m.toInt).toNat, by omega, ?_⟩
  rw [← Int32.toInt_inj, hs, nI_toInt (by omega)]
  omega
theorem zle_nI {a b : Nat} (ha : a < 2 ^ 31) (hb : b < 2 ^ 31) : (nI a ≤ nI b) = (a ≤ b) := propext (nI_leI ha hb)
theorem zlt_nI {a b : Nat} (ha : a < 2 ^ 31) (hb : b < 2 ^ 31) : (nI a < nI b) = (a < b) := propext (nI_ltI ha hb)
theorem znI_add1 (a : Nat) : nI a + 1 = nI (a + 1) := nI_1 a
theorem znI_sub1 (a : Nat) : nI (a + 1) - 1 = nI a := nI_pred a
theorem znI_subm (a : Nat) : nI (a + 1) + (-1) = nI a := pk_m1 a
theorem g_F_loop {F wa : Nat} (hF : zLAY[F]? = some (0, 2)) (hM : zLAY[F + 1]? = some (1, 270)) (hT : zLAY[F + 2]? = some (1, 30)) (hw : zLAY[wa]? = some (1, 6)) (hP0 : P F 0 = some (F + 1)) (hP1 : P F 1 = some (F + 2)) (hne : wa ≠ F + 2) {LW : List Int32} (hn : I F 2 = nI LW.length) (hlen : LW.length ≤ 270) (hm : ∀ k, k < LW.length → LW[k]? = some (I (F + 1) k)) :
    ∀ (ms st : List Int32) (row : Nat → Int32) (k fuel : Nat), LW.drop k = ms → k + ms.length = LW.length → zstk row st → zval ms st.length → st.length ≤ 30 → ms.length < fuel →
      ∃ row', f_F_value_4L fuel (zs (zro I (F + 2) row) J P) F wa (nI st.length) (nI k) = some ((zevl (I wa) ms st).headD 0, zs (zro I (F + 2) row') J P) := by
  have c30 : (30 : Int32) = nI 30 := rfl
  have c0 : (0 : Int32) = nI 0 := rfl
  have c1 : (1 : Int32) = nI 1 := rfl
  have e1 : F ≠ F + 2 := by omega
  have e2 : F + 1 ≠ F + 2 := by omega
  intro ms
  induction ms with
  | nil =>
    intro st row k fuel hd hkl hs hv hl hf
    obtain ⟨n, rfl⟩ : ∃ n, fuel = n + 1 := ⟨fuel - 1, by omega⟩
    simp only [List.length_nil, Nat.add_zero] at hkl
    have h1 : st.length = 1 := hv
    obtain ⟨a, rfl⟩ : ∃ a, st = [a] := by
      match st, h1 with
      | [a], _ => exact ⟨a, rfl⟩
    have ha := (zstk_pop hs).2
    simp only [List.length_nil] at ha
    show ∃ row', f_F_value_4 _ _ _ _ _ _ = _
    refine ⟨row, ?_⟩
    unfold f_F_value_4 f_F_value_143
    simp only [zs_gI hF, Option.bind_some, zro_ne _ _ e1, hn, hkl, Int32.le_refl, if_true, List.length_singleton]
    rw [if_neg (by decide)]
    simp only [zs_gP hF, hP1, Option.bind_some, zs_aI hT (show zin 0 30 = true by decide), zro_at]
    show some (row 0, _) = _
    rw [ha]
    rfl
  | cons m ms ih =>
    intro st row k fuel hd hkl hs hv hl hf
    obtain ⟨n, rfl⟩ : ∃ n, fuel = n + 1 := ⟨fuel - 1, by omega⟩
    simp only [List.length_cons] at hkl hf
    have hk : k < LW.length := by omega
    have hmk : I (F + 1) k = m := by
      have h1 := hm k hk
      have h2 : (LW.drop k)[0]? = some m := by rw [hd]; rfl
      rw [List.getElem?_drop, Nat.add_zero, h1] at h2
      exact Option.some.inj h2
    have hd' : LW.drop (k + 1) = ms := by
      rw [← List.drop_drop, hd]
      rfl
    have hk2 : zin (nI k) 270 = true := zin_nI (by omega) (by decide)
    show ∃ row', f_F_value_4 _ _ _ _ _ _ = _
    unfold f_F_value_4
    simp only [zs_gI hF, Option.bind_some, zro_ne _ _ e1, hn, zle_nI (show LW.length < 2 ^ 31 by omega) (show k < 2 ^ 31 by omega), Nat.not_le.mpr hk, if_false, zs_gP hF, hP0, hP1, zs_aI hM hk2, nI_clamp (show k < 2 ^ 31 by omega), zro_ne _ _ e2, hmk, znI_add1]
    rcases hv with ⟨h7, h13, h1, hv⟩ | ⟨h7, h13, h2, hv⟩ | ⟨h7, h30, hv⟩
    · -- not
      obtain ⟨a, st, rfl⟩ : ∃ a r, st = a :: r := by
        match st, h1 with
        | a :: r, _ => exact ⟨a, r, rfl⟩
      obtain ⟨hs1, ha⟩ := zstk_pop hs
      simp only [List.length_cons] at hl hv ⊢
      rw [if_pos h7, if_pos h13, if_neg (show ¬ nI (st.length + 1) ≤ (0 : Int32) from nI_ge (a := 0) (by omega) (by omega))]
      simp only [znI_sub1, zs_aI hT (zin_nI (show st.length < 30 by omega) (by decide)), Option.bind_some, nI_clamp (show st.length < 2 ^ 31 by omega), zro_at, ha]
      have hz : zstep (I wa) m (a :: st) = ztr (decide (a = 0)) :: st := by simp [zstep, h7, h13]
      have key : ∀ v : Int32, (if v = 0 then (0 : Int32) else 1) = ztr (decide (a = 0)) → ∃ row', f_F_value_95 (f_F_value_4L n) (zs (zro I (F + 2) row) J P) F wa (nI (st.length + 1)) (nI k) v (nI st.length) (F + 2) = some ((zevl (I wa) (m :: ms) (a :: st)).headD 0, zs (zro I (F + 2) row') J P) := by
        intro v hv2
        unfold f_F_value_95
        simp only [g_F_asNumber, Option.bind_some, hv2, zs_wI hT (zin_nI (show st.length < 30 by omega) (by decide)), nI_clamp (show st.length < 2 ^ 31 by omega), zup_zro, znI_add1]
        have := ih (ztr (decide (a = 0)) :: st) (va_up row st.length (znar 1 (ztr (decide (a = 0))))) (k + 1) n hd' (by omega) (zstk_push hs1 _) hv (by simpa using hl) (by omega)
        show ∃ row', _ = some ((zevl (I wa) ms (zstep (I wa) m (a :: st))).headD 0, _)
        rw [hz]
        exact this
      by_cases h0 : a = 0
      · rw [if_pos h0]
        exact key 1 (by rw [h0]; decide)
      · rw [if_neg h0]
        exact key 0 (by simp [ztr, h0])
    · obtain ⟨x, y, st, rfl⟩ : ∃ x y r, st = x :: y :: r := by
        match st, h2 with
        | x :: y :: r, _ => exact ⟨x, y, r, rfl⟩
      obtain ⟨hs1, hx⟩ := zstk_pop hs
      obtain ⟨hs2, hy⟩ := zstk_pop hs1
      simp only [List.length_cons] at hl hv hx ⊢
      rw [if_pos h7, if_neg h13, if_neg (show ¬ nI (st.length + 1 + 1) ≤ (1 : Int32) from nI_ge (a := 1) (by omega) (by omega))]
      simp only [znI_subm, znI_sub1, zs_aI hT (zin_nI (show st.length < 30 by omega) (by decide)), zs_aI hT (zin_nI (show st.length + 1 < 30 by omega) (by decide)), Option.bind_some, nI_clamp (show st.length < 2 ^ 31 by omega), nI_clamp (show st.length + 1 < 2 ^ 31 by omega), zro_at, hx, hy, g_F_joined, zs_wI hT (zin_nI (show st.length < 30 by omega) (by decide)), zup_zro]
      have hz : zstep (I wa) m (x :: y :: st) = zjn m y x :: st := by simp [zstep, h7, h13]
      show ∃ row', _ = some ((zevl (I wa) ms (zstep (I wa) m (x :: y :: st))).headD 0, _)
      rw [hz]
      exact ih (zjn m y x :: st) (va_up row st.length (znar 1 (zjn m y x))) (k + 1) n hd' (by omega) (zstk_push hs2 _) hv (by simp; omega) (by omega)
    · rw [if_neg h7, if_neg (show ¬ (30 : Int32) ≤ nI st.length from nI_ge (b := 30) h30 (by decide))]
      have hst : zin (nI st.length) 30 = true := zin_nI h30 (by decide)
      by_cases h0 : m < 0
      · obtain ⟨j, hj, hjm⟩ := zword h7 h0
        rw [if_pos h0]
        simp only [hjm, zs_aI hw (zin_nI hj (by decide)), Option.bind_some, zro_ne _ _ hne, nI_clamp (show j < 2 ^ 31 by omega), zs_wI hT hst, nI_clamp (show st.length < 2 ^ 31 by omega), zup_zro, znI_add1]
        have hz : zstep (I wa) m st = I wa j :: st := by simp [zstep, h7, h0, hjm, nI_clamp (show j < 2 ^ 31 by omega)]
        show ∃ row', _ = some ((zevl (I wa) ms (zstep (I wa) m st)).headD 0, _)
        rw [hz]
        exact ih (I wa j :: st) (va_up row st.length (znar 1 (I wa j))) (k + 1) n hd' (by omega) (zstk_push hs _) hv (by simp; omega) (by omega)
      · rw [if_neg h0]
        simp only [zs_wI hT hst, Option.bind_some, nI_clamp (show st.length < 2 ^ 31 by omega), zup_zro, znI_add1]
        have hz : zstep (I wa) m st = m :: st := by simp [zstep, h7, h0]
        show ∃ row', _ = some ((zevl (I wa) ms (zstep (I wa) m st)).headD 0, _)
        rw [hz]
        exact ih (m :: st) (va_up row st.length (znar 1 m)) (k + 1) n hd' (by omega) (zstk_push hs _) hv (by simp; omega) (by omega)
/-- Formula.value -/
theorem g_F_value {F wa : Nat} (hF : zLAY[F]? = some (0, 2)) (hM : zLAY[F + 1]? = some (1, 270)) (hT : zLAY[F + 2]? = some (1, 30)) (hw : zLAY[wa]? = some (1, 6)) (hP0 : P F 0 = some (F + 1)) (hP1 : P F 1 = some (F + 2)) (hne : wa ≠ F + 2) {LW : List Int32} (hn : I F 2 = nI LW.length) (hlen : LW.length ≤ 270) (hm : ∀ k, k < LW.length → LW[k]? = some (I (F + 1) k)) (hv : zval LW 0) :
    ∃ row', f_F_value (zs I J P) F wa = some (zev (I wa) LW, zs (zro I (F + 2) row') J P) := by
  unfold f_F_value
  rw [zs_g hF]
  have := g_F_loop (J := J) hF hM hT hw hP0 hP1 hne hn hlen hm LW [] (I (F + 2)) 0 zfu rfl (by simp) (zstk_nil _) hv (by simp) (by unfold zfu; omega)
  rw [zro_id] at this
  exact this
end ZEv
