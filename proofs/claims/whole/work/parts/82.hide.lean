/-! hide: an order as a number -/
def nJ (n : Nat) : Int64 := Int64.ofNat n
theorem nJ_toInt {n : Nat} (h : n < 2 ^ 63) : (nJ n).toInt = (n : Int) := Int64.toInt_ofNat_of_lt h
theorem nI_64 {b : Nat} (h : b < 2 ^ 31) : (nI b).toInt64 = nJ b := Int64.toInt.inj (by rw [Int32.toInt_toInt64, nI_toInt h, nJ_toInt (by omega)])
theorem nJ_dig {a b : Nat} (h : b < 2 ^ 31) : nJ a * 16 + (nI b).toInt64 = nJ (a * 16 + b) := by
  rw [nI_64 h]
  unfold nJ
  rw [Int64.ofNat_add, Int64.ofNat_mul]
  rfl
theorem nJ_dig' {a b : Nat} (h : b < 2 ^ 31) : 16 * nJ a + (nI b).toInt64 = nJ (a * 16 + b) := by
  rw [Int64.mul_comm, nJ_dig h]
theorem nJ_div {a : Nat} (h : a < 2 ^ 63) : nJ a / 16 = nJ (a / 16) := by
  apply Int64.toInt.inj
  rw [Int64.toInt_div_of_ne_right _ _ (by decide), nJ_toInt h, nJ_toInt (by omega)]
  show (a : Int).tdiv 16 = _
  rw [Int.tdiv_eq_ediv_of_nonneg (by omega)]
  omega
theorem nJ_rem {a : Nat} (h : a < 2 ^ 63) : zremL (nJ a) 16 = nJ (a % 16) := by
  unfold zremL
  rw [nJ_div h, show (16 : Int64) = nJ 16 from rfl]
  unfold nJ
  rw [← Int64.ofNat_mul, ← Int64.ofNat_sub _ _ (by omega)]
  congr 1
  omega
theorem zlg_eq (x y : Int64) : lg_cmp x y = 0 ↔ x = y := by
  unfold lg_cmp
  by_cases h : x > y
  · rw [if_pos h]
    constructor
    · intro e; exact absurd e (by decide)
    · intro e; subst e; exact absurd h (by simp [Int64.lt_irrefl])
  · rw [if_neg h]
    by_cases e : x = y
    · rw [if_pos e]; simp [e]
    · rw [if_neg e]
      constructor
      · intro e'; exact absurd e' (by decide)
      · intro e'; exact absurd e' e
theorem nJ_inj {a b : Nat} (ha : a < 2 ^ 63) (hb : b < 2 ^ 63) : nJ a = nJ b ↔ a = b := by
  constructor
  · intro h
    have := congrArg Int64.toInt h
    rw [nJ_toInt ha, nJ_toInt hb] at this
    omega
  · intro h; rw [h]
def zco (L : List Nat) : Nat := L.foldl (fun a b => a * 16 + b) 0
theorem zco_app (L : List Nat) (b : Nat) : zco (L ++ [b]) = zco L * 16 + b := by
  simp [zco, List.foldl_append]
theorem zco_lt : ∀ (n : Nat) (L : List Nat), L.length = n → (∀ b, b ∈ L → b < 10) → zco L < 16 ^ n := by
  intro n
  induction n with
  | zero =>
    intro L h _
    have : L = [] := List.length_eq_zero_iff.mp h
    subst this
    decide
  | succ n ih =>
    intro L h hb
    have hne : L ≠ [] := by intro e; subst e; simp at h
    have e := List.dropLast_concat_getLast hne
    have h1 := ih L.dropLast (by rw [List.length_dropLast]; omega) (fun b hb' => hb b ((List.dropLast_sublist L).subset hb'))
    have h2 := hb (L.getLast hne) (List.getLast_mem hne)
    rw [← e, zco_app, Nat.pow_succ]
    omega
theorem zco_63 {L : List Nat} (hl : L.length ≤ 10) (hb : ∀ b, b ∈ L → b < 10) : zco L < 2 ^ 63 := by
  have h1 := zco_lt L.length L rfl hb
  have h2 : 16 ^ L.length ≤ 16 ^ 10 := Nat.pow_le_pow_right (by decide) hl
  omega
theorem zco_take {L : List Nat} {k b : Nat} (h : L[k]? = some b) : zco (L.take (k + 1)) = zco (L.take k) * 16 + b := by
  rw [List.take_add_one, h]
  exact zco_app _ _
section ZHi
variable {I : Nat → Nat → Int32} {J : Nat → Nat → Int64} {t u i f s x : Nat} {nt nb nr q sh md om im A : Nat} {LW BW : List Int32}
theorem g_S_laidAsNumber {L : List Nat} (hL : zLx I L) (hl : L.length ≤ 10) (hb : ∀ b, b ∈ L → b < 10) : f_S_laidAsNumber (zs I J (zPt t u i f s x)) 47 = some (nJ (zco L)) := by
  obtain ⟨c, a1, a2⟩ := zfor (fun fuel (c : Int64) k => f_S_laidAsNumber_4L fuel (zs I J (zPt t u i f s x)) 47 c (nI k)) L.length (fun k c => c = nJ (zco (L.take k))) (fun c => some c)
    (fun m' k c hk hi => by
      have hle : ¬ L.length ≤ k := by omega
      have hg := List.getElem?_eq_getElem hk
      have e := hL.2 k _ hg
      have hb' := hb _ (List.getElem_mem hk)
      have hd := nJ_dig (a := zco (L.take k)) (b := L[k]) (by omega)
      refine ⟨nJ (zco (L.take (k + 1))), rfl, ?_⟩
      show f_S_laidAsNumber_4L (m' + 1) _ _ _ _ = _
      rw [f_S_laidAsNumber_4L, zco_take hg, ← hd, hi]
      simp (disch := (first | omega | assumption)) only [f_S_laidAsNumber_4, gi_8, gp_8_5, ai_50, mr16, zbs, nI_add, pk_mul, znI_add1, znI_sub1, znI_subm, zle_nI, zlt_nI, zeq_nI, zle_0, zeq_0, zlt_0, zeq_m, zeq_1, zge_0, zbt0, zbt1, zB_0, zB_1, zB_b, zbool_0, zbool_1, ↓reduceIte, hL.1, hle, e])
    (fun m' c hi => by
      show f_S_laidAsNumber_4L (m' + 1) _ _ _ _ = _
      rw [f_S_laidAsNumber_4L]
      simp (disch := (first | omega | assumption)) only [f_S_laidAsNumber_4, gi_8, gp_8_5, ai_50, mr16, zbs, nI_add, pk_mul, znI_add1, znI_sub1, znI_subm, zle_nI, zlt_nI, zeq_nI, zle_0, zeq_0, zlt_0, zeq_m, zeq_1, zge_0, zbt0, zbt1, zB_0, zB_1, zB_b, zbool_0, zbool_1, ↓reduceIte, hL.1, Nat.le_refl]) L.length 0 (nJ 0) zfu (by omega) (by simp [zco]) (zfu_lt (by omega))
  rw [List.take_length] at a1
  rw [a1] at a2
  simp (disch := (first | omega | assumption)) only [f_S_laidAsNumber, zg_8, zbs, nI_add, pk_mul, znI_add1, znI_sub1, znI_subm, zle_nI, zlt_nI, zeq_nI, zle_0, zeq_0, zlt_0, zeq_m, zeq_1, zge_0, zbt0, zbt1, zB_0, zB_1, zB_b, zbool_0, zbool_1, ↓reduceIte]
  exact a2
end ZHi
