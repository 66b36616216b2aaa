/-! what ties class and reference together: what is told, and how it is now -/
def zBd (I : Nat → Nat → Int32) (t : Nat) (BW : List Int32) : Prop := zval BW 0 ∧ BW.length ≤ 270 ∧ I (t + 8) 2 = nI BW.length ∧ (∀ k, k < BW.length → BW[k]? = some (I (t + 9) k)) ∧
  ((I 91 48 = 0 ∧ BW = [-3]) ∨ (I 91 48 = 1 ∧ I 99 1 = nI BW.length ∧ ∀ k, k < BW.length → ∃ m, BW[k]? = some m ∧ zenc (I 97 (320 + k)) (I 98 (320 + k)) m))
def zTold (I : Nat → Nat → Int32) (t nt nb nr q sh md : Nat) (LW BW : List Int32) : Prop :=
  zMd I nt nb nr LW ∧ zXd I t nt nb nr LW ∧ (I 91 44 = nI q ∧ I t 3 = nI q ∧ q ≤ 3) ∧ (I 91 45 = nI sh ∧ I t 4 = nI sh ∧ 1 ≤ sh ∧ sh ≤ 9) ∧ (I 91 46 = nI md ∧ I t 5 = nI md ∧ md ≤ 9) ∧ I t 6 = I 91 22 ∧
  (∀ b k, b < nb → k < nt → I (t + 1) (4 * b + k) = I 107 (4 * b + k)) ∧ (∀ r k, r < nr → k < nt → I (t + 3) (4 * r + k) = I 109 (4 * r + k)) ∧ (∀ r, r < nr → I (t + 4) r = I 110 r ∧ ∃ o, o ≤ 100 ∧ I 110 r = nI o) ∧ zBd I t BW
def zNow (I : Nat → Nat → Int32) (N : Nat) (row : Nat → Int32) : Prop :=
  (∀ k, k < 24 → I (N + 1) k = row k) ∧ (∀ r, r < 6 → I (N + 2) r = row (24 + r)) ∧ I N 3 = row 30 ∧ I N 4 = row 31 ∧ ∀ k, k < 60 → I (N + 3) k = row (32 + k)
def zNb (row : Nat → Int32) (nt nb nr : Nat) : Prop :=
  (∀ k, k < 24 → -9 ≤ row k ∧ row k ≤ 9) ∧ (∀ r, r < 6 → row (24 + r) = -1 ∨ ∃ k, k < nt ∧ row (24 + r) = nI k) ∧ (∃ a, a < 2 ^ nr ∧ row 30 = nI a) ∧ (∃ o, o < 2 ^ nb ∧ row 31 = nI o)
def zCo (I : Nat → Nat → Int32) (t nt nb nr q sh md om im : Nat) (LW BW : List Int32) : Prop :=
  (t = 2 ∨ t = 13) ∧ zTold I t nt nb nr q sh md LW BW ∧ zNow I 30 (I 111) ∧ zNb (I 111) nt nb nr ∧ (I 111 31 = nI om ∧ om < 2 ^ nb) ∧ (I 111 30 = nI im ∧ im < 2 ^ nr) ∧ I 51 2 = 0 ∧ I 51 3 = 0
theorem zCo_fr {I I' : Nat → Nat → Int32} {t nt nb nr q sh md om im : Nat} {LW BW : List Int32} (h : zCo I t nt nb nr q sh md om im LW BW) (hf : zfr zSg I I') : zCo I' t nt nb nr q sh md om im LW BW := by
  have r97 : I' 97 = I 97 := zfr_row hf 97 (fun _ => rfl)
  have r98 : I' 98 = I 98 := zfr_row hf 98 (fun _ => rfl)
  have r99 : I' 99 = I 99 := zfr_row hf 99 (fun _ => rfl)
  have r107 : I' 107 = I 107 := zfr_row hf 107 (fun _ => rfl)
  have r109 : I' 109 = I 109 := zfr_row hf 109 (fun _ => rfl)
  have r110 : I' 110 = I 110 := zfr_row hf 110 (fun _ => rfl)
  have r111 : I' 111 = I 111 := zfr_row hf 111 (fun _ => rfl)
  have r30 : I' 30 = I 30 := zfr_row hf 30 (fun _ => rfl)
  have r31 : I' 31 = I 31 := zfr_row hf 31 (fun _ => rfl)
  have r32 : I' 32 = I 32 := zfr_row hf 32 (fun _ => rfl)
  have r33 : I' 33 = I 33 := zfr_row hf 33 (fun _ => rfl)
  have ht := h.1
  have e0 : I' t = I t := zfr_row hf t (fun _ => by rcases ht with rfl | rfl <;> rfl)
  have e1 : I' (t + 1) = I (t + 1) := zfr_row hf _ (fun _ => by rcases ht with rfl | rfl <;> rfl)
  have e3 : I' (t + 3) = I (t + 3) := zfr_row hf _ (fun _ => by rcases ht with rfl | rfl <;> rfl)
  have e4 : I' (t + 4) = I (t + 4) := zfr_row hf _ (fun _ => by rcases ht with rfl | rfl <;> rfl)
  have e5 : I' (t + 5) = I (t + 5) := zfr_row hf _ (fun _ => by rcases ht with rfl | rfl <;> rfl)
  have e6 : I' (t + 6) = I (t + 6) := zfr_row hf _ (fun _ => by rcases ht with rfl | rfl <;> rfl)
  have e8 : I' (t + 8) = I (t + 8) := zfr_row hf _ (fun _ => by rcases ht with rfl | rfl <;> rfl)
  have e9 : I' (t + 9) = I (t + 9) := zfr_row hf _ (fun _ => by rcases ht with rfl | rfl <;> rfl)
  have f22 := hf 91 22 rfl
  have f41 := hf 91 41 rfl
  have f42 := hf 91 42 rfl
  have f43 := hf 91 43 rfl
  have f44 := hf 91 44 rfl
  have f45 := hf 91 45 rfl
  have f46 := hf 91 46 rfl
  have f47 := hf 91 47 rfl
  have f48 := hf 91 48 rfl
  have g2 := hf 51 2 rfl
  have g3 := hf 51 3 rfl
  unfold zCo zTold zMd zXd zBd zNow at h ⊢
  rw [r97, r98, r99, r107, r109, r110, r111, r30, r31, r32, r33, e0, e1, e3, e4, e5, e6, e8, e9, f22, f41, f42, f43, f44, f45, f46, f47, f48, g2, g3]
  exact h
/-- a key as it is now -/
def zKy (I : Nat → Nat → Int32) (nt : Nat) (LW : List Int32) : Nat → Nat → Int32 := fun r b => zkm I nt LW (zhd I r (I 111 (24 + r))) r b
theorem zKy_fr {I I' : Nat → Nat → Int32} {nt : Nat} {LW : List Int32} (hf : zfr zSg I I') : zKy I' nt LW = zKy I nt LW := by
  funext r b
  unfold zKy zkm zhd
  rw [zfr_row hf 107 (fun _ => rfl), zfr_row hf 109 (fun _ => rfl), zfr_row hf 111 (fun _ => rfl), hf 91 46 rfl]
theorem z2n {n m : Nat} (h : n ≤ 10) (hm : m < 2 ^ n) : m < 1024 := Nat.lt_of_lt_of_le hm (Nat.le_trans (Nat.pow_le_pow_right (by decide) h) (by decide))
/-- whether x is one of n -/
def zlt (x : Int32) (n : Nat) : Bool := !(decide (x < 0) || decide (nI n ≤ x))
theorem zlt_cases (x : Int32) {n : Nat} (hn : n < 2 ^ 31) : (zlt x n = true ∧ ∃ k, k < n ∧ x = nI k) ∨ zlt x n = false := by
  rcases zarg2 x hn with ⟨k, hk, rfl⟩ | h
  · left
    refine ⟨?_, k, hk, rfl⟩
    unfold zlt
    simp [zlt_0 (show k < 2 ^ 31 by omega), zle_nI hn (show k < 2 ^ 31 by omega)]
    exact hk
  · right
    unfold zlt
    rcases h with h | h <;> simp [h]
theorem zlt_t {k n : Nat} (hk : k < n) (hn : n < 2 ^ 31) : zlt (nI k) n = true := by
  unfold zlt
  simp [zlt_0 (show k < 2 ^ 31 by omega), zle_nI hn (show k < 2 ^ 31 by omega)]
  exact hk
theorem zsub1_lt (x : Int32) {n : Nat} (hn : n < 2 ^ 30) : (nI n - 1 < x) = (nI n ≤ x) := by
  have h1 : (nI n - 1).toInt = (n : Int) - 1 := by
    have := pk_sub_toInt (a := n) (b := 1) hn (by decide)
    exact this
  rw [Int32.lt_iff_toInt_lt, Int32.le_iff_toInt_le, h1, nI_toInt (by omega)]
  exact propext ⟨fun h => by omega, fun h => by omega⟩
theorem g_M_isIn (p : Int32) {n : Nat} (hn : n < 2 ^ 30) : f_M_isIn p 0 (nI n - 1) = some (zB (zlt p n)) := by
  unfold zlt
  by_cases h0 : p < 0
  · simp (disch := (first | omega | assumption)) only [f_M_isIn, zbs, nI_add, pk_mul, znI_add1, znI_sub1, znI_subm, zle_nI, zlt_nI, zeq_nI, zle_0, zeq_0, zlt_0, zeq_m, zeq_1, zge_0, zbt0, zbt1, zB_0, zB_1, zB_b, zbool_0, zbool_1, ↓reduceIte, h0]
    simp [zB]
  · by_cases h1 : nI n ≤ p
    · simp (disch := (first | omega | assumption)) only [f_M_isIn, zbs, nI_add, pk_mul, znI_add1, znI_sub1, znI_subm, zle_nI, zlt_nI, zeq_nI, zle_0, zeq_0, zlt_0, zeq_m, zeq_1, zge_0, zbt0, zbt1, zB_0, zB_1, zB_b, zbool_0, zbool_1, ↓reduceIte, h0, zsub1_lt p hn, h1]
      simp [h1, zB]
    · simp (disch := (first | omega | assumption)) only [f_M_isIn, zbs, nI_add, pk_mul, znI_add1, znI_sub1, znI_subm, zle_nI, zlt_nI, zeq_nI, zle_0, zeq_0, zlt_0, zeq_m, zeq_1, zge_0, zbt0, zbt1, zB_0, zB_1, zB_b, zbool_0, zbool_1, ↓reduceIte, h0, zsub1_lt p hn, h1]
      simp [h0, h1, zB]
section ZCo
variable {I : Nat → Nat → Int32} {J : Nat → Nat → Int64} {t u i f s x : Nat} {nt nb nr q sh md om im : Nat} {LW BW : List Int32}
theorem zbridge (hC : zCo I t nt nb nr q sh md om im LW BW) {r b : Nat} (hr : r < nr) (hb : b < nb) : zkx I t nt LW (fun k => I 31 (4 * r + k) + (if nI k = I 32 r then I t 5 else 0)) (I 33 (10 * r + b)) r b = zKy I nt LW r b := by
  obtain ⟨ht, hT, hN, hB, ho, hi, -, -⟩ := hC
  obtain ⟨hM, hX, hq, hsh, hmd, hun, hw, hou, hod, hbd⟩ := hT
  have hnb := hM.2.1.2
  have hnr := hM.2.2.1.2
  have hnt := hM.1.2
  unfold zKy zkx zkm
  have w1 : ∀ k, k < nt → I (t + 1) (4 * b + k) = I 107 (4 * b + k) := fun k hk => hw b k hb hk
  rw [hN.2.2.2.2 (10 * r + b) (by omega), zsm_congr (n := nt) (h' := zhd I r (I 111 (24 + r))) (w' := fun k => I 107 (4 * b + k)) (fun k hk => by
    show I 31 (4 * r + k) + _ = zhd I r (I 111 (24 + r)) k
    unfold zhd
    rw [hN.1 (4 * r + k) (by omega), hN.2.1 r (by omega), hmd.1, hmd.2.1]) w1, zsm_congr (n := nt) (h' := fun k => I 109 (4 * r + k)) (w' := fun k => I 107 (4 * b + k)) (fun k hk => hou r k hr hk) w1, Nat.add_assoc]
theorem q_open (hC : zCo I t nt nb nr q sh md om im LW BW) : ∃ I', f_S_open (zs I J (zPt t u i f s x)) 47 t 30 = some (zs I' J (zPt t u i f t x)) ∧ zfr zSg I I' ∧ (∀ a, a ≠ 47 → a ≠ 48 → a ≠ 51 → a ≠ t + 7 → I' a = I a) ∧ zSh I' t nb nr q (zhm nb om) ∧ ∀ r b, r < nr → b < nb → zKx I' r b = zKy I nt LW r b := by
  have hC2 := hC
  obtain ⟨ht, hT, hN, hB, ho, hi, w2, w3⟩ := hC
  obtain ⟨hM, hX, hq, hsh, hmd, hun, hw, hou, hod, hbd⟩ := hT
  have h4 : I 30 4 = nI om := hN.2.2.2.1.trans ho.1
  obtain ⟨I', a1, a2, a3, a4, a5⟩ := g_S_open (J := J) (t := t) (u := u) (i := i) (f := f) (s := s) (x := x) ht (Or.inl rfl) hX hq.2.1 hq.2.2 h4 (z2n hM.2.1.2 ho.2) w2 w3
  exact ⟨I', a1, a2, a3, a4, fun r b hr hb => (a5 r b hr hb).trans (zbridge hC2 hr hb)⟩
theorem q_layAll (hC : zCo I t nt nb nr q sh md om im LW BW) : ∃ I', f_M_layAll (zs I J (zPt t u i f s x)) 91 = some (zs I' J (zPt t u i f s x)) ∧ zfr zSg I I' ∧ zfr (zSl [101, 102, 112, 113]) I I' ∧ ∀ r b, r < nr → b < nb → zKm I' r b = zKy I nt LW r b := by
  obtain ⟨I', a1, a2, a3⟩ := g_M_layAll (J := J) (t := t) (u := u) (i := i) (f := f) (s := s) (x := x) hC.2.1.1
  refine ⟨I', a1, zfr_gl a2 (fun a ha k => ?_), a2, a3⟩
  simp at ha
  rcases ha with rfl | rfl | rfl | rfl <;> rfl
/-- the order of a party, as it is now -/
def zL (I : Nat → Nat → Int32) (nt nb nr q om : Nat) (LW : List Int32) (set : Nat) : List Nat := zord (zKy I nt LW) q nr nb (zokO om) set
theorem zL_Od (hnb : nb ≤ 10) (set : Nat) : zOd (zL I nt nb nr q om LW set) (zokO om) nb := zord_Od hnb
theorem zhm_ok (hnb : nb ≤ 10) {b : Nat} (hb : b < nb) : (zhm nb om).testBit b = zokO om b := by
  rw [zhm_b hnb]
  simp [hb, zokO]
theorem q_lay {I1 : Nat → Nat → Int32} (ht : t = 2 ∨ t = 13) (hS : zSh I1 t nb nr q (zhm nb om)) (hK : ∀ r b, r < nr → b < nb → zKx I1 r b = zKy I nt LW r b) {set : Nat} (hset : set < 2 ^ nr) :
    ∃ I', f_S_lay (zs I1 J (zPt t u i f t x)) 47 (nI set) = some (zs I' J (zPt t u i f t x)) ∧ zfr zXls I1 I' ∧ zLx I' (zL I nt nb nr q om LW set) := by
  obtain ⟨I', a1, a2, a3⟩ := g_S_lay (J := J) (t := t) (u := u) (i := i) (f := f) (x := x) ht hS hset
  refine ⟨I', a1, a2, ?_⟩
  rw [zord_congr hset hS.2.2.2.1 hK (fun b hb => zhm_ok hS.2.1 hb)] at a3
  exact a3
theorem q_placeFor {I1 : Nat → Nat → Int32} (ht : t = 2 ∨ t = 13) (hS : zSh I1 t nb nr q (zhm nb om)) (hK : ∀ r b, r < nr → b < nb → zKx I1 r b = zKy I nt LW r b) {set b : Nat} (hset : set < 2 ^ nr) (hb : b < nb) (hob : om.testBit b = false) :
    ∃ I' k, f_S_placeFor (zs I1 J (zPt t u i f t x)) 47 (nI set) (nI b) = some (nI k, (zs I' J (zPt t u i f t x))) ∧ zfr zXls I1 I' ∧ (zL I nt nb nr q om LW set)[k]? = some b := by
  obtain ⟨I', k, a1, a2, a3⟩ := g_S_placeFor (J := J) (t := t) (u := u) (i := i) (f := f) (x := x) ht hS hset hb (by rw [zhm_ok hS.2.1 hb]; simp [zokO, hob])
  refine ⟨I', k, a1, a2, ?_⟩
  rw [zord_congr hset hS.2.2.2.1 hK (fun b hb => zhm_ok hS.2.1 hb)] at a3
  exact a3
theorem q_layOrder {I1 : Nat → Nat → Int32} (hC : zCo I1 t nt nb nr q sh md om im LW BW) (hK : ∀ r b, r < nr → b < nb → zKm I1 r b = zKy I nt LW r b) {set : Nat} (hset : set < 2 ^ nr) :
    ∃ I', f_M_layOrder (zs I1 J (zPt t u i f s x)) 91 (nI set) = some (zs I' J (zPt t u i f s x)) ∧ zfr zLs I1 I' ∧ zLm I' (zL I nt nb nr q om LW set) := by
  obtain ⟨ht, hT, hN, hB, ho, hi, w2, w3⟩ := hC
  obtain ⟨hM, hX, hq, hsh, hmd, hun, hw, hou, hod, hbd⟩ := hT
  obtain ⟨I', a1, a2, a3⟩ := g_M_layOrder (J := J) (t := t) (u := u) (i := i) (f := f) (s := s) (x := x) hM.2.1.1 hM.2.1.2 ho.1 (z2n hM.2.1.2 ho.2) hM.2.2.1.1 hM.2.2.1.2 hq.1 hq.2.2 (z64 hM.2.2.1.2 hset)
  refine ⟨I', a1, a2, ?_⟩
  rw [zord_congr hset hM.2.2.1.2 hK (fun b hb => rfl)] at a3
  exact a3
end ZCo
