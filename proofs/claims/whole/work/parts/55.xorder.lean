/-! the class's orders -/
def zKx (I : Nat → Nat → Int32) : Nat → Nat → Int32 := fun r b => I 48 (10 * r + b)
theorem zrn_ct (c : Nat → Bool) : ∀ d p, zrn (fun k p => if c k = true then p + 1 else p) d 0 p = p + zct c d := by
  intro d
  induction d with
  | zero => intro p; rfl
  | succ d ih =>
    intro p
    rw [zrn_succ, ih, zct_succ, Nat.zero_add]
    split <;> omega
theorem zoI_m (b : Nat) (h : b < 10) : (zoI (some b) = (-1)) = False := zeq_m (by omega)
theorem zoI_nm : (zoI none = (-1)) = True := by simp [zoI]
section ZXo
variable {I : Nat → Nat → Int32} {J : Nat → Nat → Int64} {t u i f s x : Nat} {nt nb nr hm q : Nat}
theorem g_J_fill {P : Nat → Nat → Option Nat} {a n : Nat} (h : zLAY[a]? = some (1, n)) (hn : n < 3000) (v : Int32) :
    ∃ I', f_J_fill (zs I J P) a v = some (zs I' J P) ∧ zfr (zSl [a]) I I' ∧ ∀ k, k < n → I' a k = v := by
  obtain ⟨I', ⟨h1, h2⟩, h3⟩ := zfor (fun fuel I' k => f_J_fill_5L fuel (zs I' J P) a v (nI k) (nI n)) n (fun k I' => zfr (zSl [a]) I I' ∧ ∀ j, j < k → I' a j = v) (fun I' => some (zs I' J P))
    (fun m k I' hk hi => by
      have hle : ¬ n ≤ k := by omega
      refine ⟨zup I' a k v, ⟨zfr_up hi.1 (by simp [zSl]), fun j hj => ?_⟩, ?_⟩
      · by_cases hjk : j = k
        · subst hjk; exact zup_s _ _ _ _
        · rw [zup_k _ _ hjk]; exact hi.2 j (by omega)
      · have hw := zwi (I := I') (J := J) (P := P) (k := k) (v := v) h (by omega) hk
        show f_J_fill_5L (m + 1) _ _ _ _ _ = _
        rw [f_J_fill_5L]
        simp (disch := (first | omega | assumption)) only [f_J_fill_5, zbs, nI_add, pk_mul, znI_add1, znI_sub1, znI_subm, zle_nI, zlt_nI, zeq_nI, zle_0, zeq_0, zlt_0, zeq_m, zeq_1, zge_0, zbt0, zbt1, zB_0, zB_1, zB_b, zbool_0, zbool_1, ↓reduceIte, hle, hw])
    (fun m I' hi => by
      show f_J_fill_5L (m + 1) _ _ _ _ _ = _
      rw [f_J_fill_5L]
      simp (disch := (first | omega | assumption)) only [f_J_fill_5, zbs, nI_add, pk_mul, znI_add1, znI_sub1, znI_subm, zle_nI, zlt_nI, zeq_nI, zle_0, zeq_0, zlt_0, zeq_m, zeq_1, zge_0, zbt0, zbt1, zB_0, zB_1, zB_b, zbool_0, zbool_1, ↓reduceIte, Nat.le_refl]) n 0 I zfu (by omega) ⟨zfr_refl _ _, fun j hj => by omega⟩ (zfu_lt (by omega))
  refine ⟨I', ?_, h1, h2⟩
  have hl := zs_len (I := I) (J := J) (P := P) h
  simp (disch := (first | omega | assumption)) only [f_J_fill, zbs, nI_add, pk_mul, znI_add1, znI_sub1, znI_subm, zle_nI, zlt_nI, zeq_nI, zle_0, zeq_0, zlt_0, zeq_m, zeq_1, zge_0, zbt0, zbt1, zB_0, zB_1, zB_b, zbool_0, zbool_1, ↓reduceIte, hl]
  exact h3
theorem g_S_firstAmong (hs : s = 2 ∨ s = 13) (hb : I s 1 = nI nb) (hnb : nb ≤ 10) {r w : Nat} (hr : r < 6) (hw : w < 1024) : f_S_firstAmong (zs I J (zPt t u i f s x)) 47 (nI r) (nI w) = some (zoI (zbest (fun b => w.testBit b) (zKx I r) nb)) := by
  have h := zforF (fun fuel (best : Option Nat) k => f_S_firstAmong_5L fuel (zs I J (zPt t u i f s x)) 47 (nI r) (nI w) (zoI best) (nI k)) nb (zbst (fun b => w.testBit b) (zKx I r)) (fun k best => ∀ c, best = some c → c < k) (fun best => some (zoI best))
    (fun m k best hk hi => by
      have hle : ¬ nb ≤ k := by omega
      show f_S_firstAmong_5L (m + 1) _ _ _ _ _ _ = _
      rw [f_S_firstAmong_5L]
      cases hok : w.testBit k with
      | false =>
        rw [zbst_no hok]
        simp (disch := (first | omega | assumption)) only [f_S_firstAmong_5, gi_10, gp_8_0, zbs, nI_add, pk_mul, znI_add1, znI_sub1, znI_subm, zle_nI, zlt_nI, zeq_nI, zle_0, zeq_0, zlt_0, zeq_m, zeq_1, zge_0, zbt0, zbt1, zB_0, zB_1, zB_b, zbool_0, zbool_1, ↓reduceIte, hb, hle, hok]
      | true =>
        cases best with
        | none =>
          unfold zbst
          simp (disch := (first | omega | assumption)) only [f_S_firstAmong_5, gi_10, gp_8_0, zbs, nI_add, pk_mul, znI_add1, znI_sub1, znI_subm, zle_nI, zlt_nI, zeq_nI, zle_0, zeq_0, zlt_0, zeq_m, zeq_1, zge_0, zbt0, zbt1, zB_0, zB_1, zB_b, zbool_0, zbool_1, ↓reduceIte, hok, hb, hle, zoI_nm, Bool.true_eq_false]
          rfl
        | some c =>
          have hc := hi c rfl
          have h2 := g_S_keyFor (I := I) (J := J) (t := t) (u := u) (i := i) (f := f) (s := s) (x := x) hr (show k < 10 by omega)
          have h3 := g_S_keyFor (I := I) (J := J) (t := t) (u := u) (i := i) (f := f) (s := s) (x := x) hr (show c < 10 by omega)
          have h3 : f_S_keyFor (zs I J (zPt t u i f s x)) 47 (nI r) (zoI (some c)) = _ := h3
          by_cases h4 : I 48 (10 * r + k) ≤ I 48 (10 * r + c)
          · have h5 : ¬ I 48 (10 * r + c) < I 48 (10 * r + k) := Int32.not_lt.mpr h4
            simp (disch := (first | omega | assumption)) only [f_S_firstAmong_5, gi_10, gp_8_0, zbs, nI_add, pk_mul, znI_add1, znI_sub1, znI_subm, zle_nI, zlt_nI, zeq_nI, zle_0, zeq_0, zlt_0, zeq_m, zeq_1, zge_0, zbt0, zbt1, zB_0, zB_1, zB_b, zbool_0, zbool_1, ↓reduceIte, zbst, zKx, hok, hb, hle, zoI_m c (by omega), h2, h3, h4, h5, Bool.true_eq_false, true_and]
          · have h5 : I 48 (10 * r + c) < I 48 (10 * r + k) := Int32.not_le.mp h4
            simp (disch := (first | omega | assumption)) only [f_S_firstAmong_5, gi_10, gp_8_0, zbs, nI_add, pk_mul, znI_add1, znI_sub1, znI_subm, zle_nI, zlt_nI, zeq_nI, zle_0, zeq_0, zlt_0, zeq_m, zeq_1, zge_0, zbt0, zbt1, zB_0, zB_1, zB_b, zbool_0, zbool_1, ↓reduceIte, zbst, zKx, hok, hb, hle, zoI_m c (by omega), h2, h3, h4, h5, Bool.true_eq_false, true_and]
            rfl)
    (fun k best hk hi c hc => by
      rcases zbst_in hc with h | h
      · omega
      · have := hi c h; omega)
    (fun m best hi => by
      show f_S_firstAmong_5L (m + 1) _ _ _ _ _ _ = _
      rw [f_S_firstAmong_5L]
      simp (disch := (first | omega | assumption)) only [f_S_firstAmong_5, gi_10, gp_8_0, zbs, nI_add, pk_mul, znI_add1, znI_sub1, znI_subm, zle_nI, zlt_nI, zeq_nI, zle_0, zeq_0, zlt_0, zeq_m, zeq_1, zge_0, zbt0, zbt1, zB_0, zB_1, zB_b, zbool_0, zbool_1, ↓reduceIte, hb, Nat.le_refl]) nb 0 none zfu (by omega) (fun c hc => by cases hc) (zfu_lt (by omega))
  simp (disch := (first | omega | assumption)) only [f_S_firstAmong, zg_8, zbs, nI_add, pk_mul, znI_add1, znI_sub1, znI_subm, zle_nI, zlt_nI, zeq_nI, zle_0, zeq_0, zlt_0, zeq_m, zeq_1, zge_0, zbt0, zbt1, zB_0, zB_1, zB_b, zbool_0, zbool_1, ↓reduceIte]
  exact h
theorem g_S_firstOf (hs : s = 2 ∨ s = 13) (hb : I s 1 = nI nb) (hnb : nb ≤ 10) (hh : I 47 1 = nI hm) (hhm : hm < 1024) {r : Nat} (hr : r < 6) : f_S_firstOf (zs I J (zPt t u i f s x)) 47 (nI r) = some (zoI (zbest (fun b => hm.testBit b) (zKx I r) nb)) := by
  have h := g_S_firstAmong (J := J) (t := t) (u := u) (i := i) (f := f) (x := x) hs hb hnb hr hhm
  simp (disch := (first | omega | assumption)) only [f_S_firstOf, zg_8, gi_8, zbs, nI_add, pk_mul, znI_add1, znI_sub1, znI_subm, zle_nI, zlt_nI, zeq_nI, zle_0, zeq_0, zlt_0, zeq_m, zeq_1, zge_0, zbt0, zbt1, zB_0, zB_1, zB_b, zbool_0, zbool_1, ↓reduceIte, hh, h]
theorem g_S_isHere (hh : I 47 1 = nI hm) (hhm : hm < 1024) {b : Nat} (hb : b < 10) : f_S_isHere (zs I J (zPt t u i f s x)) 47 (nI b) = some (zB (hm.testBit b)) := by
  cases h : hm.testBit b with
  | false => simp (disch := (first | omega | assumption)) only [f_S_isHere, zg_8, gi_8, zbs, nI_add, pk_mul, znI_add1, znI_sub1, znI_subm, zle_nI, zlt_nI, zeq_nI, zle_0, zeq_0, zlt_0, zeq_m, zeq_1, zge_0, zbt0, zbt1, zB_0, zB_1, zB_b, zbool_0, zbool_1, ↓reduceIte, hh, h]; rfl
  | true => simp (disch := (first | omega | assumption)) only [f_S_isHere, zg_8, gi_8, zbs, nI_add, pk_mul, znI_add1, znI_sub1, znI_subm, zle_nI, zlt_nI, zeq_nI, zle_0, zeq_0, zlt_0, zeq_m, zeq_1, zge_0, zbt0, zbt1, zB_0, zB_1, zB_b, zbool_0, zbool_1, ↓reduceIte, hh, h, Bool.true_eq_false]; rfl
theorem g_S_comesAhead (k1 k2 : Int32) {a b : Nat} (ha : a < 10) (hb : b < 10) : f_S_comesAhead k1 (nI a) k2 (nI b) = some (zB (decide (k2 < k1) || (k1 == k2 && decide (a < b)))) := by
  by_cases h1 : k2 < k1
  · simp (disch := (first | omega | assumption)) only [f_S_comesAhead, zbs, nI_add, pk_mul, znI_add1, znI_sub1, znI_subm, zle_nI, zlt_nI, zeq_nI, zle_0, zeq_0, zlt_0, zeq_m, zeq_1, zge_0, zbt0, zbt1, zB_0, zB_1, zB_b, zbool_0, zbool_1, ↓reduceIte, h1]
    simp [h1, zB, zbool]
  · by_cases h2 : k1 = k2
    · by_cases h3 : b ≤ a
      · have h4 : ¬ a < b := by omega
        simp (disch := (first | omega | assumption)) only [f_S_comesAhead, zbs, nI_add, pk_mul, znI_add1, znI_sub1, znI_subm, zle_nI, zlt_nI, zeq_nI, zle_0, zeq_0, zlt_0, zeq_m, zeq_1, zge_0, zbt0, zbt1, zB_0, zB_1, zB_b, zbool_0, zbool_1, ↓reduceIte, h1, h2, h3]
        simp [h4, zB, zbool]
      · have h4 : a < b := by omega
        simp (disch := (first | omega | assumption)) only [f_S_comesAhead, zbs, nI_add, pk_mul, znI_add1, znI_sub1, znI_subm, zle_nI, zlt_nI, zeq_nI, zle_0, zeq_0, zlt_0, zeq_m, zeq_1, zge_0, zbt0, zbt1, zB_0, zB_1, zB_b, zbool_0, zbool_1, ↓reduceIte, h1, h2, h3]
        simp [h4, zB, zbool]
    · simp (disch := (first | omega | assumption)) only [f_S_comesAhead, zbs, nI_add, pk_mul, znI_add1, znI_sub1, znI_subm, zle_nI, zlt_nI, zeq_nI, zle_0, zeq_0, zlt_0, zeq_m, zeq_1, zge_0, zbt0, zbt1, zB_0, zB_1, zB_b, zbool_0, zbool_1, ↓reduceIte, h1, h2]
      simp [h1, h2, zB, zbool]
theorem g_S_isAhead {r a b : Nat} (hr : r < 6) (ha : a < 10) (hb : b < 10) : f_S_isAhead (zs I J (zPt t u i f s x)) 47 (nI r) (nI a) (nI b) = some (zB (zah2 (zKx I r) a b)) := by
  have h1 := g_S_keyFor (I := I) (J := J) (t := t) (u := u) (i := i) (f := f) (s := s) (x := x) hr ha
  have h2 := g_S_keyFor (I := I) (J := J) (t := t) (u := u) (i := i) (f := f) (s := s) (x := x) hr hb
  have h3 := g_S_comesAhead (I 48 (10 * r + a)) (I 48 (10 * r + b)) ha hb
  simp (disch := (first | omega | assumption)) only [f_S_isAhead, zg_8, zbs, nI_add, pk_mul, znI_add1, znI_sub1, znI_subm, zle_nI, zlt_nI, zeq_nI, zle_0, zeq_0, zlt_0, zeq_m, zeq_1, zge_0, zbt0, zbt1, zB_0, zB_1, zB_b, zbool_0, zbool_1, ↓reduceIte, h1, h2, h3]
  rfl
theorem g_S_placeTogether (hs : s = 2 ∨ s = 13) (hb1 : I s 1 = nI nb) (hnb : nb ≤ 10) (hh : I 47 1 = nI hm) (hhm : hm < 1024) {b : Nat} (hb : b < 10) :
    f_S_placeTogether (zs I J (zPt t u i f s x)) 47 (nI b) = some (nI (zpl (fun b => hm.testBit b) (I 49) nb b)) := by
  have h := zforF (fun fuel (p : Nat) k => f_S_placeTogether_4L fuel (zs I J (zPt t u i f s x)) 47 (nI b) (nI p) (nI k)) nb (fun o p => if (decide (o ≠ b) && hm.testBit o && (decide (I 49 b < I 49 o) || (I 49 o == I 49 b && decide (o < b)))) = true then p + 1 else p) (fun _ _ => True) (fun p => some (nI p))
    (fun m k p hk _ => by
      have hle : ¬ nb ≤ k := by omega
      show f_S_placeTogether_4L (m + 1) _ _ _ _ _ = _
      rw [f_S_placeTogether_4L]
      by_cases hkb : k = b
      · subst hkb
        simp (disch := (first | omega | assumption)) only [f_S_placeTogether_4, gi_10, gp_8_0, gp_8_4, ai_49, zbs, nI_add, pk_mul, znI_add1, znI_sub1, znI_subm, zle_nI, zlt_nI, zeq_nI, zle_0, zeq_0, zlt_0, zeq_m, zeq_1, zge_0, zbt0, zbt1, zB_0, zB_1, zB_b, zbool_0, zbool_1, ↓reduceIte, hb1, hle]
        simp
      · have h1 := g_S_isHere (J := J) (t := t) (u := u) (i := i) (f := f) (s := s) (x := x) hh hhm (show k < 10 by omega)
        cases hok : hm.testBit k with
        | false =>
          rw [hok] at h1
          simp (disch := (first | omega | assumption)) only [f_S_placeTogether_4, gi_10, gp_8_0, gp_8_4, ai_49, zbs, nI_add, pk_mul, znI_add1, znI_sub1, znI_subm, zle_nI, zlt_nI, zeq_nI, zle_0, zeq_0, zlt_0, zeq_m, zeq_1, zge_0, zbt0, zbt1, zB_0, zB_1, zB_b, zbool_0, zbool_1, ↓reduceIte, hb1, hle, hkb, h1]
          simp
        | true =>
          rw [hok] at h1
          have h2 := g_S_comesAhead (I 49 k) (I 49 b) (show k < 10 by omega) hb
          cases hc : (decide (I 49 b < I 49 k) || (I 49 k == I 49 b && decide (k < b))) with
          | false =>
            rw [hc] at h2
            simp (disch := (first | omega | assumption)) only [f_S_placeTogether_4, gi_10, gp_8_0, gp_8_4, ai_49, zbs, nI_add, pk_mul, znI_add1, znI_sub1, znI_subm, zle_nI, zlt_nI, zeq_nI, zle_0, zeq_0, zlt_0, zeq_m, zeq_1, zge_0, zbt0, zbt1, zB_0, zB_1, zB_b, zbool_0, zbool_1, ↓reduceIte, hb1, hle, hkb, h1, h2, Bool.true_eq_false]
            simp
          | true =>
            rw [hc] at h2
            simp (disch := (first | omega | assumption)) only [f_S_placeTogether_4, gi_10, gp_8_0, gp_8_4, ai_49, zbs, nI_add, pk_mul, znI_add1, znI_sub1, znI_subm, zle_nI, zlt_nI, zeq_nI, zle_0, zeq_0, zlt_0, zeq_m, zeq_1, zge_0, zbt0, zbt1, zB_0, zB_1, zB_b, zbool_0, zbool_1, ↓reduceIte, hb1, hle, hkb, h1, h2, Bool.true_eq_false]
            simp [hkb]) (fun _ _ _ _ => trivial)
    (fun m p _ => by
      show f_S_placeTogether_4L (m + 1) _ _ _ _ _ = _
      rw [f_S_placeTogether_4L]
      simp (disch := (first | omega | assumption)) only [f_S_placeTogether_4, gi_10, gp_8_0, gp_8_4, ai_49, zbs, nI_add, pk_mul, znI_add1, znI_sub1, znI_subm, zle_nI, zlt_nI, zeq_nI, zle_0, zeq_0, zlt_0, zeq_m, zeq_1, zge_0, zbt0, zbt1, zB_0, zB_1, zB_b, zbool_0, zbool_1, ↓reduceIte, hb1, Nat.le_refl]) nb 0 0 zfu (by omega) trivial (zfu_lt (by omega))
  rw [zrn_ct, Nat.zero_add] at h
  simp (disch := (first | omega | assumption)) only [f_S_placeTogether, zg_8, zbs, nI_add, pk_mul, znI_add1, znI_sub1, znI_subm, zle_nI, zlt_nI, zeq_nI, zle_0, zeq_0, zlt_0, zeq_m, zeq_1, zge_0, zbt0, zbt1, zB_0, zB_1, zB_b, zbool_0, zbool_1, ↓reduceIte]
  exact h
def zhas (set : Nat) : Nat → Bool
  | 0 => false
  | k + 1 => set.testBit k || zhas set k
def zjp (K : Nat → Nat → Int32) (q set b k : Nat) : Bool × Int32 := zrn (zjt K q set b) k 0 (false, 0)
theorem zjp_succ (K : Nat → Nat → Int32) (q set b k : Nat) : zjp K q set b (k + 1) = zjt K q set b k (zjp K q set b k) := by
  unfold zjp
  rw [zrn_succ, Nat.zero_add]
theorem zjp_has (K : Nat → Nat → Int32) (q set b : Nat) : ∀ k, (zjp K q set b k).1 = zhas set k := by
  intro k
  induction k with
  | zero => rfl
  | succ k ih =>
    rw [zjp_succ]
    unfold zjt zhas
    cases h : set.testBit k <;> simp [ih]
theorem g_S_joined (hs : s = 2 ∨ s = 13) (h3 : I s 3 = nI q) (hq : q ≤ 3) (a b : Int32) : f_S_joined (zs I J (zPt t u i f s x)) 47 a b = some (zcb q a b) := by
  unfold zcb
  by_cases h0 : q = 0
  · simp (disch := (first | omega | assumption)) only [f_S_joined, zg_8, gi_10, gp_8_0, zbs, nI_add, pk_mul, znI_add1, znI_sub1, znI_subm, zle_nI, zlt_nI, zeq_nI, zle_0, zeq_0, zlt_0, zeq_m, zeq_1, zge_0, zbt0, zbt1, zB_0, zB_1, zB_b, zbool_0, zbool_1, ↓reduceIte, h3, h0]
  · by_cases h1 : q = 1
    · simp (disch := (first | omega | assumption)) only [f_S_joined, zg_8, gi_10, gp_8_0, zbs, nI_add, pk_mul, znI_add1, znI_sub1, znI_subm, zle_nI, zlt_nI, zeq_nI, zle_0, zeq_0, zlt_0, zeq_m, zeq_1, zge_0, zbt0, zbt1, zB_0, zB_1, zB_b, zbool_0, zbool_1, ↓reduceIte, h3, h0, h1, zmin, Nat.one_ne_zero]
    · simp (disch := (first | omega | assumption)) only [f_S_joined, zg_8, gi_10, gp_8_0, zbs, nI_add, pk_mul, znI_add1, znI_sub1, znI_subm, zle_nI, zlt_nI, zeq_nI, zle_0, zeq_0, zlt_0, zeq_m, zeq_1, zge_0, zbt0, zbt1, zB_0, zB_1, zB_b, zbool_0, zbool_1, ↓reduceIte, h3, h0, h1, zmax]
/-- what is joined, for all books -/
theorem g_S_bringTogether (hs : s = 2 ∨ s = 13) (hb : I s 1 = nI nb) (hnb : nb ≤ 10) (h2 : I s 2 = nI nr) (hnr : nr ≤ 6) (h3 : I s 3 = nI q) (hq : q ≤ 3) {set : Nat} (hset : set < 64) :
    ∃ I', f_S_bringTogether (zs I J (zPt t u i f s x)) 47 (nI set) = some (zs I' J (zPt t u i f s x)) ∧ zfr (zSl [49]) I I' ∧ ∀ b, b < nb → I' 49 b = zjoint (zKx I) q set nr b := by
  obtain ⟨I0, e0, e1, e2⟩ := g_J_fill (I := I) (J := J) (P := zPt t u i f s x) zl_49 (by decide) 0
  have c49 : ∀ a, a ≠ 49 → [49].contains a = false := fun a ha => by simp [ha]
  obtain ⟨I', ⟨a1, a2⟩, a3⟩ := zfor (fun fuel I' k => f_S_bringTogether_12L fuel (zs I' J (zPt t u i f s x)) 47 (nI set) (zB (!zhas set k)) (nI k)) nr (fun k I' => zfr (zSl [49]) I I' ∧ ∀ b, b < nb → I' 49 b = (zjp (zKx I) q set b k).2) (fun I' => some (zs I' J (zPt t u i f s x)))
    (fun m k I' hk hi => by
      have m1 : I' s 1 = nI nb := by rw [zfr_sl hi.1 s (c49 s (by omega))]; exact hb
      have m2 : I' s 2 = nI nr := by rw [zfr_sl hi.1 s (c49 s (by omega))]; exact h2
      have hle : ¬ nr ≤ k := by omega
      cases hbit : set.testBit k with
      | false =>
        refine ⟨I', ⟨hi.1, fun b hb => ?_⟩, ?_⟩
        · rw [zjp_succ, hi.2 b hb]
          unfold zjt
          simp [hbit]
        · show f_S_bringTogether_12L (m + 1) _ _ _ _ _ = _
          rw [f_S_bringTogether_12L]
          simp (disch := (first | omega | assumption)) only [f_S_bringTogether_12, gi_10, gp_8_0, zbs, nI_add, pk_mul, znI_add1, znI_sub1, znI_subm, zle_nI, zlt_nI, zeq_nI, zle_0, zeq_0, zlt_0, zeq_m, zeq_1, zge_0, zbt0, zbt1, zB_0, zB_1, zB_b, zbool_0, zbool_1, ↓reduceIte, m2, hle, hbit, zhas, Bool.false_or]
      | true =>
        obtain ⟨I2, ⟨b1, b2, b3⟩, b4⟩ := zfor (fun fuel I2 j => f_S_bringTogether_34L (f_S_bringTogether_12L m) fuel (zs I2 J (zPt t u i f s x)) 47 (nI set) (zB (!zhas set k)) (nI k) (nI j)) nb (fun j I2 => zfr (zSl [49]) I I2 ∧ (∀ b, b < j → I2 49 b = (zjp (zKx I) q set b (k + 1)).2) ∧ ∀ b, j ≤ b → b < nb → I2 49 b = (zjp (zKx I) q set b k).2) (fun I2 => f_S_bringTogether_12L m (zs I2 J (zPt t u i f s x)) 47 (nI set) 0 (nI (k + 1)))
          (fun m' j I2 hj hi2 => by
            have n1 : I2 s 1 = nI nb := by rw [zfr_sl hi2.1 s (c49 s (by omega))]; exact hb
            have n3 : I2 s 3 = nI q := by rw [zfr_sl hi2.1 s (c49 s (by omega))]; exact h3
            have hle2 : ¬ nb ≤ j := by omega
            have k1 := g_S_keyFor (I := I2) (J := J) (t := t) (u := u) (i := i) (f := f) (s := s) (x := x) (show k < 6 by omega) (show j < 10 by omega)
            have k2 : I2 48 = I 48 := zfr_sl hi2.1 48 rfl
            rw [k2] at k1
            have old := hi2.2.2 j (Nat.le_refl _) hj
            refine ⟨zup I2 49 j (zjp (zKx I) q set j (k + 1)).2, ⟨zfr_up hi2.1 rfl, fun b hb => ?_, fun b hb hb2 => ?_⟩, ?_⟩
            · by_cases hbj : b = j
              · subst hbj; exact zup_s _ _ _ _
              · rw [zup_k _ _ hbj]; exact hi2.2.1 b (by omega)
            · rw [zup_k _ _ (by omega)]; exact hi2.2.2 b (by omega) hb2
            · show f_S_bringTogether_34L _ (m' + 1) _ _ _ _ _ _ = _
              rw [f_S_bringTogether_34L]
              have hj2 := zjp_has (zKx I) q set j k
              rw [zjp_succ]
              unfold zjt
              cases hh : zhas set k with
              | false =>
                rw [hh] at hj2
                simp (disch := (first | omega | assumption)) only [f_S_bringTogether_34, gi_10, gp_8_0, gp_8_4, ai_49, wi_49, zbs, nI_add, pk_mul, znI_add1, znI_sub1, znI_subm, zle_nI, zlt_nI, zeq_nI, zle_0, zeq_0, zlt_0, zeq_m, zeq_1, zge_0, zbt0, zbt1, zB_0, zB_1, zB_b, zbool_0, zbool_1, ↓reduceIte, n1, hle2, k1, hbit, hj2, Bool.not_false, Bool.true_eq_false, Bool.false_eq_true]
                rfl
              | true =>
                rw [hh] at hj2
                have k3 := g_S_joined (J := J) (t := t) (u := u) (i := i) (f := f) (x := x) hs n3 hq (zjp (zKx I) q set j k).2 (I 48 (10 * k + j))
                simp (disch := (first | omega | assumption)) only [f_S_bringTogether_34, gi_10, gp_8_0, gp_8_4, ai_49, wi_49, zbs, nI_add, pk_mul, znI_add1, znI_sub1, znI_subm, zle_nI, zlt_nI, zeq_nI, zle_0, zeq_0, zlt_0, zeq_m, zeq_1, zge_0, zbt0, zbt1, zB_0, zB_1, zB_b, zbool_0, zbool_1, ↓reduceIte, n1, hle2, k1, hbit, hj2, Bool.not_true, old, k3]
                rfl)
          (fun m' I2 hi2 => by
            have n1 : I2 s 1 = nI nb := by rw [zfr_sl hi2.1 s (c49 s (by omega))]; exact hb
            show f_S_bringTogether_34L _ (m' + 1) _ _ _ _ _ _ = _
            rw [f_S_bringTogether_34L]
            simp (disch := (first | omega | assumption)) only [f_S_bringTogether_34, gi_10, gp_8_0, gp_8_4, ai_49, wi_49, zbs, nI_add, pk_mul, znI_add1, znI_sub1, znI_subm, zle_nI, zlt_nI, zeq_nI, zle_0, zeq_0, zlt_0, zeq_m, zeq_1, zge_0, zbt0, zbt1, zB_0, zB_1, zB_b, zbool_0, zbool_1, ↓reduceIte, n1, Nat.le_refl]) nb 0 I' zfu (by omega) ⟨hi.1, fun b hb => by omega, fun b _ hb => hi.2 b hb⟩ (zfu_lt (by omega))
        refine ⟨I2, ⟨b1, b2⟩, ?_⟩
        show f_S_bringTogether_12L (m + 1) _ _ _ _ _ = _
        rw [f_S_bringTogether_12L]
        simp (disch := (first | omega | assumption)) only [f_S_bringTogether_12, gi_10, gp_8_0, zbs, nI_add, pk_mul, znI_add1, znI_sub1, znI_subm, zle_nI, zlt_nI, zeq_nI, zle_0, zeq_0, zlt_0, zeq_m, zeq_1, zge_0, zbt0, zbt1, zB_0, zB_1, zB_b, zbool_0, zbool_1, ↓reduceIte, m2, hle, hbit, zhas, Bool.true_or, Bool.not_true, Bool.true_eq_false]
        exact b4)
    (fun m I' hi => by
      have m2 : I' s 2 = nI nr := by rw [zfr_sl hi.1 s (c49 s (by omega))]; exact h2
      show f_S_bringTogether_12L (m + 1) _ _ _ _ _ = _
      rw [f_S_bringTogether_12L]
      simp (disch := (first | omega | assumption)) only [f_S_bringTogether_12, gi_10, gp_8_0, zbs, nI_add, pk_mul, znI_add1, znI_sub1, znI_subm, zle_nI, zlt_nI, zeq_nI, zle_0, zeq_0, zlt_0, zeq_m, zeq_1, zge_0, zbt0, zbt1, zB_0, zB_1, zB_b, zbool_0, zbool_1, ↓reduceIte, m2, Nat.le_refl]) nr 0 I0 zfu (by omega) ⟨e1, fun b hb => e2 b (by omega)⟩ (zfu_lt (by omega))
  refine ⟨I', ?_, a1, a2⟩
  simp (disch := (first | omega | assumption)) only [f_S_bringTogether, zg_8, gp_8_4, zbs, nI_add, pk_mul, znI_add1, znI_sub1, znI_subm, zle_nI, zlt_nI, zeq_nI, zle_0, zeq_0, zlt_0, zeq_m, zeq_1, zge_0, zbt0, zbt1, zB_0, zB_1, zB_b, zbool_0, zbool_1, ↓reduceIte, e0]
  exact a3
end ZXo
