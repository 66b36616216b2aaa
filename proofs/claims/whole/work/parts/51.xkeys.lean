/-! the class's keys -/
/-- what the class's told numbers at T are -/
def zXd (I : Nat → Nat → Int32) (T nt nb nr : Nat) (LW : List Int32) : Prop :=
  (I T 0 = nI nt ∧ nt ≤ 4) ∧ (I T 1 = nI nb ∧ nb ≤ 10) ∧ (I T 2 = nI nr ∧ nr ≤ 6) ∧ zval LW 0 ∧ LW.length ≤ 270 ∧ I (T + 5) 2 = nI LW.length ∧ ∀ k, k < LW.length → LW[k]? = some (I (T + 6) k)
/-- a key by hand h and how often it was read, out of the class's rows -/
def zkx (I : Nat → Nat → Int32) (T nt : Nat) (LW : List Int32) (h : Nat → Int32) (rd : Int32) (r b : Nat) : Int32 :=
  zky LW (zsm h (fun t => I (T + 1) (4 * b + t)) nt) (zsm (fun t => I (T + 3) (4 * r + t)) (fun t => I (T + 1) (4 * b + t)) nt) rd b
/-- scratch of the keys: not where old and weight lie -/
def zKs (T : Nat) : Nat → Nat → Bool := fun a k => a == 48 || (a == 51 && k != 2 && k != 3) || a == T + 7
section ZXk
variable {I : Nat → Nat → Int32} {J : Nat → Nat → Int64} {t u i f s x : Nat} {nt nb nr N : Nat} {LW : List Int32}
theorem zXd_rows {I' : Nat → Nat → Int32} (h : zXd I s nt nb nr LW) (h1 : I' s = I s) (h2 : I' (s + 5) = I (s + 5)) (h3 : I' (s + 6) = I (s + 6)) : zXd I' s nt nb nr LW := by
  unfold zXd
  rw [h1, h2, h3]
  exact h
theorem zKs_f {a : Nat} (hs : s = 2 ∨ s = 13) (h48 : a ≠ 48) (h51 : a ≠ 51) (h7 : a ≠ s + 7) (k : Nat) : zKs s a k = false := by
  unfold zKs
  simp [h48, h51, h7]
theorem zKs_row {I' : Nat → Nat → Int32} (hs : s = 2 ∨ s = 13) (h : zfr (zKs s) I I') (a : Nat) (h48 : a ≠ 48) (h51 : a ≠ 51) (h7 : a ≠ s + 7) : I' a = I a := zfr_row h a (zKs_f hs h48 h51 h7)
theorem zXd_ks {I' : Nat → Nat → Int32} (hs : s = 2 ∨ s = 13) (h : zXd I s nt nb nr LW) (hf : zfr (zKs s) I I') : zXd I' s nt nb nr LW :=
  zXd_rows h (zKs_row hs hf _ (by omega) (by omega) (by omega)) (zKs_row hs hf _ (by omega) (by omega) (by omega)) (zKs_row hs hf _ (by omega) (by omega) (by omega))
theorem g_S_keyByWant (hs : s = 2 ∨ s = 13) (hX : zXd I s nt nb nr LW) (w : Int32) :
    ∃ row', f_S_keyByWant (zs I J (zPt t u i f s x)) 47 w = some (zev (va_up (I 51) 0 w) LW, (zs (zro (zup I 51 0 w) (s + 7) row') J (zPt t u i f s x))) := by
  obtain ⟨-, -, -, hv, hlen, h5, h6⟩ := hX
  have hP0 : zPt t u i f s x (s + 5) 0 = some (s + 5 + 1) := by rcases hs with rfl | rfl <;> rfl
  have hP1 : zPt t u i f s x (s + 5) 1 = some (s + 5 + 2) := by rcases hs with rfl | rfl <;> rfl
  have hF : zLAY[s + 5]? = some (0, 2) := by rcases hs with rfl | rfl <;> rfl
  have hMk : zLAY[s + 5 + 1]? = some (1, 270) := by rcases hs with rfl | rfl <;> rfl
  have hTk : zLAY[s + 5 + 2]? = some (1, 30) := by rcases hs with rfl | rfl <;> rfl
  have e5 : (zup I 51 0 w) (s + 5) = I (s + 5) := zup_ne _ _ _ (by omega)
  have e6 : (zup I 51 0 w) (s + 5 + 1) = I (s + 6) := zup_ne _ _ _ (by omega)
  obtain ⟨row', h⟩ := g_F_value (I := zup I 51 0 w) (J := J) (P := zPt t u i f s x) (F := s + 5) (wa := 51) hF hMk hTk zl_51 hP0 hP1 (by omega) (LW := LW) (by rw [e5]; exact h5) hlen (by rw [e6]; exact h6) hv
  refine ⟨row', ?_⟩
  rw [zup_self] at h
  simp (disch := (first | omega | assumption)) only [f_S_keyByWant, zg_8, gp_8_6, gp_8_0, gp_10_11, wl_51_0, zbs, nI_add, pk_mul, znI_add1, znI_sub1, znI_subm, zle_nI, zlt_nI, zeq_nI, zle_0, zeq_0, zlt_0, zeq_m, zeq_1, zge_0, zbt0, zbt1, zB_0, zB_1, zB_b, zbool_0, zbool_1, ↓reduceIte, h]
theorem g_S_turnTo (hs : s = 2 ∨ s = 13) (hN : N = 30 ∨ N = 35 ∨ N = 76 ∨ N = 81 ∨ N = 86) (hX : zXd I s nt nb nr LW) {r b : Nat} (hr : r < 6) (hb : b < 10) :
    f_S_turnTo (zs I J (zPt t u i f s x)) 47 N (nI r) (nI b) = some (zs (zup (zup (zup I 51 1 (zsm (fun t => I (s + 3) (4 * r + t)) (fun t => I (s + 1) (4 * b + t)) nt)) 51 4 (I (N + 3) (10 * r + b))) 51 5 (nI b)) J (zPt t u i f s x)) := by
  have hnt := hX.1.2
  have h := zforF (fun fuel (q : Int32) k => f_S_turnTo_6L fuel (zs I J (zPt t u i f s x)) 47 N (nI r) (nI b) q (nI k)) nt (fun t q => q + I (s + 3) (4 * r + t) * I (s + 1) (4 * b + t)) (fun _ _ => True) (fun q => f_S_turnTo_58 (zs I J (zPt t u i f s x)) 47 N (nI r) (nI b) q)
    (fun m k q hk _ => by
      have hle : ¬ nt ≤ k := by omega
      show f_S_turnTo_6L (m + 1) _ _ _ _ _ _ _ = _
      rw [f_S_turnTo_6L]
      simp (disch := (first | omega | assumption)) only [f_S_turnTo_6, gi_10, gp_8_0, gp_10_9, gp_10_7, ai_10_9, ai_10_7, mr4, zbs, nI_add, pk_mul, znI_add1, znI_sub1, znI_subm, zle_nI, zlt_nI, zeq_nI, zle_0, zeq_0, zlt_0, zeq_m, zeq_1, zge_0, zbt0, zbt1, zB_0, zB_1, zB_b, zbool_0, zbool_1, ↓reduceIte, hX.1.1, hle]) (fun _ _ _ _ => trivial)
    (fun m q _ => by
      show f_S_turnTo_6L (m + 1) _ _ _ _ _ _ _ = _
      rw [f_S_turnTo_6L]
      simp (disch := (first | omega | assumption)) only [f_S_turnTo_6, gi_10, gp_8_0, gp_10_9, gp_10_7, ai_10_9, ai_10_7, mr4, zbs, nI_add, pk_mul, znI_add1, znI_sub1, znI_subm, zle_nI, zlt_nI, zeq_nI, zle_0, zeq_0, zlt_0, zeq_m, zeq_1, zge_0, zbt0, zbt1, zB_0, zB_1, zB_b, zbool_0, zbool_1, ↓reduceIte, hX.1.1, Nat.le_refl]) nt 0 0 zfu (by omega) trivial (zfu_lt (by omega))
  have e : ∀ v, zup I 51 1 v (N + 3) = I (N + 3) := fun v => zup_ne _ _ _ (by omega)
  have h2 : ∀ q, f_S_turnTo_58 (zs I J (zPt t u i f s x)) 47 N (nI r) (nI b) q = some (zs (zup (zup (zup I 51 1 q) 51 4 (I (N + 3) (10 * r + b))) 51 5 (nI b)) J (zPt t u i f s x)) := fun q => by
    simp (disch := (first | omega | assumption)) only [f_S_turnTo_58, gp_8_6, gp_4_2, wl_51_1, ai_4_2, wl_51_4, wl_51_5, mr10, zbs, nI_add, pk_mul, znI_add1, znI_sub1, znI_subm, zle_nI, zlt_nI, zeq_nI, zle_0, zeq_0, zlt_0, zeq_m, zeq_1, zge_0, zbt0, zbt1, zB_0, zB_1, zB_b, zbool_0, zbool_1, ↓reduceIte, e]
  rw [h2] at h
  simp (disch := (first | omega | assumption)) only [f_S_turnTo, zg_8, zbs, nI_add, pk_mul, znI_add1, znI_sub1, znI_subm, zle_nI, zlt_nI, zeq_nI, zle_0, zeq_0, zlt_0, zeq_m, zeq_1, zge_0, zbt0, zbt1, zB_0, zB_1, zB_b, zbool_0, zbool_1, ↓reduceIte]
  exact h
/-- the keys of one, by his wants and this mood -/
theorem g_S_weigh (hs : s = 2 ∨ s = 13) (hN : N = 30 ∨ N = 35 ∨ N = 76 ∨ N = 81 ∨ N = 86) (hX : zXd I s nt nb nr LW) (h2 : I 51 2 = 0) (h3 : I 51 3 = 0) {r : Nat} (hr : r < 6) (md : Int32) :
    ∃ I', f_S_weigh (zs I J (zPt t u i f s x)) 47 N (nI r) md = some (zs I' J (zPt t u i f s x)) ∧ zfr (zKs s) I I' ∧ (∀ b, b < nb → I' 48 (10 * r + b) = zkx I s nt LW (fun t => I (N + 1) (4 * r + t) + (if nI t = md then I s 5 else 0)) (I (N + 3) (10 * r + b)) r b) ∧ ∀ j, (j < 10 * r ∨ 10 * r + 10 ≤ j) → I' 48 j = I 48 j := by
  have hnt := hX.1.2
  have hnb := hX.2.1.2
  obtain ⟨I', ⟨a1, a2, a4⟩, a3⟩ := zfor (fun fuel I' k => f_S_weigh_3L fuel (zs I' J (zPt t u i f s x)) 47 N (nI r) md (nI k)) nb (fun k I' => zfr (zKs s) I I' ∧ (∀ b, b < k → I' 48 (10 * r + b) = zkx I s nt LW (fun t => I (N + 1) (4 * r + t) + (if nI t = md then I s 5 else 0)) (I (N + 3) (10 * r + b)) r b) ∧ ∀ j, (j < 10 * r ∨ 10 * r + 10 ≤ j) → I' 48 j = I 48 j) (fun I' => some (zs I' J (zPt t u i f s x)))
    (fun m k I' hk hi => by
      have hX' : zXd I' s nt nb nr LW := zXd_ks hs hX hi.1
      have e0 : I' s = I s := zKs_row hs hi.1 _ (by omega) (by omega) (by omega)
      have e1 : I' (s + 1) = I (s + 1) := zKs_row hs hi.1 _ (by omega) (by omega) (by omega)
      have e3 : I' (s + 3) = I (s + 3) := zKs_row hs hi.1 _ (by omega) (by omega) (by omega)
      have n1 : I' (N + 1) = I (N + 1) := zKs_row hs hi.1 _ (by omega) (by omega) (by omega)
      have n3 : I' (N + 3) = I (N + 3) := zKs_row hs hi.1 _ (by omega) (by omega) (by omega)
      have w2 : I' 51 2 = 0 := (hi.1 51 2 (by simp [zKs]; omega)).trans h2
      have w3 : I' 51 3 = 0 := (hi.1 51 3 (by simp [zKs]; omega)).trans h3
      have hle : ¬ nb ≤ k := by omega
      have hin := zforF (fun fuel (q : Int32) j => f_S_weigh_21L (f_S_weigh_3L m) fuel (zs I' J (zPt t u i f s x)) 47 N (nI r) md (nI k) q (nI j)) nt (fun t q => q + (I (N + 1) (4 * r + t) + (if nI t = md then I s 5 else 0)) * I (s + 1) (4 * k + t)) (fun _ _ => True) (fun q => f_S_weigh_93 (f_S_weigh_3L m) (zs I' J (zPt t u i f s x)) 47 N (nI r) md (nI k) q)
        (fun m' j q hj _ => by
          have hle2 : ¬ nt ≤ j := by omega
          show f_S_weigh_21L _ (m' + 1) _ _ _ _ _ _ _ _ = _
          rw [f_S_weigh_21L]
          by_cases hmd : nI j = md
          · subst hmd
            simp (disch := (first | omega | assumption)) only [f_S_weigh_21, f_S_weigh_50, gi_10, gp_8_0, gp_4_0, gp_10_7, ai_4_0, ai_10_7, mr4, zbs, nI_add, pk_mul, znI_add1, znI_sub1, znI_subm, zle_nI, zlt_nI, zeq_nI, zle_0, zeq_0, zlt_0, zeq_m, zeq_1, zge_0, zbt0, zbt1, zB_0, zB_1, zB_b, zbool_0, zbool_1, ↓reduceIte, hX'.1.1, hle2, e0, e1, n1]
          · simp (disch := (first | omega | assumption)) only [f_S_weigh_21, f_S_weigh_50, gi_10, gp_8_0, gp_4_0, gp_10_7, ai_4_0, ai_10_7, mr4, zbs, nI_add, pk_mul, znI_add1, znI_sub1, znI_subm, zle_nI, zlt_nI, zeq_nI, zle_0, zeq_0, zlt_0, zeq_m, zeq_1, zge_0, zbt0, zbt1, zB_0, zB_1, zB_b, zbool_0, zbool_1, ↓reduceIte, hX'.1.1, hle2, hmd, e0, e1, n1]) (fun _ _ _ _ => trivial)
        (fun m' q _ => by
          show f_S_weigh_21L _ (m' + 1) _ _ _ _ _ _ _ _ = _
          rw [f_S_weigh_21L]
          simp (disch := (first | omega | assumption)) only [f_S_weigh_21, gi_10, gp_8_0, zbs, nI_add, pk_mul, znI_add1, znI_sub1, znI_subm, zle_nI, zlt_nI, zeq_nI, zle_0, zeq_0, zlt_0, zeq_m, zeq_1, zge_0, zbt0, zbt1, zB_0, zB_1, zB_b, zbool_0, zbool_1, ↓reduceIte, hX'.1.1, Nat.le_refl]) nt 0 0 zfu (by omega) trivial (zfu_lt (by omega))
      have t1 := g_S_turnTo (J := J) (t := t) (u := u) (i := i) (f := f) (s := s) (x := x) hs hN hX' hr (show k < 10 by omega)
      rw [e1, e3, n3] at t1
      have hX2 : zXd (zup (zup (zup I' 51 1 (zsm (fun t => I (s + 3) (4 * r + t)) (fun t => I (s + 1) (4 * k + t)) nt)) 51 4 (I (N + 3) (10 * r + k))) 51 5 (nI k)) s nt nb nr LW := by
        refine zXd_rows hX' ?_ ?_ ?_ <;> rw [zup_ne _ _ _ (by omega), zup_ne _ _ _ (by omega), zup_ne _ _ _ (by omega)]
      obtain ⟨row', t2⟩ := g_S_keyByWant (J := J) (t := t) (u := u) (i := i) (f := f) (s := s) (x := x) hs hX2 (zsm (fun t => I (N + 1) (4 * r + t) + (if nI t = md then I s 5 else 0)) (fun t => I (s + 1) (4 * k + t)) nt)
      have hw : zev (va_up (zup (zup (zup I' 51 1 (zsm (fun t => I (s + 3) (4 * r + t)) (fun t => I (s + 1) (4 * k + t)) nt)) 51 4 (I (N + 3) (10 * r + k))) 51 5 (nI k) 51) 0 (zsm (fun t => I (N + 1) (4 * r + t) + (if nI t = md then I s 5 else 0)) (fun t => I (s + 1) (4 * k + t)) nt)) LW = zkx I s nt LW (fun t => I (N + 1) (4 * r + t) + (if nI t = md then I s 5 else 0)) (I (N + 3) (10 * r + k)) r k := by
        refine zev_congr (fun j hj => ?_) LW
        unfold va_up
        simp only [zup_at]
        unfold zwrd
        have : j = 0 ∨ j = 1 ∨ j = 2 ∨ j = 3 ∨ j = 4 ∨ j = 5 := by omega
        rcases this with rfl | rfl | rfl | rfl | rfl | rfl
        · rfl
        · rfl
        · simp [w2]
        · simp [w3]
        · rfl
        · rfl
      rw [hw] at t2
      refine ⟨zup (zro (zup (zup (zup (zup I' 51 1 (zsm (fun t => I (s + 3) (4 * r + t)) (fun t => I (s + 1) (4 * k + t)) nt)) 51 4 (I (N + 3) (10 * r + k))) 51 5 (nI k)) 51 0 (zsm (fun t => I (N + 1) (4 * r + t) + (if nI t = md then I s 5 else 0)) (fun t => I (s + 1) (4 * k + t)) nt)) (s + 7) row') 48 (10 * r + k) (zkx I s nt LW (fun t => I (N + 1) (4 * r + t) + (if nI t = md then I s 5 else 0)) (I (N + 3) (10 * r + k)) r k), ⟨?_, fun b hb => ?_, fun j hj => ?_⟩, ?_⟩
      · refine zfr_up (zfr_ro (zfr_up (zfr_up (zfr_up (zfr_up hi.1 ?_) ?_) ?_) ?_) (fun _ => ?_)) ?_ <;> simp [zKs]
      · by_cases hbk : b = k
        · subst hbk; exact zup_s _ _ _ _
        · rw [zup_k _ _ (by omega), zro_ne _ _ (by omega), zup_ne _ _ _ (by omega), zup_ne _ _ _ (by omega), zup_ne _ _ _ (by omega), zup_ne _ _ _ (by omega)]; exact hi.2.1 b (by omega)
      · rw [zup_k _ _ (by omega), zro_ne _ _ (by omega), zup_ne _ _ _ (by omega), zup_ne _ _ _ (by omega), zup_ne _ _ _ (by omega), zup_ne _ _ _ (by omega)]; exact hi.2.2 j hj
      · show f_S_weigh_3L (m + 1) _ _ _ _ _ _ = _
        rw [f_S_weigh_3L]
        simp (disch := (first | omega | assumption)) only [f_S_weigh_3, gi_10, gp_8_0, zbs, nI_add, pk_mul, znI_add1, znI_sub1, znI_subm, zle_nI, zlt_nI, zeq_nI, zle_0, zeq_0, zlt_0, zeq_m, zeq_1, zge_0, zbt0, zbt1, zB_0, zB_1, zB_b, zbool_0, zbool_1, ↓reduceIte, hX'.2.1.1, hle]
        refine Eq.trans hin ?_
        show f_S_weigh_93 (f_S_weigh_3L m) (zs I' J (zPt t u i f s x)) 47 N (nI r) md (nI k) (zsm _ _ nt) = _
        simp (disch := (first | omega | assumption)) only [f_S_weigh_93, gp_8_3, wi_48, mr10, zbs, nI_add, pk_mul, znI_add1, znI_sub1, znI_subm, zle_nI, zlt_nI, zeq_nI, zle_0, zeq_0, zlt_0, zeq_m, zeq_1, zge_0, zbt0, zbt1, zB_0, zB_1, zB_b, zbool_0, zbool_1, ↓reduceIte, t1, t2])
    (fun m I' hi => by
      have hX' : zXd I' s nt nb nr LW := zXd_ks hs hX hi.1
      show f_S_weigh_3L (m + 1) _ _ _ _ _ _ = _
      rw [f_S_weigh_3L]
      simp (disch := (first | omega | assumption)) only [f_S_weigh_3, gi_10, gp_8_0, zbs, nI_add, pk_mul, znI_add1, znI_sub1, znI_subm, zle_nI, zlt_nI, zeq_nI, zle_0, zeq_0, zlt_0, zeq_m, zeq_1, zge_0, zbt0, zbt1, zB_0, zB_1, zB_b, zbool_0, zbool_1, ↓reduceIte, hX'.2.1.1, Nat.le_refl]) nb 0 I zfu (by omega) ⟨zfr_refl _ _, fun t ht => by omega, fun _ _ => rfl⟩ (zfu_lt (by omega))
  refine ⟨I', ?_, a1, a2, a4⟩
  simp (disch := (first | omega | assumption)) only [f_S_weigh, zg_8, zbs, nI_add, pk_mul, znI_add1, znI_sub1, znI_subm, zle_nI, zlt_nI, zeq_nI, zle_0, zeq_0, zlt_0, zeq_m, zeq_1, zge_0, zbt0, zbt1, zB_0, zB_1, zB_b, zbool_0, zbool_1, ↓reduceIte]
  exact a3
end ZXk
