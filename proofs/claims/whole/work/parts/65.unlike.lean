/-! what lies there; unlike -/
def zSnx (a k : Nat) : Bool := zSg a k || a == 75 || (a == 0 && k == 18)
def zSnm (a k : Nat) : Bool := zSg a k || a == 117 || (a == 91 && k == 59)
def zSn (a k : Nat) : Bool := zSg a k || a == 75 || a == 117 || (a == 0 && k == 18) || (a == 91 && k == 59)
theorem zSg_nx : ∀ a k, zSg a k = true → zSnx a k = true := fun a k h => by simp [zSnx, h]
theorem zSg_nm : ∀ a k, zSg a k = true → zSnm a k = true := fun a k h => by simp [zSnm, h]
theorem zSnx_n : ∀ a k, zSnx a k = true → zSn a k = true := fun a k h => by
  unfold zSnx at h
  unfold zSn
  simp at h ⊢
  rcases h with (h | h) | h <;> simp [h]
theorem zSnm_n : ∀ a k, zSnm a k = true → zSn a k = true := fun a k h => by
  unfold zSnm at h
  unfold zSn
  simp at h ⊢
  rcases h with (h | h) | h <;> simp [h]
theorem zSg_n : ∀ a k, zSg a k = true → zSn a k = true := fun a k h => by simp [zSn, h]
def zLnx (I : Nat → Nat → Int32) (V : List Int32) : Prop := I 0 18 = nI V.length ∧ ∀ k v, V[k]? = some v → I 75 k = v
def zLnm (I : Nat → Nat → Int32) (V : List Int32) : Prop := I 91 59 = nI V.length ∧ ∀ k v, V[k]? = some v → I 117 k = v
theorem zCo_frn {I I' : Nat → Nat → Int32} {t nt nb nr q sh md om im : Nat} {LW BW : List Int32} (h : zCo I t nt nb nr q sh md om im LW BW) (hf : zfr zSn I I') : zCo I' t nt nb nr q sh md om im LW BW := by
  have r97 : I' 97 = I 97 := zfr_row hf 97 (fun _ => rfl)
  have r98 : I' 98 = I 98 := zfr_row hf 98 (fun _ => rfl)
  have r99 : I' 99 = I 99 := zfr_row hf 99 (fun _ => rfl)
  have r107 : I' 107 = I 107 := zfr_row hf 107 (fun _ => rfl)
  have r109 : I' 109 = I 109 := zfr_row hf 109 (fun _ => rfl)
  have r110 : I' 110 = I 110 := zfr_row hf 110 (fun _ => rfl)
  have r111 : I' 111 = I 111 := zfr_row hf 111 (fun _ => rfl)
  have r30 : I' 30 = I 30 := zfr_row hf 30 (fun _ => rfl)
  have r31 : I' 31 = I 31 := zfr_row hf 31 (fun _ => rfl)
  have r32 : I' 32 = I 32 := zfr_row hf 32 (fun _ => rfl)
  have r33 : I' 33 = I 33 := zfr_row hf 33 (fun _ => rfl)
  have ht := h.1
  have e0 : I' t = I t := zfr_row hf t (fun _ => by rcases ht with rfl | rfl <;> rfl)
  have e1 : I' (t + 1) = I (t + 1) := zfr_row hf _ (fun _ => by rcases ht with rfl | rfl <;> rfl)
  have e3 : I' (t + 3) = I (t + 3) := zfr_row hf _ (fun _ => by rcases ht with rfl | rfl <;> rfl)
  have e4 : I' (t + 4) = I (t + 4) := zfr_row hf _ (fun _ => by rcases ht with rfl | rfl <;> rfl)
  have e5 : I' (t + 5) = I (t + 5) := zfr_row hf _ (fun _ => by rcases ht with rfl | rfl <;> rfl)
  have e6 : I' (t + 6) = I (t + 6) := zfr_row hf _ (fun _ => by rcases ht with rfl | rfl <;> rfl)
  have e8 : I' (t + 8) = I (t + 8) := zfr_row hf _ (fun _ => by rcases ht with rfl | rfl <;> rfl)
  have e9 : I' (t + 9) = I (t + 9) := zfr_row hf _ (fun _ => by rcases ht with rfl | rfl <;> rfl)
  have f22 := hf 91 22 rfl
  have f41 := hf 91 41 rfl
  have f42 := hf 91 42 rfl
  have f43 := hf 91 43 rfl
  have f44 := hf 91 44 rfl
  have f45 := hf 91 45 rfl
  have f46 := hf 91 46 rfl
  have f47 := hf 91 47 rfl
  have f48 := hf 91 48 rfl
  have g2 := hf 51 2 rfl
  have g3 := hf 51 3 rfl
  unfold zCo zTold zMd zXd zBd zNow at h ⊢
  rw [r97, r98, r99, r107, r109, r110, r111, r30, r31, r32, r33, e0, e1, e3, e4, e5, e6, e8, e9, f22, f41, f42, f43, f44, f45, f46, f47, f48, g2, g3]
  exact h
theorem zKy_frn {I I' : Nat → Nat → Int32} {nt : Nat} {LW : List Int32} (hf : zfr zSn I I') : zKy I' nt LW = zKy I nt LW := by
  funext r b
  unfold zKy zkm zhd
  rw [zfr_row hf 107 (fun _ => rfl), zfr_row hf 109 (fun _ => rfl), zfr_row hf 111 (fun _ => rfl), hf 91 46 rfl]
theorem zLf_frn {I I' : Nat → Nat → Int32} {nb : Nat} {S : List Nat} (h : zLf I nb S) (hf : zfr zSn I I') : zLf I' nb S := by
  unfold zLf
  rw [hf 0 16 rfl, hf 91 71 rfl, zfr_row hf 74 (fun _ => rfl), zfr_row hf 124 (fun _ => rfl)]
  exact h
/-- alike, and what lies there is alike -/
def zOK3 (I : Nat → Nat → Int32) (J : Nat → Nat → Int64) (t u i f s x : Nat) (fx fm : zSt → Option (Int32 × zSt)) : Prop := ∃ (v : Int32) (V : List Int32) (I1 : Nat → Nat → Int32) (J1 : Nat → Nat → Int64) (s1 : Nat) (I2 : Nat → Nat → Int32) (J2 : Nat → Nat → Int64),
  fx (zs I J (zPt t u i f s x)) = some (v, zs I1 J1 (zPt t u i f s1 x)) ∧ fm (zs I1 J1 (zPt t u i f s1 x)) = some (v, zs I2 J2 (zPt t u i f s1 x)) ∧ zfr zSn I I2 ∧ (s1 = s ∨ s1 = t) ∧ zLnx I2 V ∧ zLnm I2 V ∧ V.length ≤ 10
theorem zB_inj (a b : Bool) : (zB a = zB b) = (a = b) := by cases a <;> cases b <;> simp [zB]
section ZUn
variable {I : Nat → Nat → Int32} {J : Nat → Nat → Int64} {t u i f s x : Nat} {nt nb nr q sh md om im : Nat} {LW BW : List Int32}
theorem zLnx_g {I' : Nat → Nat → Int32} {V : List Int32} (h : zLnx I V) (hf : zfr zSnm I I') : zLnx I' V := by
  unfold zLnx
  rw [hf 0 18 rfl, zfr_row hf 75 (fun _ => rfl)]
  exact h
theorem zLnx_sg {I' : Nat → Nat → Int32} {V : List Int32} (h : zLnx I V) (hf : zfr zSg I I') : zLnx I' V := zLnx_g h (zfr_mono hf zSg_nm)
theorem zLnm_sg {I' : Nat → Nat → Int32} {V : List Int32} (h : zLnm I V) (hf : zfr zSg I I') : zLnm I' V := by
  unfold zLnm
  rw [hf 91 59 rfl, zfr_row hf 117 (fun _ => rfl)]
  exact h
theorem zapp_at {V : List Int32} {row : Nat → Int32} {v : Int32} (h : ∀ k v, V[k]? = some v → row k = v) : ∀ k w, (V ++ [v])[k]? = some w → va_up row V.length v k = w := fun k w hk => by
  by_cases hkl : k = V.length
  · subst hkl
    rw [List.getElem?_concat_length] at hk
    rw [va_up_self, Option.some.inj hk]
  · rw [va_up_ne _ _ hkl]
    have h1 := (List.getElem?_eq_some_iff.mp hk).1
    rw [List.length_append, List.length_singleton] at h1
    rw [List.getElem?_append_left (by omega)] at hk
    exact h k w hk
theorem g_W_layDown {V : List Int32} (hV : zLnx I V) (hl : V.length < 10) (v : Int32) : ∃ I', f_W_layDown (zs I J (zPt t u i f s x)) 0 v = some (zs I' J (zPt t u i f s x)) ∧ zfr (fun a k => a == 75 || (a == 0 && k == 18)) I I' ∧ zLnx I' (V ++ [v]) := by
  have hle : ¬ 10 ≤ V.length := by omega
  have e0 : ∀ w, zup I 75 V.length w 0 = I 0 := fun w => zup_ne _ _ _ (by decide)
  refine ⟨zup (zup I 75 V.length v) 0 18 (nI (V.length + 1)), ?_, zfr_up (zfr_up (zfr_refl _ _) rfl) rfl, ?_, ?_⟩
  · simp (disch := (first | omega | assumption)) only [f_W_layDown, zg_11, gi_11, si_11, gp_11_17, wi_75, ge10, zbs, nI_add, pk_mul, znI_add1, znI_sub1, znI_subm, zle_nI, zlt_nI, zeq_nI, zle_0, zeq_0, zlt_0, zeq_m, zeq_1, zge_0, zbt0, zbt1, zB_0, zB_1, zB_b, zbool_0, zbool_1, ↓reduceIte, hV.1, hle, e0]
  · rw [zup_s, List.length_append]
    rfl
  · intro k w hk
    rw [zup_ne _ _ _ (by decide), zup_self]
    exact zapp_at hV.2 k w hk
theorem g_M_lay {V : List Int32} (hV : zLnm I V) (hl : V.length < 16) (v : Int32) : ∃ I', f_M_lay (zs I J (zPt t u i f s x)) 91 v = some (zs I' J (zPt t u i f s x)) ∧ zfr (fun a k => a == 117 || (a == 91 && k == 59)) I I' ∧ zLnm I' (V ++ [v]) := by
  have e0 : ∀ w, zup I 117 V.length w 91 = I 91 := fun w => zup_ne _ _ _ (by decide)
  refine ⟨zup (zup I 117 V.length v) 91 59 (nI (V.length + 1)), ?_, zfr_up (zfr_up (zfr_refl _ _) rfl) rfl, ?_, ?_⟩
  · simp (disch := (first | omega | assumption)) only [f_M_lay, zg_12, gi_12, si_12, gp_12_58, wi_117, zbs, nI_add, pk_mul, znI_add1, znI_sub1, znI_subm, zle_nI, zlt_nI, zeq_nI, zle_0, zeq_0, zlt_0, zeq_m, zeq_1, zge_0, zbt0, zbt1, zB_0, zB_1, zB_b, zbool_0, zbool_1, ↓reduceIte, hV.1, e0]
  · rw [zup_s, List.length_append]
    rfl
  · intro k w hk
    rw [zup_ne _ _ _ (by decide), zup_self]
    exact zapp_at hV.2 k w hk
theorem zSx75 : ∀ a k, (a == 75 || (a == 0 && k == 18)) = true → zSnx a k = true := fun a k h => by
  unfold zSnx
  simp at h ⊢
  rcases h with h | h <;> simp [h]
theorem zSm117 : ∀ a k, (a == 117 || (a == 91 && k == 59)) = true → zSnm a k = true := fun a k h => by
  unfold zSnm
  simp at h ⊢
  rcases h with h | h <;> simp [h]
def zuf (C : Nat → Nat → Bool) (a b : Nat) (p : Nat × List Int32) : Nat × List Int32 := if C a b = true then (p.1 + 1, if p.1 = 0 then p.2 ++ [nI a] ++ [nI b] else p.2) else p
def zuo (C : Nat → Nat → Bool) (n a : Nat) (p : Nat × List Int32) : Nat × List Int32 := zrn (zuf C a) (n - (a + 1)) (a + 1) p
/-- two books that two have in unlike order -/
def zuC (K : Nat → Nat → Int32) (om r o : Nat) (a b : Nat) : Bool := !om.testBit a && !om.testBit b && (zah2 (K r) a b != zah2 (K o) a b)
def zuI (n : Nat) (p : Nat × List Int32) : Prop := p.1 ≤ n ∧ (p.1 = 0 → p.2 = []) ∧ p.2.length ≤ 2
theorem zuf_I {C : Nat → Nat → Bool} {a b n : Nat} {p : Nat × List Int32} (h : zuI n p) : zuI (n + 1) (zuf C a b p) := by
  obtain ⟨h1, h2, h3⟩ := h
  unfold zuf
  split
  · refine ⟨by show p.1 + 1 ≤ n + 1; omega, fun h => absurd h (Nat.succ_ne_zero _), ?_⟩
    show (if p.1 = 0 then p.2 ++ [nI a] ++ [nI b] else p.2).length ≤ 2
    split
    · rename_i h0
      rw [h2 h0]
      simp
    · exact h3
  · exact ⟨by omega, h2, h3⟩
theorem x_unlikeL (ht : t = 2 ∨ t = 13) {I0 I1 : Nat → Nat → Int32} (hC : zCo I0 t nt nb nr q sh md om im LW BW) {r o : Nat} (hr : r < nr) (ho : o < nr) (hf1 : zfr zSnx I0 I1) (hV : zLnx I1 []) (hK : ∀ r b, r < nr → b < nb → zKx I1 r b = zKy I0 nt LW r b) :
    ∃ I2, zfr zSnx I0 I2 ∧ zLnx I2 (zrn (zuo (zuC (zKy I0 nt LW) om r o) nb) nb 0 (0, [])).2 ∧ f_W_unlike_43L zfu (zs I1 J (zPt t u i f t x)) 0 (nI r) (nI o) 0 0 = some (nI (zrn (zuo (zuC (zKy I0 nt LW) om r o) nb) nb 0 (0, [])).1, (zs I2 J (zPt t u i f t x))) := by
  have hnb := hC.2.1.1.2.1.2
  have hnr := hC.2.1.1.2.2.1.2
  have hom := z2n hnb hC.2.2.2.2.1.2
  have kf : ∀ I', zfr (fun a k => a == 75 || (a == 0 && k == 18)) I1 I' → zKx I' = zKx I1 := fun I' h => by
    unfold zKx
    rw [zfr_row h 48 (fun _ => rfl)]
  obtain ⟨Q, ⟨h1, h4, h2, -⟩, h3⟩ := zfor (fun fuel (q : (Nat → Nat → Int32) × (Nat × List Int32)) k => f_W_unlike_43L fuel (zs q.1 J (zPt t u i f t x)) 0 (nI r) (nI o) (nI q.2.1) (nI k)) nb
    (fun k q' => zfr (fun a k => a == 75 || (a == 0 && k == 18)) I1 q'.1 ∧ zLnx q'.1 q'.2.2 ∧ q'.2 = zrn (zuo (zuC (zKy I0 nt LW) om r o) nb) k 0 (0, []) ∧ zuI (10 * k) q'.2)
    (fun q => some (nI q.2.1, (zs q.1 J (zPt t u i f t x))))
    (fun m k Q hk hi => by
      obtain ⟨h1, h4, h2, h5⟩ := hi
      have hle : ¬ nb ≤ k := by omega
      have hCq := zCo_frn hC (zfr_mono (zfr_trans hf1 (zfr_mono h1 zSx75)) zSnx_n)
      obtain ⟨Q2, ⟨g1, g4, g2, g5⟩, g3⟩ := zfor (fun fuel (q : (Nat → Nat → Int32) × (Nat × List Int32)) j => f_W_unlike_61L (f_W_unlike_43L m) fuel (zs q.1 J (zPt t u i f t x)) 0 (nI r) (nI o) (nI q.2.1) (nI k) (nI j)) nb
        (fun j q' => zfr (fun a k => a == 75 || (a == 0 && k == 18)) I1 q'.1 ∧ zLnx q'.1 q'.2.2 ∧ (k + 1 ≤ j ∧ q'.2 = zrn (zuf (zuC (zKy I0 nt LW) om r o) k) (j - (k + 1)) (k + 1) Q.2) ∧ zuI (10 * k + (j - (k + 1))) q'.2)
        (fun q => f_W_unlike_43L m (zs q.1 J (zPt t u i f t x)) 0 (nI r) (nI o) (nI q.2.1) (nI (k + 1)))
        (fun m' j Q2 hj hi2 => by
          obtain ⟨I3, n, V⟩ := Q2
          obtain ⟨h1, h4, ⟨hkj, h2⟩, h5⟩ := hi2
          dsimp only at h1 h4 h2 h5
          have hC3 := zCo_frn hC (zfr_mono (zfr_trans hf1 (zfr_mono h1 zSx75)) zSnx_n)
          have hn : n ≤ 200 := by have := h5.1; dsimp only at this; omega
          have hVl : V.length ≤ 2 := h5.2.2
          have hle2 : ¬ nb ≤ j := by omega
          have m1 : I3 t 1 = nI nb := hC3.2.1.2.1.2.1.1
          have m4 : I3 30 4 = nI om := hC3.2.2.1.2.2.2.1.trans hC3.2.2.2.2.1.1
          have x2 := g_W_isHere1 (J := J) (t := t) (u := u) (i := i) (f := f) (s := t) (x := x) ht m1 hnb m4 hom hk
          have x3 := g_W_isHere1 (J := J) (t := t) (u := u) (i := i) (f := f) (s := t) (x := x) ht m1 hnb m4 hom hj
          have hKk : ∀ r', r' < nr → zah2 (zKx I3 r') k j = zah2 (zKy I0 nt LW r') k j := fun r' hr' => by
            unfold zah2
            rw [kf I3 h1, hK r' k hr' hk, hK r' j hr' hj]
          have x6 := g_S_isAhead (I := I3) (J := J) (t := t) (u := u) (i := i) (f := f) (s := t) (x := x) (show r < 6 by omega) (show k < 10 by omega) (show j < 10 by omega)
          have x8 := g_S_isAhead (I := I3) (J := J) (t := t) (u := u) (i := i) (f := f) (s := t) (x := x) (show o < 6 by omega) (show k < 10 by omega) (show j < 10 by omega)
          rw [hKk r hr] at x6
          rw [hKk o ho] at x8
          have pure : ∀ p, p = zrn (zuf (zuC (zKy I0 nt LW) om r o) k) (j - (k + 1)) (k + 1) Q.2 → zuf (zuC (zKy I0 nt LW) om r o) k j p = zrn (zuf (zuC (zKy I0 nt LW) om r o) k) (j + 1 - (k + 1)) (k + 1) Q.2 := fun p hp => by
            rw [show j + 1 - (k + 1) = (j - (k + 1)) + 1 by omega, zrn_succ, hp, show k + 1 + (j - (k + 1)) = j by omega]
          have hI' : zuI (10 * k + (j + 1 - (k + 1))) (zuf (zuC (zKy I0 nt LW) om r o) k j (n, V)) := by
            rw [show 10 * k + (j + 1 - (k + 1)) = 10 * k + (j - (k + 1)) + 1 by omega]
            exact zuf_I h5
          cases hC0 : zuC (zKy I0 nt LW) om r o k j with
          | false =>
            have hz : zuf (zuC (zKy I0 nt LW) om r o) k j (n, V) = (n, V) := by unfold zuf; rw [hC0]; rfl
            refine ⟨(I3, (n, V)), ⟨h1, h4, ⟨by omega, ?_⟩, ?_⟩, ?_⟩
            · rw [← pure _ h2]; exact hz.symm
            · rw [hz] at hI'; exact hI'
            · show f_W_unlike_61L _ (m' + 1) _ _ _ _ _ _ _ = _
              rw [f_W_unlike_61L]
              unfold zuC at hC0
              cases ha : om.testBit k with
              | true =>
                rw [ha] at x2
                simp (disch := (first | omega | assumption)) only [f_W_unlike_61, gi_10, gp_11_2, gp_11_9, zbs, nI_add, pk_mul, znI_add1, znI_sub1, znI_subm, zle_nI, zlt_nI, zeq_nI, zle_0, zeq_0, zlt_0, zeq_m, zeq_1, zge_0, zbt0, zbt1, zB_0, zB_1, zB_b, zbool_0, zbool_1, ↓reduceIte, m1, hle2, x2, Bool.not_true]
              | false =>
                rw [ha] at x2 hC0
                cases hb : om.testBit j with
                | true =>
                  rw [hb] at x3
                  simp (disch := (first | omega | assumption)) only [f_W_unlike_61, gi_10, gp_11_2, gp_11_9, zbs, nI_add, pk_mul, znI_add1, znI_sub1, znI_subm, zle_nI, zlt_nI, zeq_nI, zle_0, zeq_0, zlt_0, zeq_m, zeq_1, zge_0, zbt0, zbt1, zB_0, zB_1, zB_b, zbool_0, zbool_1, ↓reduceIte, m1, hle2, x2, x3, Bool.not_true, Bool.not_false, Bool.true_eq_false]
                | false =>
                  rw [hb] at x3 hC0
                  have heq : zah2 (zKy I0 nt LW r) k j = zah2 (zKy I0 nt LW o) k j := by simpa using hC0
                  simp (disch := (first | omega | assumption)) only [f_W_unlike_61, gi_10, gp_11_2, gp_11_9, zbs, nI_add, pk_mul, znI_add1, znI_sub1, znI_subm, zle_nI, zlt_nI, zeq_nI, zle_0, zeq_0, zlt_0, zeq_m, zeq_1, zge_0, zbt0, zbt1, zB_0, zB_1, zB_b, zbool_0, zbool_1, ↓reduceIte, m1, hle2, x2, x3, x6, x8, zB_inj, heq, Bool.not_false, Bool.true_eq_false]
          | true =>
            have hC1 := hC0
            unfold zuC at hC1
            simp at hC1
            obtain ⟨⟨ha, hb⟩, hne⟩ := hC1
            rw [ha] at x2
            rw [hb] at x3
            by_cases hn0 : n = 0
            · subst hn0
              have hV0 : V = [] := h5.2.1 rfl
              subst hV0
              obtain ⟨I4, y1, y2, y3⟩ := g_W_layDown (J := J) (t := t) (u := u) (i := i) (f := f) (s := t) (x := x) h4 (by decide) (nI k)
              obtain ⟨I5, z1, z2, z3⟩ := g_W_layDown (J := J) (t := t) (u := u) (i := i) (f := f) (s := t) (x := x) y3 (by simp) (nI j)
              have hz : zuf (zuC (zKy I0 nt LW) om r o) k j (0, []) = (1, [nI k, nI j]) := by unfold zuf; rw [hC0]; rfl
              refine ⟨(I5, (1, [nI k, nI j])), ⟨zfr_trans h1 (zfr_trans y2 z2), z3, ⟨by omega, ?_⟩, ?_⟩, ?_⟩
              · rw [← pure _ h2]; exact hz.symm
              · rw [hz] at hI'; exact hI'
              · show f_W_unlike_61L _ (m' + 1) _ _ _ _ _ _ _ = _
                rw [f_W_unlike_61L]
                simp (disch := (first | omega | assumption)) only [f_W_unlike_61, gi_10, gp_11_2, gp_11_9, zbs, nI_add, pk_mul, znI_add1, znI_sub1, znI_subm, zle_nI, zlt_nI, zeq_nI, zle_0, zeq_0, zlt_0, zeq_m, zeq_1, zge_0, zbt0, zbt1, zB_0, zB_1, zB_b, zbool_0, zbool_1, ↓reduceIte, m1, hle2, x2, x3, x6, x8, zB_inj, hne, y1, z1, Bool.not_false, Bool.true_eq_false]
            · have hz : zuf (zuC (zKy I0 nt LW) om r o) k j (n, V) = (n + 1, V) := by unfold zuf; rw [hC0]; simp [hn0]
              refine ⟨(I3, (n + 1, V)), ⟨h1, h4, ⟨by omega, ?_⟩, ?_⟩, ?_⟩
              · rw [← pure _ h2]; exact hz.symm
              · rw [hz] at hI'; exact hI'
              · show f_W_unlike_61L _ (m' + 1) _ _ _ _ _ _ _ = _
                rw [f_W_unlike_61L]
                simp (disch := (first | omega | assumption)) only [f_W_unlike_61, gi_10, gp_11_2, gp_11_9, zbs, nI_add, pk_mul, znI_add1, znI_sub1, znI_subm, zle_nI, zlt_nI, zeq_nI, zle_0, zeq_0, zlt_0, zeq_m, zeq_1, zge_0, zbt0, zbt1, zB_0, zB_1, zB_b, zbool_0, zbool_1, ↓reduceIte, m1, hle2, x2, x3, x6, x8, zB_inj, hne, hn0, Bool.not_false, Bool.true_eq_false])
        (fun m' Q2 hi2 => by
          have hC3 := zCo_frn hC (zfr_mono (zfr_trans hf1 (zfr_mono hi2.1 zSx75)) zSnx_n)
          show f_W_unlike_61L _ (m' + 1) _ _ _ _ _ _ _ = _
          rw [f_W_unlike_61L]
          simp (disch := (first | omega | assumption)) only [f_W_unlike_61, gi_10, gp_11_2, gp_11_9, zbs, nI_add, pk_mul, znI_add1, znI_sub1, znI_subm, zle_nI, zlt_nI, zeq_nI, zle_0, zeq_0, zlt_0, zeq_m, zeq_1, zge_0, zbt0, zbt1, zB_0, zB_1, zB_b, zbool_0, zbool_1, ↓reduceIte, hC3.2.1.2.1.2.1.1, Nat.le_refl]) (nb - (k + 1)) (k + 1) Q zfu (by omega) ⟨h1, h4, ⟨Nat.le_refl _, by rw [Nat.sub_self]; rfl⟩, by rw [Nat.sub_self]; exact h5⟩ (zfu_lt (by omega))
      refine ⟨Q2, ⟨g1, g4, ?_, ?_⟩, ?_⟩
      · rw [zrn_succ, ← h2, Nat.zero_add]
        exact g2.2
      · exact ⟨by have := g5.1; omega, g5.2⟩
      · show f_W_unlike_43L (m + 1) _ _ _ _ _ _ = _
        rw [f_W_unlike_43L]
        simp (disch := (first | omega | assumption)) only [f_W_unlike_43, gi_10, gp_11_2, zbs, nI_add, pk_mul, znI_add1, znI_sub1, znI_subm, zle_nI, zlt_nI, zeq_nI, zle_0, zeq_0, zlt_0, zeq_m, zeq_1, zge_0, zbt0, zbt1, zB_0, zB_1, zB_b, zbool_0, zbool_1, ↓reduceIte, hCq.2.1.2.1.2.1.1, hle]
        exact g3)
    (fun m Q hi => by
      have hC3 := zCo_frn hC (zfr_mono (zfr_trans hf1 (zfr_mono hi.1 zSx75)) zSnx_n)
      show f_W_unlike_43L (m + 1) _ _ _ _ _ _ = _
      rw [f_W_unlike_43L]
      simp (disch := (first | omega | assumption)) only [f_W_unlike_43, gi_10, gp_11_2, zbs, nI_add, pk_mul, znI_add1, znI_sub1, znI_subm, zle_nI, zlt_nI, zeq_nI, zle_0, zeq_0, zlt_0, zeq_m, zeq_1, zge_0, zbt0, zbt1, zB_0, zB_1, zB_b, zbool_0, zbool_1, ↓reduceIte, hC3.2.1.2.1.2.1.1, Nat.le_refl]) nb 0 (I1, (0, [])) zfu (by omega) ⟨zfr_refl _ _, hV, rfl, ⟨Nat.le_refl _, (fun _ => rfl), Nat.zero_le 2⟩⟩ (zfu_lt (by omega))
  refine ⟨Q.1, zfr_trans hf1 (zfr_mono h1 zSx75), ?_, ?_⟩
  · rw [← h2]; exact h4
  · rw [← h2]; exact h3
theorem m_unlikeL {I0 I1 : Nat → Nat → Int32} (hC : zCo I0 t nt nb nr q sh md om im LW BW) {r o : Nat} (hr : r < nr) (ho : o < nr) (hf1 : zfr zSnm I0 I1) (hV : zLnm I1 []) (hK : ∀ r b, r < nr → b < nb → zKm I1 r b = zKy I0 nt LW r b) :
    ∃ I2, zfr zSnm I0 I2 ∧ zLnm I2 (zrn (zuo (zuC (zKy I0 nt LW) om r o) nb) nb 0 (0, [])).2 ∧ f_M_unlike_32L zfu (zs I1 J (zPt t u i f s x)) 91 (nI r) (nI o) 0 0 = some (nI (zrn (zuo (zuC (zKy I0 nt LW) om r o) nb) nb 0 (0, [])).1, (zs I2 J (zPt t u i f s x))) := by
  have hnb := hC.2.1.1.2.1.2
  have hnr := hC.2.1.1.2.2.1.2
  have hom := z2n hnb hC.2.2.2.2.1.2
  have kf : ∀ I', zfr (fun a k => a == 117 || (a == 91 && k == 59)) I1 I' → zKm I' = zKm I1 := fun I' h => by
    unfold zKm
    rw [zfr_row h 113 (fun _ => rfl)]
  obtain ⟨Q, ⟨h1, h4, h2, -⟩, h3⟩ := zfor (fun fuel (q : (Nat → Nat → Int32) × (Nat × List Int32)) k => f_M_unlike_32L fuel (zs q.1 J (zPt t u i f s x)) 91 (nI r) (nI o) (nI q.2.1) (nI k)) nb
    (fun k q' => zfr (fun a k => a == 117 || (a == 91 && k == 59)) I1 q'.1 ∧ zLnm q'.1 q'.2.2 ∧ q'.2 = zrn (zuo (zuC (zKy I0 nt LW) om r o) nb) k 0 (0, []) ∧ zuI (10 * k) q'.2)
    (fun q => some (nI q.2.1, (zs q.1 J (zPt t u i f s x))))
    (fun m k Q hk hi => by
      obtain ⟨h1, h4, h2, h5⟩ := hi
      have hle : ¬ nb ≤ k := by omega
      have hCq := zCo_frn hC (zfr_mono (zfr_trans hf1 (zfr_mono h1 zSm117)) zSnm_n)
      obtain ⟨Q2, ⟨g1, g4, g2, g5⟩, g3⟩ := zfor (fun fuel (q : (Nat → Nat → Int32) × (Nat × List Int32)) j => f_M_unlike_47L (f_M_unlike_32L m) fuel (zs q.1 J (zPt t u i f s x)) 91 (nI r) (nI o) (nI q.2.1) (nI k) (nI j)) nb
        (fun j q' => zfr (fun a k => a == 117 || (a == 91 && k == 59)) I1 q'.1 ∧ zLnm q'.1 q'.2.2 ∧ (k + 1 ≤ j ∧ q'.2 = zrn (zuf (zuC (zKy I0 nt LW) om r o) k) (j - (k + 1)) (k + 1) Q.2) ∧ zuI (10 * k + (j - (k + 1))) q'.2)
        (fun q => f_M_unlike_32L m (zs q.1 J (zPt t u i f s x)) 91 (nI r) (nI o) (nI q.2.1) (nI (k + 1)))
        (fun m' j Q2 hj hi2 => by
          obtain ⟨I3, n, V⟩ := Q2
          obtain ⟨h1, h4, ⟨hkj, h2⟩, h5⟩ := hi2
          dsimp only at h1 h4 h2 h5
          have hC3 := zCo_frn hC (zfr_mono (zfr_trans hf1 (zfr_mono h1 zSm117)) zSnm_n)
          have hn : n ≤ 200 := by have := h5.1; dsimp only at this; omega
          have hVl : V.length ≤ 2 := h5.2.2
          have hle2 : ¬ nb ≤ j := by omega
          have m1 : I3 91 42 = nI nb := hC3.2.1.1.2.1.1
          have x2 := g_M_isOut (J := J) (t := t) (u := u) (i := i) (f := f) (s := s) (x := x) hC3.2.2.2.2.1.1 hom (show k < 10 by omega)
          have x3 := g_M_isOut (J := J) (t := t) (u := u) (i := i) (f := f) (s := s) (x := x) hC3.2.2.2.2.1.1 hom (show j < 10 by omega)
          have hKk : ∀ r', r' < nr → zah2 (zKm I3 r') k j = zah2 (zKy I0 nt LW r') k j := fun r' hr' => by
            unfold zah2
            rw [kf I3 h1, hK r' k hr' hk, hK r' j hr' hj]
          have x6 := g_M_isAhead (I := I3) (J := J) (t := t) (u := u) (i := i) (f := f) (s := s) (x := x) (show r < 6 by omega) (show k < 10 by omega) (show j < 10 by omega)
          have x8 := g_M_isAhead (I := I3) (J := J) (t := t) (u := u) (i := i) (f := f) (s := s) (x := x) (show o < 6 by omega) (show k < 10 by omega) (show j < 10 by omega)
          rw [hKk r hr] at x6
          rw [hKk o ho] at x8
          have pure : ∀ p, p = zrn (zuf (zuC (zKy I0 nt LW) om r o) k) (j - (k + 1)) (k + 1) Q.2 → zuf (zuC (zKy I0 nt LW) om r o) k j p = zrn (zuf (zuC (zKy I0 nt LW) om r o) k) (j + 1 - (k + 1)) (k + 1) Q.2 := fun p hp => by
            rw [show j + 1 - (k + 1) = (j - (k + 1)) + 1 by omega, zrn_succ, hp, show k + 1 + (j - (k + 1)) = j by omega]
          have hI' : zuI (10 * k + (j + 1 - (k + 1))) (zuf (zuC (zKy I0 nt LW) om r o) k j (n, V)) := by
            rw [show 10 * k + (j + 1 - (k + 1)) = 10 * k + (j - (k + 1)) + 1 by omega]
            exact zuf_I h5
          cases hC0 : zuC (zKy I0 nt LW) om r o k j with
          | false =>
            have hz : zuf (zuC (zKy I0 nt LW) om r o) k j (n, V) = (n, V) := by unfold zuf; rw [hC0]; rfl
            refine ⟨(I3, (n, V)), ⟨h1, h4, ⟨by omega, ?_⟩, ?_⟩, ?_⟩
            · rw [← pure _ h2]; exact hz.symm
            · rw [hz] at hI'; exact hI'
            · show f_M_unlike_47L _ (m' + 1) _ _ _ _ _ _ _ = _
              rw [f_M_unlike_47L]
              unfold zuC at hC0
              cases ha : om.testBit k with
              | true =>
                rw [ha] at x2
                simp (disch := (first | omega | assumption)) only [f_M_unlike_47, gi_12, zbs, nI_add, pk_mul, znI_add1, znI_sub1, znI_subm, zle_nI, zlt_nI, zeq_nI, zle_0, zeq_0, zlt_0, zeq_m, zeq_1, zge_0, zbt0, zbt1, zB_0, zB_1, zB_b, zbool_0, zbool_1, ↓reduceIte, m1, hle2, x2, Bool.true_eq_false]
              | false =>
                rw [ha] at x2 hC0
                cases hb : om.testBit j with
                | true =>
                  rw [hb] at x3
                  simp (disch := (first | omega | assumption)) only [f_M_unlike_47, gi_12, zbs, nI_add, pk_mul, znI_add1, znI_sub1, znI_subm, zle_nI, zlt_nI, zeq_nI, zle_0, zeq_0, zlt_0, zeq_m, zeq_1, zge_0, zbt0, zbt1, zB_0, zB_1, zB_b, zbool_0, zbool_1, ↓reduceIte, m1, hle2, x2, x3, Bool.true_eq_false]
                | false =>
                  rw [hb] at x3 hC0
                  have heq : zah2 (zKy I0 nt LW r) k j = zah2 (zKy I0 nt LW o) k j := by simpa using hC0
                  simp (disch := (first | omega | assumption)) only [f_M_unlike_47, gi_12, zbs, nI_add, pk_mul, znI_add1, znI_sub1, znI_subm, zle_nI, zlt_nI, zeq_nI, zle_0, zeq_0, zlt_0, zeq_m, zeq_1, zge_0, zbt0, zbt1, zB_0, zB_1, zB_b, zbool_0, zbool_1, ↓reduceIte, m1, hle2, x2, x3, x6, x8, zB_inj, heq, Bool.true_eq_false]
          | true =>
            have hC1 := hC0
            unfold zuC at hC1
            simp at hC1
            obtain ⟨⟨ha, hb⟩, hne⟩ := hC1
            rw [ha] at x2
            rw [hb] at x3
            by_cases hn0 : n = 0
            · subst hn0
              have hV0 : V = [] := h5.2.1 rfl
              subst hV0
              obtain ⟨I4, y1, y2, y3⟩ := g_M_lay (J := J) (t := t) (u := u) (i := i) (f := f) (s := s) (x := x) h4 (by simp) (nI k)
              obtain ⟨I5, z1, z2, z3⟩ := g_M_lay (J := J) (t := t) (u := u) (i := i) (f := f) (s := s) (x := x) y3 (by simp) (nI j)
              have hz : zuf (zuC (zKy I0 nt LW) om r o) k j (0, []) = (1, [nI k, nI j]) := by unfold zuf; rw [hC0]; rfl
              refine ⟨(I5, (1, [nI k, nI j])), ⟨zfr_trans h1 (zfr_trans y2 z2), z3, ⟨by omega, ?_⟩, ?_⟩, ?_⟩
              · rw [← pure _ h2]; exact hz.symm
              · rw [hz] at hI'; exact hI'
              · show f_M_unlike_47L _ (m' + 1) _ _ _ _ _ _ _ = _
                rw [f_M_unlike_47L]
                simp (disch := (first | omega | assumption)) only [f_M_unlike_47, gi_12, zbs, nI_add, pk_mul, znI_add1, znI_sub1, znI_subm, zle_nI, zlt_nI, zeq_nI, zle_0, zeq_0, zlt_0, zeq_m, zeq_1, zge_0, zbt0, zbt1, zB_0, zB_1, zB_b, zbool_0, zbool_1, ↓reduceIte, m1, hle2, x2, x3, x6, x8, zB_inj, hne, y1, z1, Bool.true_eq_false]
            · have hz : zuf (zuC (zKy I0 nt LW) om r o) k j (n, V) = (n + 1, V) := by unfold zuf; rw [hC0]; simp [hn0]
              refine ⟨(I3, (n + 1, V)), ⟨h1, h4, ⟨by omega, ?_⟩, ?_⟩, ?_⟩
              · rw [← pure _ h2]; exact hz.symm
              · rw [hz] at hI'; exact hI'
              · show f_M_unlike_47L _ (m' + 1) _ _ _ _ _ _ _ = _
                rw [f_M_unlike_47L]
                simp (disch := (first | omega | assumption)) only [f_M_unlike_47, gi_12, zbs, nI_add, pk_mul, znI_add1, znI_sub1, znI_subm, zle_nI, zlt_nI, zeq_nI, zle_0, zeq_0, zlt_0, zeq_m, zeq_1, zge_0, zbt0, zbt1, zB_0, zB_1, zB_b, zbool_0, zbool_1, ↓reduceIte, m1, hle2, x2, x3, x6, x8, zB_inj, hne, hn0, Bool.true_eq_false])
        (fun m' Q2 hi2 => by
          have hC3 := zCo_frn hC (zfr_mono (zfr_trans hf1 (zfr_mono hi2.1 zSm117)) zSnm_n)
          show f_M_unlike_47L _ (m' + 1) _ _ _ _ _ _ _ = _
          rw [f_M_unlike_47L]
          simp (disch := (first | omega | assumption)) only [f_M_unlike_47, gi_12, zbs, nI_add, pk_mul, znI_add1, znI_sub1, znI_subm, zle_nI, zlt_nI, zeq_nI, zle_0, zeq_0, zlt_0, zeq_m, zeq_1, zge_0, zbt0, zbt1, zB_0, zB_1, zB_b, zbool_0, zbool_1, ↓reduceIte, hC3.2.1.1.2.1.1, Nat.le_refl]) (nb - (k + 1)) (k + 1) Q zfu (by omega) ⟨h1, h4, ⟨Nat.le_refl _, by rw [Nat.sub_self]; rfl⟩, by rw [Nat.sub_self]; exact h5⟩ (zfu_lt (by omega))
      refine ⟨Q2, ⟨g1, g4, ?_, ?_⟩, ?_⟩
      · rw [zrn_succ, ← h2, Nat.zero_add]
        exact g2.2
      · exact ⟨by have := g5.1; omega, g5.2⟩
      · show f_M_unlike_32L (m + 1) _ _ _ _ _ _ = _
        rw [f_M_unlike_32L]
        simp (disch := (first | omega | assumption)) only [f_M_unlike_32, gi_12, zbs, nI_add, pk_mul, znI_add1, znI_sub1, znI_subm, zle_nI, zlt_nI, zeq_nI, zle_0, zeq_0, zlt_0, zeq_m, zeq_1, zge_0, zbt0, zbt1, zB_0, zB_1, zB_b, zbool_0, zbool_1, ↓reduceIte, hCq.2.1.1.2.1.1, hle]
        exact g3)
    (fun m Q hi => by
      have hC3 := zCo_frn hC (zfr_mono (zfr_trans hf1 (zfr_mono hi.1 zSm117)) zSnm_n)
      show f_M_unlike_32L (m + 1) _ _ _ _ _ _ = _
      rw [f_M_unlike_32L]
      simp (disch := (first | omega | assumption)) only [f_M_unlike_32, gi_12, zbs, nI_add, pk_mul, znI_add1, znI_sub1, znI_subm, zle_nI, zlt_nI, zeq_nI, zle_0, zeq_0, zlt_0, zeq_m, zeq_1, zge_0, zbt0, zbt1, zB_0, zB_1, zB_b, zbool_0, zbool_1, ↓reduceIte, hC3.2.1.1.2.1.1, Nat.le_refl]) nb 0 (I1, (0, [])) zfu (by omega) ⟨zfr_refl _ _, hV, rfl, ⟨Nat.le_refl _, (fun _ => rfl), Nat.zero_le 2⟩⟩ (zfu_lt (by omega))
  refine ⟨Q.1, zfr_trans hf1 (zfr_mono h1 zSm117), ?_, ?_⟩
  · rw [← h2]; exact h4
  · rw [← h2]; exact h3
theorem q_unlike (hC : zCo I t nt nb nr q sh md om im LW BW) (r o : Int32) : zOK3 I J t u i f s x (fun σ => f_W_unlike σ 0 r o) (fun σ => f_M_unlike σ 91 r o) := by
  have hC2 := hC
  have ht := hC.1
  have hnb := hC.2.1.1.2.1.2
  have hnr := hC.2.1.1.2.2.1.2
  have f0 : zfr zSnx I (zup I 0 18 0) := zfr_up (zfr_refl _ _) rfl
  have hC0 := zCo_frn hC (zfr_mono f0 zSnx_n)
  have v0 : zLnx (zup I 0 18 0) [] := ⟨zup_s _ _ _ _, fun k v h => by simp at h⟩
  have x1 := g_W_isReader (J := J) (t := t) (u := u) (i := i) (f := f) (s := s) (x := x) ht hC0.2.1.2.1.2.2.1.1 r
  have x2 := g_W_isReader (J := J) (t := t) (u := u) (i := i) (f := f) (s := s) (x := x) ht hC0.2.1.2.1.2.2.1.1 o
  have none : zlt r nr = false ∨ (zlt r nr = true ∧ zlt o nr = false) → zOK3 I J t u i f s x (fun σ => f_W_unlike σ 0 r o) (fun σ => f_M_unlike σ 91 r o) := fun hcase => by
    have f1 : zfr zSnm (zup I 0 18 0) (zup (zup I 0 18 0) 91 59 0) := zfr_up (zfr_refl _ _) rfl
    have hC1 := zCo_frn hC0 (zfr_mono f1 zSnm_n)
    have m1 := g_M_isReader (J := J) (t := t) (u := u) (i := i) (f := f) (s := s) (x := x) hC1.2.1.1.2.2.1.1 hnr r
    have m2 := g_M_isReader (J := J) (t := t) (u := u) (i := i) (f := f) (s := s) (x := x) hC1.2.1.1.2.2.1.1 hnr o
    refine ⟨-1, [], zup I 0 18 0, J, s, zup (zup I 0 18 0) 91 59 0, J, ?_, ?_, zfr_trans (zfr_mono f0 zSnx_n) (zfr_mono f1 zSnm_n), Or.inl rfl, zLnx_g v0 f1, ⟨zup_s _ _ _ _, fun k v h => by simp at h⟩, by simp⟩
    · show f_W_unlike _ 0 _ _ = _
      rcases hcase with h | ⟨h, h'⟩
      · rw [h] at x1
        simp (disch := (first | omega | assumption)) only [f_W_unlike, zg_11, si_11, gp_11_9, gp_11_2, gp_11_5, zbs, nI_add, pk_mul, znI_add1, znI_sub1, znI_subm, zle_nI, zlt_nI, zeq_nI, zle_0, zeq_0, zlt_0, zeq_m, zeq_1, zge_0, zbt0, zbt1, zB_0, zB_1, zB_b, zbool_0, zbool_1, ↓reduceIte, x1]
      · rw [h] at x1
        rw [h'] at x2
        simp (disch := (first | omega | assumption)) only [f_W_unlike, zg_11, si_11, gp_11_9, gp_11_2, gp_11_5, zbs, nI_add, pk_mul, znI_add1, znI_sub1, znI_subm, zle_nI, zlt_nI, zeq_nI, zle_0, zeq_0, zlt_0, zeq_m, zeq_1, zge_0, zbt0, zbt1, zB_0, zB_1, zB_b, zbool_0, zbool_1, ↓reduceIte, x1, x2, Bool.true_eq_false]
    · show f_M_unlike _ 91 _ _ = _
      rcases hcase with h | ⟨h, h'⟩
      · rw [h] at m1
        simp (disch := (first | omega | assumption)) only [f_M_unlike, zg_12, si_12, zbs, nI_add, pk_mul, znI_add1, znI_sub1, znI_subm, zle_nI, zlt_nI, zeq_nI, zle_0, zeq_0, zlt_0, zeq_m, zeq_1, zge_0, zbt0, zbt1, zB_0, zB_1, zB_b, zbool_0, zbool_1, ↓reduceIte, m1]
      · rw [h] at m1
        rw [h'] at m2
        simp (disch := (first | omega | assumption)) only [f_M_unlike, zg_12, si_12, zbs, nI_add, pk_mul, znI_add1, znI_sub1, znI_subm, zle_nI, zlt_nI, zeq_nI, zle_0, zeq_0, zlt_0, zeq_m, zeq_1, zge_0, zbt0, zbt1, zB_0, zB_1, zB_b, zbool_0, zbool_1, ↓reduceIte, m1, m2, Bool.true_eq_false]
  rcases zlt_cases r (n := nr) (by omega) with ⟨hr, r, hrn, rfl⟩ | hr
  · rcases zlt_cases o (n := nr) (by omega) with ⟨ho, o, hon, rfl⟩ | ho
    · rw [hr] at x1
      rw [ho] at x2
      obtain ⟨I1, a1, a2, -, a4, a3⟩ := q_open (J := J) (t := t) (u := u) (i := i) (f := f) (s := s) (x := x) hC0
      obtain ⟨I2, c1, c2, c3⟩ := x_unlikeL (J := J) (t := t) (u := u) (i := i) (f := f) (x := x) ht hC0 hrn hon (zfr_mono a2 zSg_nx) (zLnx_sg v0 a2) a3
      have f2 : zfr zSnx I I2 := zfr_trans f0 c1
      have f3 : zfr zSnm I2 (zup I2 91 59 0) := zfr_up (zfr_refl _ _) rfl
      have hC3 := zCo_frn hC (zfr_trans (zfr_mono f2 zSnx_n) (zfr_mono f3 zSnm_n))
      obtain ⟨I3, b1, b2, -, b3⟩ := q_layAll (J := J) (t := t) (u := u) (i := i) (f := f) (s := t) (x := x) hC3
      have m1 := g_M_isReader (J := J) (t := t) (u := u) (i := i) (f := f) (s := t) (x := x) hC3.2.1.1.2.2.1.1 hnr (nI r)
      have m2 := g_M_isReader (J := J) (t := t) (u := u) (i := i) (f := f) (s := t) (x := x) hC3.2.1.1.2.2.1.1 hnr (nI o)
      rw [hr] at m1
      rw [ho] at m2
      obtain ⟨I4, d1, d2, d3⟩ := m_unlikeL (J := J) (t := t) (u := u) (i := i) (f := f) (s := t) (x := x) hC3 hrn hon (zfr_mono b2 zSg_nm) (zLnm_sg ⟨zup_s _ _ _ _, fun k v h => by simp at h⟩ b2) b3
      have hky : zKy (zup I2 91 59 0) nt LW = zKy (zup I 0 18 0) nt LW := by
        rw [zKy_frn (zfr_mono f3 zSnm_n), zKy_frn (zfr_mono c1 zSnx_n)]
      rw [hky] at d2 d3
      refine ⟨nI (zrn (zuo (zuC (zKy (zup I 0 18 0) nt LW) om r o) nb) nb 0 (0, [])).1, (zrn (zuo (zuC (zKy (zup I 0 18 0) nt LW) om r o) nb) nb 0 (0, [])).2, I2, J, t, I4, J, ?_, ?_, zfr_trans (zfr_mono f2 zSnx_n) (zfr_mono (zfr_trans f3 d1) zSnm_n), Or.inr rfl, zLnx_g c2 (zfr_trans f3 d1), d2, ?_⟩
      · show f_W_unlike _ 0 _ _ = _
        simp (disch := (first | omega | assumption)) only [f_W_unlike, zg_11, si_11, gp_11_9, gp_11_2, gp_11_5, zbs, nI_add, pk_mul, znI_add1, znI_sub1, znI_subm, zle_nI, zlt_nI, zeq_nI, zle_0, zeq_0, zlt_0, zeq_m, zeq_1, zge_0, zbt0, zbt1, zB_0, zB_1, zB_b, zbool_0, zbool_1, ↓reduceIte, x1, x2, a1, Bool.true_eq_false]
        exact c3
      · show f_M_unlike _ 91 _ _ = _
        simp (disch := (first | omega | assumption)) only [f_M_unlike, zg_12, si_12, zbs, nI_add, pk_mul, znI_add1, znI_sub1, znI_subm, zle_nI, zlt_nI, zeq_nI, zle_0, zeq_0, zlt_0, zeq_m, zeq_1, zge_0, zbt0, zbt1, zB_0, zB_1, zB_b, zbool_0, zbool_1, ↓reduceIte, m1, m2, b1, Bool.true_eq_false]
        exact d3
      · have key := zrn_inv (zuo (zuC (zKy (zup I 0 18 0) nt LW) om r o) nb) nb (fun k p => ∃ n, zuI n p) (fun k p hk ⟨n, hp⟩ => by
          unfold zuo
          have := zrn_inv (zuf (zuC (zKy (zup I 0 18 0) nt LW) om r o) k) nb (fun j p => ∃ n, zuI n p) (fun j p _ ⟨n, hp⟩ => ⟨n + 1, zuf_I hp⟩) (nb - (k + 1)) (k + 1) p (by omega) ⟨n, hp⟩
          exact this) nb 0 (0, []) (by omega) ⟨0, Nat.le_refl _, (fun _ => rfl), Nat.zero_le 2⟩
        obtain ⟨n, hp⟩ := key
        have := hp.2.2
        omega
    · exact none (Or.inr ⟨hr, ho⟩)
  · exact none (Or.inl hr)
end ZUn
