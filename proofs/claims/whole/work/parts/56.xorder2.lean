/-! the class lays an order -/
theorem zpl_congr {ok : Nat → Bool} {v v' : Nat → Int32} {n b : Nat} (hb : b < n) (h : ∀ o, o < n → v o = v' o) : zpl ok v n b = zpl ok v' n b := zct_congr (fun o ho => by rw [h o ho, h b hb])
theorem zsel_congr {v v' : Nat → Int32} {n : Nat} (h : ∀ o, o < n → v o = v' o) : ∀ (d : Nat) (ok : Nat → Bool), zsel v n d ok = zsel v' n d ok := by
  intro d
  induction d with
  | zero => intro ok; exact (rfl : ([] : List Nat) = [])
  | succ d ih =>
    intro ok
    have e : zbest ok v n = zbest ok v' n := zbest_congr (fun _ _ => rfl) (fun b hb _ => h b hb)
    rw [zsel_succ, zsel_succ, e]
    cases zbest ok v' n with
    | none => exact (rfl : ([] : List Nat) = [])
    | some b => simp only [ih]
theorem zct_ext {p : Nat → Bool} {n m : Nat} (hnm : n ≤ m) (h : ∀ b, n ≤ b → b < m → p b = false) : zct p m = zct p n := by
  induction m with
  | zero => have : n = 0 := by omega
            rw [this]
  | succ m ih =>
    by_cases hn : n = m + 1
    · rw [hn]
    · rw [zct_succ, ih (by omega) (fun b h1 h2 => h b h1 (by omega)), h m (by omega) (by omega)]
      simp
/-- the order lies in the class's row -/
def zLx (I : Nat → Nat → Int32) (L : List Nat) : Prop := I 47 2 = nI L.length ∧ ∀ k b, L[k]? = some b → I 50 k = nI b
def zXls : Nat → Nat → Bool := fun a k => a == 49 || a == 50 || (a == 47 && k == 2)
section ZXp
variable {I : Nat → Nat → Int32} {J : Nat → Nat → Int64} {t u i f s x : Nat} {nt nb nr hm q : Nat}
theorem zXls_row {I' : Nat → Nat → Int32} (h : zfr zXls I I') (a : Nat) (h1 : a ≠ 49) (h2 : a ≠ 50) (h3 : a ≠ 47) : I' a = I a := zfr_row h a (fun k => by simp [zXls, h1, h2, h3])
theorem zXls_47 {I' : Nat → Nat → Int32} (h : zfr zXls I I') (k : Nat) (hk : k ≠ 2) : I' 47 k = I 47 k := h 47 k (by simp [zXls, hk])
theorem g_S_layTogether (hs : s = 2 ∨ s = 13) (hb1 : I s 1 = nI nb) (hnb : nb ≤ 10) (hh : I 47 1 = nI hm) (hhm : hm < 1024) (hhb : ∀ b, hm.testBit b = true → b < nb) :
    ∃ I', f_S_layTogether (zs I J (zPt t u i f s x)) 47 = some (zs I' J (zPt t u i f s x)) ∧ zfr zXls I I' ∧ I' 49 = I 49 ∧ zLx I' (zsel (I 49) nb 10 (fun b => hm.testBit b)) := by
  have hct := zct_le (fun b => hm.testBit b) nb
  have hOd := zsel_Od (v := I 49) (n := nb) 10 (fun b => hm.testBit b) (by omega)
  have hat : ∀ b, b < nb → hm.testBit b = true → (zsel (I 49) nb 10 (fun b => hm.testBit b))[zpl (fun b => hm.testBit b) (I 49) nb b]? = some b := fun b h1 h2 => zsel_at 10 (fun b => hm.testBit b) b (by omega) h1 h2
  generalize hL : zsel (I 49) nb 10 (fun b => hm.testBit b) = L at hOd hat
  have hlen : L.length ≤ 10 := by rw [hOd.2.1]; omega
  have hpl : ∀ b, b < nb → hm.testBit b = true → zpl (fun b => hm.testBit b) (I 49) nb b < 10 := fun b h1 h2 => by
    have := (List.getElem?_eq_some_iff.mp (hat b h1 h2)).1
    omega
  have hbc := zbitCount hm hhm
  have hcn : zct (fun j => hm.testBit j) 10 = L.length := by
    rw [hOd.2.1]
    exact zct_ext hnb (fun b h1 h2 => by
      cases hq : hm.testBit b with
      | false => rfl
      | true => have := hhb b hq; omega)
  rw [hcn] at hbc
  obtain ⟨I', ⟨a1, a4, a5, a2⟩, a3⟩ := zfor (fun fuel I' k => f_S_layTogether_10L fuel (zs I' J (zPt t u i f s x)) 47 (nI k)) nb (fun k I' => zfr zXls I I' ∧ I' 49 = I 49 ∧ I' 47 2 = nI L.length ∧ ∀ b, b < k → hm.testBit b = true → I' 50 (zpl (fun b => hm.testBit b) (I 49) nb b) = nI b) (fun I' => some (zs I' J (zPt t u i f s x)))
    (fun m k I' hk hi => by
      have m1 : I' s 1 = nI nb := by rw [zXls_row hi.1 s (by omega) (by omega) (by omega)]; exact hb1
      have m2 : I' 47 1 = nI hm := (zXls_47 hi.1 1 (by decide)).trans hh
      have hle : ¬ nb ≤ k := by omega
      have h1 := g_S_isHere (J := J) (t := t) (u := u) (i := i) (f := f) (s := s) (x := x) m2 hhm (show k < 10 by omega)
      cases hok : hm.testBit k with
      | false =>
        rw [hok] at h1
        refine ⟨I', ⟨hi.1, hi.2.1, hi.2.2.1, fun b hb hob => ?_⟩, ?_⟩
        · by_cases hbk : b = k
          · subst hbk; rw [hok] at hob; cases hob
          · exact hi.2.2.2 b (by omega) hob
        · show f_S_layTogether_10L (m + 1) _ _ _ = _
          rw [f_S_layTogether_10L]
          simp (disch := (first | omega | assumption)) only [f_S_layTogether_10, gi_10, gp_8_0, gp_8_5, wi_50, zbs, nI_add, pk_mul, znI_add1, znI_sub1, znI_subm, zle_nI, zlt_nI, zeq_nI, zle_0, zeq_0, zlt_0, zeq_m, zeq_1, zge_0, zbt0, zbt1, zB_0, zB_1, zB_b, zbool_0, zbool_1, ↓reduceIte, m1, hle, h1]
      | true =>
        rw [hok] at h1
        have h2 := g_S_placeTogether (J := J) (t := t) (u := u) (i := i) (f := f) (x := x) hs m1 hnb m2 hhm (show k < 10 by omega)
        rw [hi.2.1] at h2
        have h3 := hpl k hk hok
        refine ⟨zup I' 50 (zpl (fun b => hm.testBit b) (I 49) nb k) (nI k), ⟨zfr_up hi.1 rfl, ?_, ?_, fun b hb hob => ?_⟩, ?_⟩
        · rw [zup_ne _ _ _ (by decide)]; exact hi.2.1
        · rw [zup_ne _ _ _ (by decide)]; exact hi.2.2.1
        · by_cases hbk : b = k
          · subst hbk; exact zup_s _ _ _ _
          · rw [zup_k _ _ (fun he => ?_)]
            · exact hi.2.2.2 b (by omega) hob
            · have p1 := hat b (by omega) hob
              have p2 := hat k hk hok
              rw [he, p2] at p1
              exact hbk (Option.some.inj p1).symm
        · show f_S_layTogether_10L (m + 1) _ _ _ = _
          rw [f_S_layTogether_10L]
          simp (disch := (first | omega | assumption)) only [f_S_layTogether_10, gi_10, gp_8_0, gp_8_5, wi_50, zbs, nI_add, pk_mul, znI_add1, znI_sub1, znI_subm, zle_nI, zlt_nI, zeq_nI, zle_0, zeq_0, zlt_0, zeq_m, zeq_1, zge_0, zbt0, zbt1, zB_0, zB_1, zB_b, zbool_0, zbool_1, ↓reduceIte, m1, hle, h1, h2, Bool.true_eq_false])
    (fun m I' hi => by
      have m1 : I' s 1 = nI nb := by rw [zXls_row hi.1 s (by omega) (by omega) (by omega)]; exact hb1
      show f_S_layTogether_10L (m + 1) _ _ _ = _
      rw [f_S_layTogether_10L]
      simp (disch := (first | omega | assumption)) only [f_S_layTogether_10, gi_10, gp_8_0, gp_8_5, wi_50, zbs, nI_add, pk_mul, znI_add1, znI_sub1, znI_subm, zle_nI, zlt_nI, zeq_nI, zle_0, zeq_0, zlt_0, zeq_m, zeq_1, zge_0, zbt0, zbt1, zB_0, zB_1, zB_b, zbool_0, zbool_1, ↓reduceIte, m1, Nat.le_refl]) nb 0 (zup I 47 2 (nI L.length)) zfu (by omega) ⟨zfr_up (zfr_refl _ _) rfl, zup_ne _ _ _ (by decide), zup_s _ _ _ _, fun b hb => by omega⟩ (zfu_lt (by omega))
  refine ⟨I', ?_, a1, a4, a5, fun k b hk => ?_⟩
  · simp (disch := (first | omega | assumption)) only [f_S_layTogether, f_S_countHere, zg_8, si_8, gi_8, zbs, nI_add, pk_mul, znI_add1, znI_sub1, znI_subm, zle_nI, zlt_nI, zeq_nI, zle_0, zeq_0, zlt_0, zeq_m, zeq_1, zge_0, zbt0, zbt1, zB_0, zB_1, zB_b, zbool_0, zbool_1, ↓reduceIte, hh, hbc]
    exact a3
  · have hb := (hOd.2.2 b).mp (List.mem_of_getElem? hk)
    have p1 := hat b hb.1 hb.2
    have hkl := (List.getElem?_eq_some_iff.mp hk).1
    have : k = zpl (fun b => hm.testBit b) (I 49) nb b := (List.getElem?_inj hkl hOd.1).mp (hk.trans p1.symm)
    rw [this]
    exact a2 b hb.1 hb.2
theorem znx_hit {set c : Nat} (hc : c < 6) (h : set.testBit c = true) : znx set 6 c = c := by
  unfold znx
  rw [Nat.mod_eq_of_lt hc, if_pos h]
set_option maxRecDepth 100000 in
theorem znx_miss : ∀ c, c < 6 → ∀ set, set < 64 → set ≠ 0 → set.testBit c = false → znx set 6 c = znx set 6 (c + 1) := by decide +kernel
set_option maxRecDepth 100000 in
theorem znx_wrap : ∀ nr, nr < 7 → ∀ set, set < 2 ^ nr → set ≠ 0 → znx set 6 nr = znx set 6 0 := by decide +kernel
theorem ztu_c {K : Nat → Nat → Int32} {n set c c' : Nat} (h : znx set 6 c = znx set 6 c') (d : Nat) (ok : Nat → Bool) : ztu K n set d c ok = ztu K n set d c' ok := by
  cases d with
  | zero => rfl
  | succ d =>
    unfold ztu zgo ztp ztn
    rw [h]
theorem ztu_nil {K : Nat → Nat → Int32} {n set d c : Nat} {ok : Nat → Bool} (h : ∀ b, b < n → ok b = false) : ztu K n set d c ok = [] := by
  cases d with
  | zero => rfl
  | succ d =>
    unfold ztu zgo ztp
    have hs := zbest_spec ok (K (znx set 6 c)) n
    cases hz : zbest ok (K (znx set 6 c)) n with
    | none => rfl
    | some b =>
      rw [hz] at hs
      have h2 : ok b = true := hs.2.1
      rw [h b hs.1] at h2
      cases h2
/-- where the turns are: A is laid, w waits, c is next -/
def zTr (K : Nat → Nat → Int32) (nb set : Nat) (ok0 : Nat → Bool) (I I' : Nat → Nat → Int32) (w c : Nat) : Prop := ∃ A : List Nat,
  zfr zXls I I' ∧ I' 47 2 = nI A.length ∧ (∀ k b, A[k]? = some b → I' 50 k = nI b) ∧ A.length + zct (fun j => w.testBit j) nb ≤ 10 ∧
  ztu K nb set 10 0 ok0 = A ++ ztu K nb set (10 - A.length) c (fun j => w.testBit j) ∧ w < 1024 ∧ ∀ b, w.testBit b = true → b < nb
theorem zTr_move {K : Nat → Nat → Int32} {set : Nat} {ok0 : Nat → Bool} {I' : Nat → Nat → Int32} {w c c' : Nat} (h : zTr K nb set ok0 I I' w c) (he : w = 0 ∨ znx set 6 c = znx set 6 c') : zTr K nb set ok0 I I' w c' := by
  obtain ⟨A, h1, h2, h3, h4, h5, h6, h7⟩ := h
  refine ⟨A, h1, h2, h3, h4, ?_, h6, h7⟩
  rw [h5]
  rcases he with rfl | he
  · rw [ztu_nil (fun b _ => by simp), ztu_nil (fun b _ => by simp)]
  · rw [ztu_c he]
theorem g_S_layByTurns (hs : s = 2 ∨ s = 13) (hb : I s 1 = nI nb) (hnb : nb ≤ 10) (h2 : I s 2 = nI nr) (hnr : nr ≤ 6) (hh : I 47 1 = nI hm) (hhm : hm < 1024) (hhb : ∀ b, hm.testBit b = true → b < nb) {set : Nat} (hset : set < 2 ^ nr) (h0 : set ≠ 0) :
    ∃ I', f_S_layByTurns (zs I J (zPt t u i f s x)) 47 (nI set) = some (zs I' J (zPt t u i f s x)) ∧ zfr zXls I I' ∧ zLx I' (ztu (zKx I) nb set 10 0 (fun b => hm.testBit b)) := by
  have h64 : set < 64 := Nat.lt_of_lt_of_le hset (Nat.le_trans (Nat.pow_le_pow_right (by decide) hnr) (by decide))
  have hct := zct_le (fun b => hm.testBit b) nb
  have mem : ∃ c, c < nr ∧ set.testBit c = true := by
    obtain ⟨c, hc⟩ := Nat.exists_testBit_of_ne_zero h0
    refine ⟨c, ?_, hc⟩
    by_cases h : c < nr
    · exact h
    · rw [Nat.testBit_lt_two_pow (Nat.lt_of_lt_of_le hset (Nat.pow_le_pow_right (by decide) (by omega)))] at hc
      cases hc
  -- one round
  have round : ∀ (k12 : zSt → Nat → Int32 → Int32 → Int32 → Option zSt) (I1 : Nat → Nat → Int32) (w rd : Nat), zTr (zKx I) nb set (fun b => hm.testBit b) I I1 w 0 → w ≠ 0 →
      ∃ q : (Nat → Nat → Int32) × Nat, (zTr (zKx I) nb set (fun b => hm.testBit b) I q.1 q.2 0 ∧ zct (fun j => q.2.testBit j) nb < zct (fun j => w.testBit j) nb) ∧ f_S_layByTurns_25L k12 zfu (zs I1 J (zPt t u i f s x)) 47 (nI set) (nI w) (nI rd) (nI 0) = k12 (zs q.1 J (zPt t u i f s x)) 47 (nI set) (nI q.2) (nI (rd + 1)) := by
    intro k12 I1 w rd hT hw0
    have hT0 := hT
    obtain ⟨A0, -, -, -, -, -, hw1024, hwb⟩ := hT
    have hpos : 0 < zct (fun j => w.testBit j) nb := by
      obtain ⟨j, -, hj⟩ := zne0_bit hw0 hw1024
      exact zct_pos (p := fun j => w.testBit j) (hwb j hj) hj
    have key := zforW (fun fuel (q : (Nat → Nat → Int32) × Nat) c => f_S_layByTurns_25L k12 fuel (zs q.1 J (zPt t u i f s x)) 47 (nI set) (nI q.2) (nI rd) (nI c)) nr
      (fun c q => zTr (zKx I) nb set (fun b => hm.testBit b) I q.1 q.2 c ∧ (zct (fun j => q.2.testBit j) nb < zct (fun j => w.testBit j) nb ∨ (q.2 = w ∧ ∀ c', c' < c → set.testBit c' = false)))
      (fun r => ∃ q : (Nat → Nat → Int32) × Nat, (zTr (zKx I) nb set (fun b => hm.testBit b) I q.1 q.2 0 ∧ zct (fun j => q.2.testBit j) nb < zct (fun j => w.testBit j) nb) ∧ r = k12 (zs q.1 J (zPt t u i f s x)) 47 (nI set) (nI q.2) (nI (rd + 1)))
      (fun m c q hc hi => by
        obtain ⟨hT, hpr⟩ := hi
        have hT2 := hT
        obtain ⟨A, t1, t2, t3, t4, t5, t6, t7⟩ := hT2
        have m1 : q.1 s 1 = nI nb := by rw [zXls_row t1 s (by omega) (by omega) (by omega)]; exact hb
        have m2 : q.1 s 2 = nI nr := by rw [zXls_row t1 s (by omega) (by omega) (by omega)]; exact h2
        have hle : ¬ nr ≤ c := by omega
        show _ ∨ ∃ s', _ ∧ f_S_layByTurns_25L k12 (m + 1) _ _ _ _ _ _ = _
        by_cases hq0 : q.2 = 0
        · left
          refine ⟨q, ⟨zTr_move hT (Or.inl hq0), ?_⟩, ?_⟩
          · rw [hq0, zct_0 (fun b _ => by simp)]
            exact hpos
          · rw [f_S_layByTurns_25L]
            simp (disch := (first | omega | assumption)) only [f_S_layByTurns_25, gi_10, gi_8, si_8, gp_8_0, gp_8_5, wi_50, lt10, zbs, nI_add, pk_mul, znI_add1, znI_sub1, znI_subm, zle_nI, zlt_nI, zeq_nI, zle_0, zeq_0, zlt_0, zeq_m, zeq_1, zge_0, zbt0, zbt1, zB_0, zB_1, zB_b, zbool_0, zbool_1, ↓reduceIte, m2, hle, hq0]
        · cases hbit : set.testBit c with
          | false =>
            right
            refine ⟨q, ⟨zTr_move hT (Or.inr (znx_miss c (by omega) set h64 h0 hbit)), ?_⟩, ?_⟩
            · rcases hpr with h | ⟨h, h'⟩
              · exact Or.inl h
              · refine Or.inr ⟨h, fun c' hc' => ?_⟩
                by_cases hcc : c' = c
                · subst hcc; exact hbit
                · exact h' c' (by omega)
            · rw [f_S_layByTurns_25L]
              simp (disch := (first | omega | assumption)) only [f_S_layByTurns_25, gi_10, gi_8, si_8, gp_8_0, gp_8_5, wi_50, lt10, zbs, nI_add, pk_mul, znI_add1, znI_sub1, znI_subm, zle_nI, zlt_nI, zeq_nI, zle_0, zeq_0, zlt_0, zeq_m, zeq_1, zge_0, zbt0, zbt1, zB_0, zB_1, zB_b, zbool_0, zbool_1, ↓reduceIte, m2, hle, hq0, hbit]
          | true =>
            right
            have hk : zKx q.1 = zKx I := by unfold zKx; rw [zXls_row t1 48 (by decide) (by decide) (by decide)]
            have p1 := g_S_firstAmong (J := J) (t := t) (u := u) (i := i) (f := f) (x := x) hs m1 hnb (show c < 6 by omega) t6
            rw [hk] at p1
            have hx := znx_hit (show c < 6 by omega) hbit
            obtain ⟨j, -, hj⟩ := zne0_bit hq0 t6
            have hjn := t7 j hj
            have hcp : 0 < zct (fun j => q.2.testBit j) nb := zct_pos (p := fun j => q.2.testBit j) hjn hj
            have hspec := zbest_spec (fun j => q.2.testBit j) (zKx I c) nb
            obtain ⟨d, hd⟩ : ∃ d, 10 - A.length = d + 1 := ⟨10 - A.length - 1, by omega⟩
            cases hz : zbest (fun j => q.2.testBit j) (zKx I c) nb with
            | none =>
              rw [hz] at hspec
              have := hspec j hjn
              simp only [hj] at this
              cases this
            | some b =>
              rw [hz] at hspec p1
              obtain ⟨g1, g2, -⟩ := hspec
              have hwo := zct_wo (ok := fun j => q.2.testBit j) g1 g2
              rw [← zclr_b t6] at hwo
              have hg : ztu (zKx I) nb set (d + 1) c (fun j => q.2.testBit j) = b :: ztu (zKx I) nb set d (c + 1) (zwo (fun j => q.2.testBit j) b) := by
                show (match ztp (zKx I) nb set c (fun j => q.2.testBit j) with
                  | none => []
                  | some b => b :: zgo (ztp (zKx I) nb set) (ztn set) d (ztn set c) (zwo (fun j => q.2.testBit j) b)) = _
                have e1 : ztp (zKx I) nb set c (fun j => q.2.testBit j) = some b := by unfold ztp; rw [hx]; exact hz
                have e2 : ztn set c = c + 1 := by unfold ztn; rw [hx]
                rw [e1, e2]
                rfl
              have hA : A.length < 10 := by omega
              have e47 : ∀ v, zup q.1 50 A.length v 47 = q.1 47 := fun v => zup_ne _ _ _ (by decide)
              refine ⟨(zup (zup q.1 50 A.length (nI b)) 47 2 (nI (A.length + 1)), zclr q.2 b), ⟨⟨A ++ [b], zfr_up (zfr_up t1 rfl) rfl, ?_, fun k b' hk' => ?_, ?_, ?_, zclr_lt t6, fun b' hb' => ?_⟩, Or.inl ?_⟩, ?_⟩
              · dsimp only
                rw [zup_s]; simp
              · dsimp only
                rw [zup_ne _ _ _ (by decide)]
                by_cases hkA : k = A.length
                · subst hkA
                  rw [zup_s]
                  rw [List.getElem?_concat_length] at hk'
                  rw [Option.some.inj hk']
                · rw [zup_k _ _ hkA]
                  have hkl := (List.getElem?_eq_some_iff.mp hk').1
                  rw [List.length_append, List.length_singleton] at hkl
                  rw [List.getElem?_append_left (by omega)] at hk'
                  exact t3 k b' hk'
              · dsimp only
                rw [List.length_append, List.length_singleton]
                omega
              · dsimp only
                rw [t5, hd, hg, List.length_append, List.length_singleton, zclr_b t6, show 10 - (A.length + 1) = d by omega]
                simp
              · dsimp only at hb'
                have := congrFun (zclr_b (b := b) t6) b'
                rw [this] at hb'
                unfold zwo at hb'
                exact t7 b' (by simp at hb'; exact hb'.1)
              · rcases hpr with h | ⟨h, -⟩
                · show zct (fun j => (zclr q.2 b).testBit j) nb < _
                  omega
                · show zct (fun j => (zclr q.2 b).testBit j) nb < _
                  rw [← h]
                  omega
              · rw [f_S_layByTurns_25L]
                have hcl := zclr_I (w := q.2) (b := b) t6 (by omega)
                have hcl : nI q.2 &&& ((1 <<< (zoI (some b) &&& 31)) ^^^ (-1)) = nI (zclr q.2 b) := hcl
                simp (disch := (first | omega | assumption)) only [f_S_layByTurns_25, gi_10, gi_8, si_8, gp_8_0, gp_8_5, wi_50, lt10, zbs, nI_add, pk_mul, znI_add1, znI_sub1, znI_subm, zle_nI, zlt_nI, zeq_nI, zle_0, zeq_0, zlt_0, zeq_m, zeq_1, zge_0, zbt0, zbt1, zB_0, zB_1, zB_b, zbool_0, zbool_1, ↓reduceIte, m2, hle, hq0, hbit, p1, zoI_m b (by omega), t2, hA, e47, hcl, Bool.true_eq_false]
                rfl)
      (fun m q hi => by
        obtain ⟨hT, hpr⟩ := hi
        have hT2 := hT
        obtain ⟨A, t1, -⟩ := hT2
        have m2 : q.1 s 2 = nI nr := by rw [zXls_row t1 s (by omega) (by omega) (by omega)]; exact h2
        show ∃ q', _ ∧ f_S_layByTurns_25L k12 (m + 1) _ _ _ _ _ _ = _
        refine ⟨q, ⟨zTr_move hT (Or.inr (znx_wrap nr (by omega) set hset h0)), ?_⟩, ?_⟩
        · rcases hpr with h | ⟨-, h⟩
          · exact h
          · obtain ⟨c, hc, hcb⟩ := mem
            rw [h c hc] at hcb
            cases hcb
        · rw [f_S_layByTurns_25L]
          simp (disch := (first | omega | assumption)) only [f_S_layByTurns_25, gi_10, gi_8, si_8, gp_8_0, gp_8_5, wi_50, lt10, zbs, nI_add, pk_mul, znI_add1, znI_sub1, znI_subm, zle_nI, zlt_nI, zeq_nI, zle_0, zeq_0, zlt_0, zeq_m, zeq_1, zge_0, zbt0, zbt1, zB_0, zB_1, zB_b, zbool_0, zbool_1, ↓reduceIte, m2, Nat.le_refl]) nr 0 (I1, w) zfu (by omega) ⟨hT0, Or.inr ⟨rfl, fun c hc => by omega⟩⟩ (zfu_lt (by omega))
    exact key
  -- all rounds
  have fin : ∀ I1 w, zTr (zKx I) nb set (fun b => hm.testBit b) I I1 w 0 → zct (fun j => w.testBit j) nb = 0 → zfr zXls I I1 ∧ zLx I1 (ztu (zKx I) nb set 10 0 (fun b => hm.testBit b)) := fun I1 w hT hz => by
    obtain ⟨A, t1, t2, t3, t4, t5, t6, t7⟩ := hT
    have t9 : ztu (zKx I) nb set (10 - A.length) 0 (fun j => w.testBit j) = [] := ztu_nil (fun b hb => by
      cases hq : w.testBit b with
      | false => rfl
      | true => have := zct_pos (p := fun j => w.testBit j) hb hq; omega)
    rw [t9, List.append_nil] at t5
    rw [t5]
    exact ⟨t1, t2, t3⟩
  have all := zforW (fun fuel (q : (Nat → Nat → Int32) × Nat) rd => f_S_layByTurns_12L fuel (zs q.1 J (zPt t u i f s x)) 47 (nI set) (nI q.2) (nI rd)) 10
    (fun rd q => zTr (zKx I) nb set (fun b => hm.testBit b) I q.1 q.2 0 ∧ zct (fun j => q.2.testBit j) nb ≤ 10 - rd)
    (fun r => ∃ I', r = some (zs I' J (zPt t u i f s x)) ∧ zfr zXls I I' ∧ zLx I' (ztu (zKx I) nb set 10 0 (fun b => hm.testBit b)))
    (fun m rd q hrd hi => by
      have hle : ¬ 10 ≤ rd := by omega
      show _ ∨ ∃ s', _ ∧ f_S_layByTurns_12L (m + 1) _ _ _ _ _ = _
      by_cases hq0 : q.2 = 0
      · left
        refine ⟨q.1, ?_, fin q.1 q.2 hi.1 (by rw [hq0]; exact zct_0 (fun b _ => by simp))⟩
        show f_S_layByTurns_12L (m + 1) _ _ _ _ _ = _
        rw [f_S_layByTurns_12L]
        simp (disch := (first | omega | assumption)) only [f_S_layByTurns_12, ge10, zbs, nI_add, pk_mul, znI_add1, znI_sub1, znI_subm, zle_nI, zlt_nI, zeq_nI, zle_0, zeq_0, zlt_0, zeq_m, zeq_1, zge_0, zbt0, zbt1, zB_0, zB_1, zB_b, zbool_0, zbool_1, ↓reduceIte, hle, hq0]
      · right
        have hq1 : q.2 < 1024 := by
          obtain ⟨_, _, _, _, _, _, h, _⟩ := hi.1
          exact h
        obtain ⟨q', ⟨h1, h2⟩, h3⟩ := round (f_S_layByTurns_12L m) q.1 q.2 rd hi.1 hq0
        refine ⟨q', ⟨h1, by omega⟩, ?_⟩
        rw [f_S_layByTurns_12L]
        simp (disch := (first | omega | assumption)) only [f_S_layByTurns_12, ge10, zbs, nI_add, pk_mul, znI_add1, znI_sub1, znI_subm, zle_nI, zlt_nI, zeq_nI, zle_0, zeq_0, zlt_0, zeq_m, zeq_1, zge_0, zbt0, zbt1, zB_0, zB_1, zB_b, zbool_0, zbool_1, ↓reduceIte, hle, hq0]
        exact h3)
    (fun m q hi => by
      refine ⟨q.1, ?_, fin q.1 q.2 hi.1 (by omega)⟩
      show f_S_layByTurns_12L (m + 1) _ _ _ _ _ = _
      rw [f_S_layByTurns_12L]
      simp (disch := (first | omega | assumption)) only [f_S_layByTurns_12, ge10, zbs, nI_add, pk_mul, znI_add1, znI_sub1, znI_subm, zle_nI, zlt_nI, zeq_nI, zle_0, zeq_0, zlt_0, zeq_m, zeq_1, zge_0, zbt0, zbt1, zB_0, zB_1, zB_b, zbool_0, zbool_1, ↓reduceIte, Nat.le_refl]) 10 0 (zup I 47 2 0, hm) zfu (by omega) ⟨⟨[], zfr_up (zfr_refl _ _) rfl, (by show zup I 47 2 0 47 2 = nI 0; rw [zup_s]; rfl), fun k b h => by simp at h, (by show 0 + zct (fun j => hm.testBit j) nb ≤ 10; omega), by simp, hhm, hhb⟩, (by show zct (fun j => hm.testBit j) nb ≤ 10 - 0; omega)⟩ (zfu_lt (by decide))
  obtain ⟨I', e1, e2⟩ := all
  refine ⟨I', ?_, e2⟩
  have e47 : zup I 47 2 0 47 1 = nI hm := by rw [zup_k _ _ (by decide)]; exact hh
  simp (disch := (first | omega | assumption)) only [f_S_layByTurns, zg_8, gi_8, si_8, zbs, nI_add, pk_mul, znI_add1, znI_sub1, znI_subm, zle_nI, zlt_nI, zeq_nI, zle_0, zeq_0, zlt_0, zeq_m, zeq_1, zge_0, zbt0, zbt1, zB_0, zB_1, zB_b, zbool_0, zbool_1, ↓reduceIte, e47]
  exact e1
end ZXp
