/-! the reference lays an order -/
def zLs : Nat → Nat → Bool := fun a k => a == 114 || a == 115 || (a == 91 && k == 54)
section ZMp
variable {I : Nat → Nat → Int32} {J : Nat → Nat → Int64} {t u i f s x : Nat} {nt nb nr om q : Nat} {LW : List Int32}
theorem g_M_putBook {n0 b : Nat} (hn : I 91 54 = nI n0) (h0 : n0 < 10) (hb : b < 10) : f_M_putBook (zs I J (zPt t u i f s x)) 91 (nI b) = some (zs (zup (zup (zup I 115 b (nI n0)) 114 n0 (nI b)) 91 54 (nI (n0 + 1))) J (zPt t u i f s x)) := by
  have e1 : ∀ v, zup I 115 b v 91 = I 91 := fun v => zup_ne _ _ _ (by decide)
  have e2 : ∀ (K : Nat → Nat → Int32) v, zup K 114 n0 v 91 = K 91 := fun K v => zup_ne _ _ _ (by decide)
  simp (disch := (first | omega | assumption)) only [f_M_putBook, zg_12, gi_12, si_12, gp_12_53, gp_12_52, wi_115, wi_114, zbs, nI_add, pk_mul, znI_add1, znI_sub1, znI_subm, zle_nI, zlt_nI, zeq_nI, zle_0, zeq_0, zlt_0, zeq_m, zeq_1, zge_0, zbt0, zbt1, zB_0, zB_1, zB_b, zbool_0, zbool_1, ↓reduceIte, hn, e1, e2]
theorem zLs_row {I' : Nat → Nat → Int32} (h : zfr zLs I I') (a : Nat) (h1 : a ≠ 114) (h2 : a ≠ 115) (h3 : a ≠ 91) : I' a = I a := zfr_row h a (fun k => by simp [zLs, h1, h2, h3])
theorem zLs_91 {I' : Nat → Nat → Int32} (h : zfr zLs I I') (k : Nat) (hk : k ≠ 54) : I' 91 k = I 91 k := h 91 k (by simp [zLs, hk])
theorem zokm_put {n0 b : Nat} (h0 : n0 < 10) (w : Int32) (k : Nat) (v : Int32) : zokm (zup (zup (zup I 115 b (nI n0)) 114 k w) 91 54 v) om = zwo (zokm I om) b := by
  funext c
  unfold zokm zwo
  rw [zup_ne _ _ _ (by decide), zup_ne _ _ _ (by decide)]
  by_cases hc : c = b
  · subst hc
    rw [zup_s]
    simp [zlt_0 (show n0 < 2 ^ 31 by omega)]
  · rw [zup_k _ _ hc]
    simp [hc]
/-- what is laid behind what is laid already -/
theorem g_M_layLoop (pick : Nat → (Nat → Bool) → Option Nat) (nxt : Nat → Nat) (set : Nat) (I0 : Nat → Nat → Int32)
    (hp : ∀ c ok, match pick c ok with
      | none => ∀ b, b < nb → ok b = false
      | some b => b < nb ∧ ok b = true)
    (hnb : nb ≤ 10)
    (hstep : ∀ (k30 : zSt → Nat → Int32 → Int32 → Int32 → Option zSt) (I1 : Nat → Nat → Int32) (c : Nat), zfr zLs I0 I1 → c < 7 → nxt c < 7 ∧ f_M_layOrder_30 k30 (zs I1 J (zPt t u i f s x)) 91 (nI set) (zrI c) 1 = f_M_layOrder_73 k30 (zs I1 J (zPt t u i f s x)) 91 (nI set) (zrI (nxt c)) (zoI (pick c (zokm I1 om)))) :
    ∀ (d : Nat) (I1 : Nat → Nat → Int32) (c n0 fuel : Nat), zfr zLs I0 I1 → c < 7 → I1 91 54 = nI n0 → zct (zokm I1 om) nb ≤ d → n0 + zct (zokm I1 om) nb ≤ 10 → d + 2 < fuel →
      ∃ I2, f_M_layOrder_30L fuel (zs I1 J (zPt t u i f s x)) 91 (nI set) (zrI c) 1 = some (zs I2 J (zPt t u i f s x)) ∧ zfr zLs I0 I2 ∧ I2 91 54 = nI (n0 + (zgo pick nxt d c (zokm I1 om)).length) ∧
        (∀ k, k < n0 → I2 114 k = I1 114 k) ∧ (∀ k b, (zgo pick nxt d c (zokm I1 om))[k]? = some b → I2 114 (n0 + k) = nI b ∧ I2 115 b = nI (n0 + k)) ∧
        (∀ b, b ∉ zgo pick nxt d c (zokm I1 om) → I2 115 b = I1 115 b) := by
  have stop : ∀ (I1 : Nat → Nat → Int32) (c m : Nat), f_M_layOrder_30L (m + 1) (zs I1 J (zPt t u i f s x)) 91 (nI set) (zrI c) 0 = some (zs I1 J (zPt t u i f s x)) := fun I1 c m => by
    rw [f_M_layOrder_30L]
    simp (disch := (first | omega | assumption)) only [f_M_layOrder_30, gi_12, eq3, zbs, nI_add, pk_mul, znI_add1, znI_sub1, znI_subm, zle_nI, zlt_nI, zeq_nI, zle_0, zeq_0, zlt_0, zeq_m, zeq_1, zge_0, zbt0, zbt1, zB_0, zB_1, zB_b, zbool_0, zbool_1, ↓reduceIte]
  have n10 : ¬ (1 : Int32) = 0 := by decide
  intro d
  induction d with
  | zero =>
    intro I1 c n0 fuel hf hc hn hd hcap hfu
    obtain ⟨m, rfl⟩ : ∃ m, fuel = m + 1 := ⟨fuel - 1, by omega⟩
    obtain ⟨m, rfl⟩ : ∃ m', m = m' + 1 := ⟨m - 1, by omega⟩
    have hpc := hp c (zokm I1 om)
    have hz : pick c (zokm I1 om) = none := by
      cases hz : pick c (zokm I1 om) with
      | none => rfl
      | some b =>
        rw [hz] at hpc
        have := zct_pos hpc.1 hpc.2
        omega
    have hg : zgo pick nxt 0 c (zokm I1 om) = [] := rfl
    rw [hg]
    refine ⟨I1, ?_, hf, by simpa using hn, fun _ _ => rfl, fun k b h => by simp at h, fun _ _ => rfl⟩
    rw [f_M_layOrder_30L, (hstep _ I1 c hf hc).2, hz]
    simp (disch := (first | omega | assumption)) only [f_M_layOrder_73, f_M_layOrder_83, zbs, nI_add, pk_mul, znI_add1, znI_sub1, znI_subm, zle_nI, zlt_nI, zeq_nI, zle_0, zeq_0, zlt_0, zeq_m, zeq_1, zge_0, zbt0, zbt1, zB_0, zB_1, zB_b, zbool_0, zbool_1, ↓reduceIte, zoI_n]
    exact stop _ _ _
  | succ d ih =>
    intro I1 c n0 fuel hf hc hn hd hcap hfu
    obtain ⟨m, rfl⟩ : ∃ m, fuel = m + 1 := ⟨fuel - 1, by omega⟩
    have hpc := hp c (zokm I1 om)
    cases hz : pick c (zokm I1 om) with
    | none =>
      obtain ⟨m, rfl⟩ : ∃ m', m = m' + 1 := ⟨m - 1, by omega⟩
      have hg : zgo pick nxt (d + 1) c (zokm I1 om) = [] := by unfold zgo; rw [hz]
      rw [hg]
      refine ⟨I1, ?_, hf, by simpa using hn, fun _ _ => rfl, fun k b h => by simp at h, fun _ _ => rfl⟩
      rw [f_M_layOrder_30L, (hstep _ I1 c hf hc).2, hz]
      simp (disch := (first | omega | assumption)) only [f_M_layOrder_73, f_M_layOrder_83, zbs, nI_add, pk_mul, znI_add1, znI_sub1, znI_subm, zle_nI, zlt_nI, zeq_nI, zle_0, zeq_0, zlt_0, zeq_m, zeq_1, zge_0, zbt0, zbt1, zB_0, zB_1, zB_b, zbool_0, zbool_1, ↓reduceIte, zoI_n]
      exact stop _ _ _
    | some b =>
      rw [hz] at hpc
      have hct := zct_wo hpc.1 hpc.2
      have hok := zokm_put (I := I1) (om := om) (n0 := n0) (b := b) (by omega) (nI b) n0 (nI (n0 + 1))
      have hg : zgo pick nxt (d + 1) c (zokm I1 om) = b :: zgo pick nxt d (nxt c) (zwo (zokm I1 om) b) := by
        show (match pick c (zokm I1 om) with
          | none => []
          | some b => b :: zgo pick nxt d (nxt c) (zwo (zokm I1 om) b)) = _
        rw [hz]
      have hb10 : b < 10 := by omega
      have hf2 : zfr zLs I0 (zup (zup (zup I1 115 b (nI n0)) 114 n0 (nI b)) 91 54 (nI (n0 + 1))) := zfr_up (zfr_up (zfr_up hf rfl) rfl) rfl
      obtain ⟨I2, e1, e2, e3, e4, e5, e6⟩ := ih (zup (zup (zup I1 115 b (nI n0)) 114 n0 (nI b)) 91 54 (nI (n0 + 1))) (nxt c) (n0 + 1) m hf2 (hstep (fun _ _ _ _ _ => none) I1 c hf hc).1 (zup_s _ _ _ _) (by rw [hok]; omega) (by rw [hok]; omega) (by omega)
      rw [hok] at e3 e5 e6
      rw [hg]
      have hnm : b ∉ zgo pick nxt d (nxt c) (zwo (zokm I1 om) b) := fun hm => by
        have := (((zgo_Od hp d (nxt c) (zwo (zokm I1 om) b) (by omega)).2.2 b).mp hm).2
        rw [zwo_self] at this
        cases this
      refine ⟨I2, ?_, e2, ?_, fun k hk => ?_, fun k c2 hk => ?_, fun c2 hc2 => ?_⟩
      · rw [f_M_layOrder_30L, (hstep _ I1 c hf hc).2, hz]
        have hput := g_M_putBook (J := J) (t := t) (u := u) (i := i) (f := f) (s := s) (x := x) hn (by omega) hb10
        have hput : f_M_putBook (zs I1 J (zPt t u i f s x)) 91 (zoI (some b)) = _ := hput
        simp (disch := (first | omega | assumption)) only [f_M_layOrder_73, f_M_layOrder_83, zbs, nI_add, pk_mul, znI_add1, znI_sub1, znI_subm, zle_nI, zlt_nI, zeq_nI, zle_0, zeq_0, zlt_0, zeq_m, zeq_1, zge_0, zbt0, zbt1, zB_0, zB_1, zB_b, zbool_0, zbool_1, ↓reduceIte, zoI_lt b hb10, hput, n10]
        exact e1
      · rw [e3, List.length_cons]
        congr 1
        omega
      · rw [e4 k (by omega), zup_ne _ _ _ (by decide), zup_k _ _ (by omega), zup_ne _ _ _ (by decide)]
      · cases k with
        | zero =>
          simp only [List.getElem?_cons_zero, Option.some.injEq] at hk
          subst hk
          refine ⟨?_, ?_⟩
          · rw [Nat.add_zero, e4 n0 (by omega), zup_ne _ _ _ (by decide), zup_s]
          · rw [e6 b hnm, zup_ne _ _ _ (by decide), zup_ne _ _ _ (by decide), zup_s, Nat.add_zero]
        | succ k =>
          rw [List.getElem?_cons_succ] at hk
          have := e5 k c2 hk
          rw [show n0 + (k + 1) = n0 + 1 + k by omega]
          exact this
      · rw [List.mem_cons, not_or] at hc2
        rw [e6 c2 hc2.2, zup_ne _ _ _ (by decide), zup_ne _ _ _ (by decide), zup_k _ _ hc2.1]
/-- the order of a party lies there: its length, its books, their places -/
def zLm (I : Nat → Nat → Int32) (L : List Nat) : Prop :=
  I 91 54 = nI L.length ∧ (∀ k b, L[k]? = some b → I 114 k = nI b ∧ I 115 b = nI k) ∧ ∀ b, b < 10 → b ∉ L → I 115 b = -1
def zokO (om : Nat) : Nat → Bool := fun b => !om.testBit b
theorem g_M_layOrder (hb : I 91 42 = nI nb) (hnb : nb ≤ 10) (ho : I 111 31 = nI om) (hom : om < 1024) (h43 : I 91 43 = nI nr) (hnr : nr ≤ 6) (h44 : I 91 44 = nI q) (hq : q ≤ 3) {set : Nat} (hset : set < 64) :
    ∃ I', f_M_layOrder (zs I J (zPt t u i f s x)) 91 (nI set) = some (zs I' J (zPt t u i f s x)) ∧ zfr zLs I I' ∧ zLm I' (zord (zKm I) q nr nb (zokO om) set) := by
  obtain ⟨I1, ⟨h1, h2, h6⟩, h3⟩ := zfor (fun fuel I' k => f_M_layOrder_7L fuel (zs I' J (zPt t u i f s x)) 91 (nI set) (nI k)) 10 (fun k I' => zfr zLs I I' ∧ (∀ b, b < k → I' 115 b = -1) ∧ I' 91 54 = 0) (fun I' => f_M_layOrder_30L zfu (zs I' J (zPt t u i f s x)) 91 (nI set) (-1) 1)
    (fun m k I' hk hi => by
      have hle : ¬ 10 ≤ k := by omega
      refine ⟨zup I' 115 k (-1), ⟨zfr_up hi.1 rfl, fun b hb => ?_, ?_⟩, ?_⟩
      · by_cases hbk : b = k
        · subst hbk; exact zup_s _ _ _ _
        · rw [zup_k _ _ hbk]; exact hi.2.1 b (by omega)
      · rw [zup_ne _ _ _ (by decide)]; exact hi.2.2
      · show f_M_layOrder_7L (m + 1) _ _ _ _ = _
        rw [f_M_layOrder_7L]
        simp (disch := (first | omega | assumption)) only [f_M_layOrder_7, gp_12_53, wi_115, ge10, zbs, nI_add, pk_mul, znI_add1, znI_sub1, znI_subm, zle_nI, zlt_nI, zeq_nI, zle_0, zeq_0, zlt_0, zeq_m, zeq_1, zge_0, zbt0, zbt1, zB_0, zB_1, zB_b, zbool_0, zbool_1, ↓reduceIte, hle])
    (fun m I' hi => by
      show f_M_layOrder_7L (m + 1) _ _ _ _ = _
      rw [f_M_layOrder_7L]
      simp (disch := (first | omega | assumption)) only [f_M_layOrder_7, gp_12_53, wi_115, ge10, zbs, nI_add, pk_mul, znI_add1, znI_sub1, znI_subm, zle_nI, zlt_nI, zeq_nI, zle_0, zeq_0, zlt_0, zeq_m, zeq_1, zge_0, zbt0, zbt1, zB_0, zB_1, zB_b, zbool_0, zbool_1, ↓reduceIte, Nat.le_refl]) 10 0 (zup I 91 54 0) zfu (by omega) ⟨zfr_up (zfr_refl _ _) rfl, fun b hb => by omega, zup_s _ _ _ _⟩ (zfu_lt (by decide))
  have hokI : ∀ b, b < 10 → zokm I1 om b = zokO om b := fun b hb => by
    unfold zokm zokO
    rw [h2 b hb]
    simp
  have hK : zKm I1 = zKm I := by
    unfold zKm
    rw [zLs_row h1 113 (by decide) (by decide) (by decide)]
  have hct : zct (zokm I1 om) nb ≤ nb := zct_le _ _
  have g : ∀ pick nxt, (∀ c ok, match pick c ok with
      | none => ∀ b, b < nb → ok b = false
      | some b => b < nb ∧ ok b = true) → (∀ (k30 : zSt → Nat → Int32 → Int32 → Int32 → Option zSt) (I1 : Nat → Nat → Int32) (c : Nat), zfr zLs I I1 → c < 7 → nxt c < 7 ∧ f_M_layOrder_30 k30 (zs I1 J (zPt t u i f s x)) 91 (nI set) (zrI c) 1 = f_M_layOrder_73 k30 (zs I1 J (zPt t u i f s x)) 91 (nI set) (zrI (nxt c)) (zoI (pick c (zokm I1 om)))) → 
      ∃ I', f_M_layOrder (zs I J (zPt t u i f s x)) 91 (nI set) = some (zs I' J (zPt t u i f s x)) ∧ zfr zLs I I' ∧ zLm I' (zgo pick nxt 10 0 (zokm I1 om)) := fun pick nxt hp hs => by
    obtain ⟨I2, e1, e2, e3, e4, e5, e6⟩ := g_M_layLoop (J := J) (t := t) (u := u) (i := i) (f := f) (s := s) (x := x) pick nxt set I hp hnb hs 10 I1 0 0 zfu h1 (by decide) h6 (by omega) (by omega) (zfu_lt (by decide))
    refine ⟨I2, ?_, e2, ?_, ?_, ?_⟩
    · simp (disch := (first | omega | assumption)) only [f_M_layOrder, zg_12, si_12, zbs, nI_add, pk_mul, znI_add1, znI_sub1, znI_subm, zle_nI, zlt_nI, zeq_nI, zle_0, zeq_0, zlt_0, zeq_m, zeq_1, zge_0, zbt0, zbt1, zB_0, zB_1, zB_b, zbool_0, zbool_1, ↓reduceIte]
      exact Eq.trans h3 e1
    · rw [Nat.zero_add] at e3; exact e3
    · intro k b hk
      have := e5 k b hk
      rw [Nat.zero_add] at this
      exact this
    · intro b hb hm
      rw [e6 b hm, h2 b hb]
  unfold zord
  have m42 : ∀ I1, zfr zLs I I1 → I1 91 42 = nI nb := fun I1 h => (zLs_91 h 42 (by decide)).trans hb
  have m43 : ∀ I1, zfr zLs I I1 → I1 91 43 = nI nr := fun I1 h => (zLs_91 h 43 (by decide)).trans h43
  have m44 : ∀ I1, zfr zLs I I1 → I1 91 44 = nI q := fun I1 h => (zLs_91 h 44 (by decide)).trans h44
  have m31 : ∀ I1, zfr zLs I I1 → I1 111 31 = nI om := fun I1 h => by rw [zLs_row h 111 (by decide) (by decide) (by decide)]; exact ho
  have mK : ∀ I1, zfr zLs I I1 → zKm I1 = zKm I := fun I1 h => by unfold zKm; rw [zLs_row h 113 (by decide) (by decide) (by decide)]
  have n10 : ¬ (1 : Int32) = 0 := by decide
  by_cases hc : q = 3 ∧ set ≠ 0
  · rw [if_pos hc]
    obtain ⟨I', e1, e2, e3⟩ := g (ztp (zKm I) nb set) (ztn set) (fun c ok => zbest_pick ok _ nb) (fun k30 I2 c hf hc7 => by
      have hx := znx_lt set 6 c
      refine ⟨by unfold ztn; omega, ?_⟩
      have a1 := g_M_nextOf (I := I2) (J := J) (t := t) (u := u) (i := i) (f := f) (s := s) (x := x) hc.2 hset hc7
      have a2 := g_M_firstOf (J := J) (t := t) (u := u) (i := i) (f := f) (s := s) (x := x) (m42 I2 hf) hnb (m31 I2 hf) hom hx
      rw [mK I2 hf] at a2
      have hq3 : q = 3 := hc.1
      simp (disch := (first | omega | assumption)) only [f_M_layOrder_30, gi_12, eq3, zbs, nI_add, pk_mul, znI_add1, znI_sub1, znI_subm, zle_nI, zlt_nI, zeq_nI, zle_0, zeq_0, zlt_0, zeq_m, zeq_1, zge_0, zbt0, zbt1, zB_0, zB_1, zB_b, zbool_0, zbool_1, ↓reduceIte, m44 I2 hf, hq3, n10, hc.2, a1, a2]
      rfl)
    refine ⟨I', e1, e2, ?_⟩
    have := zgo_congr (pick := ztp (zKm I) nb set) (nxt := ztn set) (n := nb) (fun c ok ok' h => zbest_congr (v := zKm I (znx set 6 c)) h (fun _ _ _ => rfl)) 10 0 (zokm I1 om) (zokO om) (fun b hb => hokI b (by omega))
    unfold ztu
    rw [← this]
    exact e3
  · rw [if_neg hc]
    obtain ⟨I', e1, e2, e3⟩ := g (fun _ ok => zbest ok (zjoint (zKm I) q set nr) nb) (fun c => c) (fun c ok => zbest_pick ok _ nb) (fun k30 I2 c hf hc7 => by
      refine ⟨hc7, ?_⟩
      have a2 := g_M_firstJoint (J := J) (t := t) (u := u) (i := i) (f := f) (s := s) (x := x) (m42 I2 hf) hnb (m31 I2 hf) hom (m43 I2 hf) hnr (m44 I2 hf) hq hset
      rw [mK I2 hf] at a2
      by_cases hq3 : q = 3
      · have hs0 : set = 0 := by
          by_cases h : set = 0
          · exact h
          · exact absurd ⟨hq3, h⟩ hc
        simp (disch := (first | omega | assumption)) only [f_M_layOrder_30, f_M_layOrder_66, gi_12, eq3, zbs, nI_add, pk_mul, znI_add1, znI_sub1, znI_subm, zle_nI, zlt_nI, zeq_nI, zle_0, zeq_0, zlt_0, zeq_m, zeq_1, zge_0, zbt0, zbt1, zB_0, zB_1, zB_b, zbool_0, zbool_1, ↓reduceIte, m44 I2 hf, hq3, n10, hs0, a2]
        subst hs0
        subst hq3
        simp (disch := (first | omega | assumption)) only [f_M_layOrder_66, zbs, nI_add, pk_mul, znI_add1, znI_sub1, znI_subm, zle_nI, zlt_nI, zeq_nI, zle_0, zeq_0, zlt_0, zeq_m, zeq_1, zge_0, zbt0, zbt1, zB_0, zB_1, zB_b, zbool_0, zbool_1, ↓reduceIte, a2]
      · simp (disch := (first | omega | assumption)) only [f_M_layOrder_30, f_M_layOrder_66, gi_12, eq3, zbs, nI_add, pk_mul, znI_add1, znI_sub1, znI_subm, zle_nI, zlt_nI, zeq_nI, zle_0, zeq_0, zlt_0, zeq_m, zeq_1, zge_0, zbt0, zbt1, zB_0, zB_1, zB_b, zbool_0, zbool_1, ↓reduceIte, m44 I2 hf, hq3, n10, a2])
    refine ⟨I', e1, e2, ?_⟩
    have := zgo_congr (nxt := fun c => c) (n := nb) (fun (c : Nat) ok ok' h => zbest_congr (v := zjoint (zKm I) q set nr) h (fun _ _ _ => rfl)) 10 0 (zokm I1 om) (zokO om) (fun b hb => hokI b (by omega))
    unfold zsel
    rw [← this]
    exact e3
end ZMp
