/-! the class: places, orders, and opening -/
section ZXq
variable {I : Nat → Nat → Int32} {J : Nat → Nat → Int64} {t u i f s x : Nat} {nt nb nr hm q : Nat}
theorem g_S_placeLaid {L : List Nat} (hL : zLx I L) (hnd : L.Nodup) (hlen : L.length ≤ 10) {k0 b : Nat} (hk : L[k0]? = some b) (hb : b < 10) (hLb : ∀ c, c ∈ L → c < 10) : f_S_placeLaid (zs I J (zPt t u i f s x)) 47 (nI b) = some (nI k0) := by
  have hk0 := (List.getElem?_eq_some_iff.mp hk).1
  have h := zforW (fun fuel (_ : Unit) k => f_S_placeLaid_2L fuel (zs I J (zPt t u i f s x)) 47 (nI b) (nI k)) (k0 + 1) (fun k _ => k ≤ k0) (fun r => r = some (nI k0))
    (fun m k _ hk1 hi => by
      have hle : ¬ L.length ≤ k := by omega
      obtain ⟨c, hc⟩ : ∃ c, L[k]? = some c := ⟨L[k]'(by omega), List.getElem?_eq_getElem (by omega)⟩
      have hc10 := hLb c (List.mem_of_getElem? hc)
      have e := hL.2 k c hc
      show f_S_placeLaid_2L (m + 1) _ _ _ _ = _ ∨ ∃ s', _ ∧ f_S_placeLaid_2L (m + 1) _ _ _ _ = _
      rw [f_S_placeLaid_2L]
      by_cases hcb : c = b
      · left
        have hkk : k = k0 := (List.getElem?_inj (show k < L.length by omega) hnd).mp (by rw [hc, hk, hcb])
        subst hkk
        simp (disch := (first | omega | assumption)) only [f_S_placeLaid_2, gi_8, gp_8_5, ai_50, zbs, nI_add, pk_mul, znI_add1, znI_sub1, znI_subm, zle_nI, zlt_nI, zeq_nI, zle_0, zeq_0, zlt_0, zeq_m, zeq_1, zge_0, zbt0, zbt1, zB_0, zB_1, zB_b, zbool_0, zbool_1, ↓reduceIte, hL.1, hle, e, hcb]
      · right
        have hkk : k ≠ k0 := fun h => by
          subst h
          rw [hc] at hk
          exact hcb (Option.some.inj hk)
        refine ⟨(), by omega, ?_⟩
        simp (disch := (first | omega | assumption)) only [f_S_placeLaid_2, gi_8, gp_8_5, ai_50, zbs, nI_add, pk_mul, znI_add1, znI_sub1, znI_subm, zle_nI, zlt_nI, zeq_nI, zle_0, zeq_0, zlt_0, zeq_m, zeq_1, zge_0, zbt0, zbt1, zB_0, zB_1, zB_b, zbool_0, zbool_1, ↓reduceIte, hL.1, hle, e, hcb])
    (fun m _ hi => by omega) (k0 + 1) 0 () zfu (by omega) (by omega) (zfu_lt (by omega))
  simp (disch := (first | omega | assumption)) only [f_S_placeLaid, zg_8, zbs, nI_add, pk_mul, znI_add1, znI_sub1, znI_subm, zle_nI, zlt_nI, zeq_nI, zle_0, zeq_0, zlt_0, zeq_m, zeq_1, zge_0, zbt0, zbt1, zB_0, zB_1, zB_b, zbool_0, zbool_1, ↓reduceIte]
  exact h
/-- what the shelves stand on -/
def zSh (I : Nat → Nat → Int32) (s nb nr q hm : Nat) : Prop := I s 1 = nI nb ∧ nb ≤ 10 ∧ I s 2 = nI nr ∧ nr ≤ 6 ∧ I s 3 = nI q ∧ q ≤ 3 ∧ I 47 1 = nI hm ∧ hm < 1024 ∧ ∀ b, hm.testBit b = true → b < nb
theorem zSh_ls {I' : Nat → Nat → Int32} (hs : s = 2 ∨ s = 13) (h : zSh I s nb nr q hm) (hf : zfr zXls I I') : zSh I' s nb nr q hm := by
  unfold zSh
  rw [zXls_row hf s (by omega) (by omega) (by omega), zXls_47 hf 1 (by decide)]
  exact h
theorem z64 {nr set : Nat} (hnr : nr ≤ 6) (h : set < 2 ^ nr) : set < 64 := Nat.lt_of_lt_of_le h (Nat.le_trans (Nat.pow_le_pow_right (by decide) hnr) (by decide))
theorem g_S_lay (hs : s = 2 ∨ s = 13) (hS : zSh I s nb nr q hm) {set : Nat} (hset : set < 2 ^ nr) :
    ∃ I', f_S_lay (zs I J (zPt t u i f s x)) 47 (nI set) = some (zs I' J (zPt t u i f s x)) ∧ zfr zXls I I' ∧ zLx I' (zord (zKx I) q nr nb (fun b => hm.testBit b) set) := by
  have hS2 := hS
  obtain ⟨h1, hnb, h2, hnr, h3, hq, hh, hhm, hhb⟩ := hS
  have h64 := z64 hnr hset
  have tog : ∃ I', f_S_lay_21 (zs I J (zPt t u i f s x)) 47 (nI set) = some (zs I' J (zPt t u i f s x)) ∧ zfr zXls I I' ∧ zLx I' (zsel (zjoint (zKx I) q set nr) nb 10 (fun b => hm.testBit b)) := by
    obtain ⟨I1, a1, a2, a3⟩ := g_S_bringTogether (J := J) (t := t) (u := u) (i := i) (f := f) (x := x) hs h1 hnb h2 hnr h3 hq h64
    have a4 : zfr zXls I I1 := zfr_slS a2 (fun a ha k => by simp at ha; subst ha; rfl)
    obtain ⟨g1, -, -, -, -, -, gh, -, -⟩ := zSh_ls hs hS2 a4
    obtain ⟨I2, b1, b2, b3, b4⟩ := g_S_layTogether (J := J) (t := t) (u := u) (i := i) (f := f) (x := x) hs g1 hnb gh hhm hhb
    refine ⟨I2, ?_, zfr_trans a4 b2, ?_⟩
    · simp (disch := (first | omega | assumption)) only [f_S_lay_21, zbs, nI_add, pk_mul, znI_add1, znI_sub1, znI_subm, zle_nI, zlt_nI, zeq_nI, zle_0, zeq_0, zlt_0, zeq_m, zeq_1, zge_0, zbt0, zbt1, zB_0, zB_1, zB_b, zbool_0, zbool_1, ↓reduceIte, a1, b1]
    · rw [zsel_congr (fun o ho => a3 o ho)] at b4
      exact b4
  unfold zord
  by_cases hc : q = 3 ∧ set ≠ 0
  · rw [if_pos hc]
    obtain ⟨I1, a1, a2, a3⟩ := g_S_layByTurns (J := J) (t := t) (u := u) (i := i) (f := f) (x := x) hs h1 hnb h2 hnr hh hhm hhb hset hc.2
    refine ⟨I1, ?_, a2, a3⟩
    have hq3 : q = 3 := hc.1
    simp (disch := (first | omega | assumption)) only [f_S_lay, zg_8, gi_10, gp_8_0, eq3, zbs, nI_add, pk_mul, znI_add1, znI_sub1, znI_subm, zle_nI, zlt_nI, zeq_nI, zle_0, zeq_0, zlt_0, zeq_m, zeq_1, zge_0, zbt0, zbt1, zB_0, zB_1, zB_b, zbool_0, zbool_1, ↓reduceIte, h3, hq3, hc.2, a1]
  · rw [if_neg hc]
    obtain ⟨I1, a1, a2, a3⟩ := tog
    refine ⟨I1, ?_, a2, a3⟩
    by_cases hq3 : q = 3
    · have hs0 : set = 0 := by
        by_cases h : set = 0
        · exact h
        · exact absurd ⟨hq3, h⟩ hc
      subst hs0
      simp (disch := (first | omega | assumption)) only [f_S_lay, zg_8, gi_10, gp_8_0, eq3, zbs, nI_add, pk_mul, znI_add1, znI_sub1, znI_subm, zle_nI, zlt_nI, zeq_nI, zle_0, zeq_0, zlt_0, zeq_m, zeq_1, zge_0, zbt0, zbt1, zB_0, zB_1, zB_b, zbool_0, zbool_1, ↓reduceIte, h3, hq3, a1]
    · simp (disch := (first | omega | assumption)) only [f_S_lay, zg_8, gi_10, gp_8_0, eq3, zbs, nI_add, pk_mul, znI_add1, znI_sub1, znI_subm, zle_nI, zlt_nI, zeq_nI, zle_0, zeq_0, zlt_0, zeq_m, zeq_1, zge_0, zbt0, zbt1, zB_0, zB_1, zB_b, zbool_0, zbool_1, ↓reduceIte, h3, hq3, a1]
theorem g_S_placeFor (hs : s = 2 ∨ s = 13) (hS : zSh I s nb nr q hm) {set b : Nat} (hset : set < 2 ^ nr) (hb : b < nb) (hob : hm.testBit b = true) :
    ∃ I' k, f_S_placeFor (zs I J (zPt t u i f s x)) 47 (nI set) (nI b) = some (nI k, (zs I' J (zPt t u i f s x))) ∧ zfr zXls I I' ∧ (zord (zKx I) q nr nb (fun b => hm.testBit b) set)[k]? = some b := by
  have hS2 := hS
  obtain ⟨h1, hnb, h2, hnr, h3, hq, hh, hhm, hhb⟩ := hS
  have h64 := z64 hnr hset
  have hct := zct_le (fun b => hm.testBit b) nb
  have tog : ∃ I' k, f_S_placeFor_26 (zs I J (zPt t u i f s x)) 47 (nI set) (nI b) = some (nI k, (zs I' J (zPt t u i f s x))) ∧ zfr zXls I I' ∧ (zsel (zjoint (zKx I) q set nr) nb 10 (fun b => hm.testBit b))[k]? = some b := by
    obtain ⟨I1, a1, a2, a3⟩ := g_S_bringTogether (J := J) (t := t) (u := u) (i := i) (f := f) (x := x) hs h1 hnb h2 hnr h3 hq h64
    have a4 : zfr zXls I I1 := zfr_slS a2 (fun a ha k => by simp at ha; subst ha; rfl)
    obtain ⟨g1, -, -, -, -, -, gh, -, -⟩ := zSh_ls hs hS2 a4
    have b1 := g_S_placeTogether (J := J) (t := t) (u := u) (i := i) (f := f) (x := x) hs g1 hnb gh hhm (show b < 10 by omega)
    rw [zpl_congr hb (fun o ho => a3 o ho)] at b1
    refine ⟨I1, _, ?_, a4, zsel_at 10 (fun b => hm.testBit b) b (by omega) hb hob⟩
    simp (disch := (first | omega | assumption)) only [f_S_placeFor_26, zbs, nI_add, pk_mul, znI_add1, znI_sub1, znI_subm, zle_nI, zlt_nI, zeq_nI, zle_0, zeq_0, zlt_0, zeq_m, zeq_1, zge_0, zbt0, zbt1, zB_0, zB_1, zB_b, zbool_0, zbool_1, ↓reduceIte, a1, b1]
  unfold zord
  by_cases hc : q = 3 ∧ set ≠ 0
  · rw [if_pos hc]
    obtain ⟨I1, a1, a2, a3⟩ := g_S_layByTurns (J := J) (t := t) (u := u) (i := i) (f := f) (x := x) hs h1 hnb h2 hnr hh hhm hhb hset hc.2
    have hOd := ztu_Od (K := zKx I) (set := set) 10 0 (fun b => hm.testBit b) (show zct (fun b => hm.testBit b) nb ≤ 10 by omega)
    obtain ⟨k, hk⟩ := List.getElem?_of_mem ((hOd.2.2 b).mpr ⟨hb, hob⟩)
    have p1 := g_S_placeLaid (J := J) (t := t) (u := u) (i := i) (f := f) (s := s) (x := x) a3 hOd.1 (by rw [hOd.2.1]; omega) hk (by omega) (fun c hc => by have := ((hOd.2.2 c).mp hc).1; omega)
    refine ⟨I1, k, ?_, a2, hk⟩
    have hq3 : q = 3 := hc.1
    simp (disch := (first | omega | assumption)) only [f_S_placeFor, zg_8, gi_10, gp_8_0, eq3, zbs, nI_add, pk_mul, znI_add1, znI_sub1, znI_subm, zle_nI, zlt_nI, zeq_nI, zle_0, zeq_0, zlt_0, zeq_m, zeq_1, zge_0, zbt0, zbt1, zB_0, zB_1, zB_b, zbool_0, zbool_1, ↓reduceIte, h3, hq3, hc.2, a1, p1]
  · rw [if_neg hc]
    obtain ⟨I1, k, a1, a2, a3⟩ := tog
    refine ⟨I1, k, ?_, a2, a3⟩
    by_cases hq3 : q = 3
    · have hs0 : set = 0 := by
        by_cases h : set = 0
        · exact h
        · exact absurd ⟨hq3, h⟩ hc
      subst hs0
      simp (disch := (first | omega | assumption)) only [f_S_placeFor, zg_8, gi_10, gp_8_0, eq3, zbs, nI_add, pk_mul, znI_add1, znI_sub1, znI_subm, zle_nI, zlt_nI, zeq_nI, zle_0, zeq_0, zlt_0, zeq_m, zeq_1, zge_0, zbt0, zbt1, zB_0, zB_1, zB_b, zbool_0, zbool_1, ↓reduceIte, h3, hq3, a1]
    · simp (disch := (first | omega | assumption)) only [f_S_placeFor, zg_8, gi_10, gp_8_0, eq3, zbs, nI_add, pk_mul, znI_add1, znI_sub1, znI_subm, zle_nI, zlt_nI, zeq_nI, zle_0, zeq_0, zlt_0, zeq_m, zeq_1, zge_0, zbt0, zbt1, zB_0, zB_1, zB_b, zbool_0, zbool_1, ↓reduceIte, h3, hq3, a1]
theorem g_S_laidAt {L : List Nat} (hL : zLx I L) (hlen : L.length ≤ 10) (p : Int32) : f_S_laidAt (zs I J (zPt t u i f s x)) 47 p = some (match (if p < 0 then none else L[p.toNatClampNeg]?) with | none => -1 | some b => nI b) := by
  by_cases h0 : p < 0
  · simp (disch := (first | omega | assumption)) only [f_S_laidAt, zg_8, gi_8, gp_8_5, ai_50, zbs, nI_add, pk_mul, znI_add1, znI_sub1, znI_subm, zle_nI, zlt_nI, zeq_nI, zle_0, zeq_0, zlt_0, zeq_m, zeq_1, zge_0, zbt0, zbt1, zB_0, zB_1, zB_b, zbool_0, zbool_1, ↓reduceIte, h0]
  · obtain ⟨k, hk, rfl⟩ := nI_of h0
    rw [nI_clamp hk]
    by_cases hkl : k < L.length
    · have hc : L[k]? = some (L[k]'hkl) := List.getElem?_eq_getElem hkl
      have e := hL.2 k _ hc
      have hle : ¬ L.length ≤ k := by omega
      simp (disch := (first | omega | assumption)) only [f_S_laidAt, zg_8, gi_8, gp_8_5, ai_50, zbs, nI_add, pk_mul, znI_add1, znI_sub1, znI_subm, zle_nI, zlt_nI, zeq_nI, zle_0, zeq_0, zlt_0, zeq_m, zeq_1, zge_0, zbt0, zbt1, zB_0, zB_1, zB_b, zbool_0, zbool_1, ↓reduceIte, hL.1, hle, e, hc]
    · have hc : L[k]? = none := List.getElem?_eq_none (by omega)
      have hle : L.length ≤ k := by omega
      simp (disch := (first | omega | assumption)) only [f_S_laidAt, zg_8, gi_8, gp_8_5, ai_50, zbs, nI_add, pk_mul, znI_add1, znI_sub1, znI_subm, zle_nI, zlt_nI, zeq_nI, zle_0, zeq_0, zlt_0, zeq_m, zeq_1, zge_0, zbt0, zbt1, zB_0, zB_1, zB_b, zbool_0, zbool_1, ↓reduceIte, hL.1, hle, hc]
end ZXq
