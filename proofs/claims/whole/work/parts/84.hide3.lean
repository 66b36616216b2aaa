/-! hide: the class's orders -/
def zSo : Nat → Nat → Bool := fun a k => zSw a k || a == 62 || a == 63 || (a == 60 && (k == 3 || k == 4))
theorem zSo_w : ∀ a k, zSw a k = true → zSo a k = true := fun a k h => by simp [zSo, h]
theorem zSg_o : ∀ a k, zSo a k = true → zSg a k = true := fun a k h => by
  unfold zSo at h
  simp only [Bool.or_eq_true] at h
  rcases h with ((h | h) | h) | h
  · exact zSg_w a k h
  · have : a = 62 := by simpa using h
    subst this; rfl
  · have : a = 63 := by simpa using h
    subst this; rfl
  · simp at h
    rcases h with ⟨rfl, rfl | rfl⟩ <;> rfl
section ZHi
variable {I : Nat → Nat → Int32} {J : Nat → Nat → Int64} {t u i f s x : Nat} {nt nb nr q sh md om im A : Nat} {LW BW : List Int32}
theorem g_O_placeIn {L : List Nat} {b : Nat} (hz : I 60 4 = nI L.length) (hl : L.length ≤ 10) (hb : ∀ b, b ∈ L → b < 10) (hn : L.Nodup) (hm : b ∈ L) : f_O_placeIn (zs I J (zPt t u i f s x)) 60 (nJ (zco L)) (nI b) = some (nI (zps L b)) := by
  have key : ∀ (k fuel : Nat), k ≤ L.length → k < fuel → b ∈ L.take k → f_O_placeIn_11L fuel (zs I J (zPt t u i f s x)) (nI b) (nJ (zco (L.take k))) (nI k - 1) = some (nI (zps L b)) := by
    intro k
    induction k with
    | zero => intro fuel _ _ h; simp at h
    | succ k ih =>
      intro fuel hk hf hmem
      obtain ⟨fuel, rfl⟩ : ∃ g, fuel = g + 1 := ⟨fuel - 1, by omega⟩
      have hlk : k < L.length := by omega
      have hg := List.getElem?_eq_getElem hlk
      have hb1 := hb _ (List.getElem_mem hlk)
      have hb2 := hb b hm
      have h63 : zco (L.take (k + 1)) < 2 ^ 63 := zco_63 (by rw [List.length_take]; omega) (fun b h => hb b (List.mem_of_mem_take h))
      have h63' : zco (L.take k) < 2 ^ 63 := zco_63 (by rw [List.length_take]; omega) (fun b h => hb b (List.mem_of_mem_take h))
      have er : zremL (nJ (zco (L.take (k + 1)))) 16 = nJ L[k] := by
        rw [nJ_rem h63, zco_take hg]
        congr 1
        omega
      have ed : nJ (zco (L.take (k + 1))) / 16 = nJ (zco (L.take k)) := by
        rw [nJ_div h63, zco_take hg]
        congr 1
        omega
      have ei : (nI b).toInt64 = nJ b := nI_64 (by omega)
      have elg : (lg_cmp (nJ L[k]) (nJ b) = 0) = (L[k] = b) := propext ((zlg_eq _ _).trans (nJ_inj (by omega) (by omega)))
      have hk31 : k < 2 ^ 31 := by omega
      rw [f_O_placeIn_11L, znI_sub1]
      by_cases he : L[k] = b
      · have : zps L b = k := zps_at hn (by rw [hg, he])
        rw [this]
        have elg' : (lg_cmp (nJ L[k]) (nJ b) = 0) = True := elg.trans (eq_true he)
        simp (disch := (first | omega | assumption)) only [f_O_placeIn_11, dr16, zbs, nI_add, pk_mul, znI_add1, znI_sub1, znI_subm, zle_nI, zlt_nI, zeq_nI, zle_0, zeq_0, zlt_0, zeq_m, zeq_1, zge_0, zbt0, zbt1, zB_0, zB_1, zB_b, zbool_0, zbool_1, ↓reduceIte, er, ei, elg']
      · have hmem2 : b ∈ L.take k := by
          rw [List.take_add_one, hg] at hmem
          rcases List.mem_append.mp hmem with h | h
          · exact h
          · exact absurd (by simpa using h) (fun e : b = L[k] => he e.symm)
        have e2 : nI k + (-1) = nI k - 1 := by rw [Int32.sub_eq_add_neg]
        have := ih fuel (by omega) (by omega) hmem2
        rw [← this]
        have elg' : (lg_cmp (nJ L[k]) (nJ b) = 0) = False := elg.trans (eq_false he)
        simp (disch := (first | omega | assumption)) only [f_O_placeIn_11, dr16, zbs, nI_add, pk_mul, znI_add1, znI_sub1, znI_subm, zle_nI, zlt_nI, zeq_nI, zle_0, zeq_0, zlt_0, zeq_m, zeq_1, zge_0, zbt0, zbt1, zB_0, zB_1, zB_b, zbool_0, zbool_1, ↓reduceIte, er, ed, ei, elg', e2]
  have h := key L.length zfu (Nat.le_refl _) (zfu_lt (by omega)) (by rw [List.take_length]; exact hm)
  rw [List.take_length] at h
  rw [← h]
  simp (disch := (first | omega | assumption)) only [f_O_placeIn, zg_5, gi_5, zbs, nI_add, pk_mul, znI_add1, znI_sub1, znI_subm, zle_nI, zlt_nI, zeq_nI, zle_0, zeq_0, zlt_0, zeq_m, zeq_1, zge_0, zbt0, zbt1, zB_0, zB_1, zB_b, zbool_0, zbool_1, ↓reduceIte, hz]
theorem g_O_count {c : Nat → Nat} {n : Nat} (hO : zOe I J c n) (hn : n < 625) (hc : ∀ r, r ≤ n → c r < 2 ^ 63) :
    ∃ I' J', f_O_count (zs I J (zPt t u i f s x)) 60 (nJ (c n)) (nI n) = some (zs I' J' (zPt t u i f s x)) ∧ zfr (fun a k => a == 62 || a == 63 || (a == 60 && k == 3)) I I' ∧ zOe I' J' c (n + 1) := by
  have hlen := zE_len c n
  have key := zforW (fun fuel (_ : Unit) k => f_O_count_3L fuel (zs I J (zPt t u i f s x)) 60 (nJ (c n)) (nI n) (nI k)) (zE c n).length
    (fun k _ => ∀ j r, j < k → (zE c n)[j]? = some r → c r ≠ c n)
    (fun res => (∃ k r, (zE c n)[k]? = some r ∧ c r = c n ∧ res = f_O_count_24 (zs I J (zPt t u i f s x)) 60 (nI k)) ∨ ((∀ j r, (zE c n)[j]? = some r → c r ≠ c n) ∧ res = f_O_count_42 (zs I J (zPt t u i f s x)) 60 (nJ (c n)) (nI n)))
    (fun m' k _ hk hi => by
      have hle : ¬ (zE c n).length ≤ k := by omega
      have hg := List.getElem?_eq_getElem hk
      obtain ⟨e1, e2, e3⟩ := hO.2 k _ hg
      have hrn := zE_mem c n _ (List.getElem_mem hk)
      have elg : (lg_cmp (nJ (c (zE c n)[k])) (nJ (c n)) = 0) = (c (zE c n)[k] = c n) := propext ((zlg_eq _ _).trans (nJ_inj (hc _ (by omega)) (hc _ (Nat.le_refl _))))
      by_cases he : c (zE c n)[k] = c n
      · refine Or.inl (Or.inl ⟨k, _, hg, he, ?_⟩)
        show f_O_count_3L (m' + 1) _ _ _ _ _ = _
        rw [f_O_count_3L]
        have elg' := elg.trans (eq_true he)
        simp (disch := (first | omega | assumption)) only [f_O_count_3, gi_5, gp_5_0, aj_61, zbs, nI_add, pk_mul, znI_add1, znI_sub1, znI_subm, zle_nI, zlt_nI, zeq_nI, zle_0, zeq_0, zlt_0, zeq_m, zeq_1, zge_0, zbt0, zbt1, zB_0, zB_1, zB_b, zbool_0, zbool_1, ↓reduceIte, hO.1, hle, e1, elg']
      · refine Or.inr ⟨(), fun j r hj hr => ?_, ?_⟩
        · by_cases hjk : j = k
          · subst hjk
            rw [hg] at hr
            cases hr
            exact he
          · exact hi j r (by omega) hr
        · show f_O_count_3L (m' + 1) _ _ _ _ _ = _
          rw [f_O_count_3L]
          have elg' := elg.trans (eq_false he)
          simp (disch := (first | omega | assumption)) only [f_O_count_3, gi_5, gp_5_0, aj_61, zbs, nI_add, pk_mul, znI_add1, znI_sub1, znI_subm, zle_nI, zlt_nI, zeq_nI, zle_0, zeq_0, zlt_0, zeq_m, zeq_1, zge_0, zbt0, zbt1, zB_0, zB_1, zB_b, zbool_0, zbool_1, ↓reduceIte, hO.1, hle, e1, elg'])
    (fun m' _ hi => by
      refine Or.inr ⟨fun j r hr => hi j r (List.getElem?_eq_some_iff.mp hr).1 hr, ?_⟩
      show f_O_count_3L (m' + 1) _ _ _ _ _ = _
      rw [f_O_count_3L]
      simp (disch := (first | omega | assumption)) only [f_O_count_3, gi_5, gp_5_0, aj_61, zbs, nI_add, pk_mul, znI_add1, znI_sub1, znI_subm, zle_nI, zlt_nI, zeq_nI, zle_0, zeq_0, zlt_0, zeq_m, zeq_1, zge_0, zbt0, zbt1, zB_0, zB_1, zB_b, zbool_0, zbool_1, ↓reduceIte, hO.1, Nat.le_refl]) (zE c n).length 0 () zfu (by omega) (fun j r hj => by omega) (zfu_lt (by omega))
  have key2 : f_O_count (zs I J (zPt t u i f s x)) 60 (nJ (c n)) (nI n) = f_O_count_3L zfu (zs I J (zPt t u i f s x)) 60 (nJ (c n)) (nI n) (nI 0) := by
    simp (disch := (first | omega | assumption)) only [f_O_count, zg_5, zbs, nI_add, pk_mul, znI_add1, znI_sub1, znI_subm, zle_nI, zlt_nI, zeq_nI, zle_0, zeq_0, zlt_0, zeq_m, zeq_1, zge_0, zbt0, zbt1, zB_0, zB_1, zB_b, zbool_0, zbool_1, ↓reduceIte]
    rfl
  rcases key with ⟨k, r, hr, he, hres⟩ | ⟨hno, hres⟩
  · have hk := (List.getElem?_eq_some_iff.mp hr).1
    have hE : zE c (n + 1) = zE c n := by
      rw [zE_succ, if_pos]
      exact List.any_eq_true.mpr ⟨r, List.mem_of_getElem? hr, by simpa using he⟩
    obtain ⟨e1, e2, e3⟩ := hO.2 k r hr
    refine ⟨zup I 63 k (nI (zcnt c n (c r) + 1)), J, ?_, zfr_up (zfr_refl _ _) rfl, ?_, fun j r' hj => ?_⟩
    · rw [key2, hres]
      have hk625 : k < 625 := by omega
      simp (disch := (first | omega | assumption)) only [f_O_count_24, gp_5_2, ai_63, wi_63, zbs, nI_add, pk_mul, znI_add1, znI_sub1, znI_subm, zle_nI, zlt_nI, zeq_nI, zle_0, zeq_0, zlt_0, zeq_m, zeq_1, zge_0, zbt0, zbt1, zB_0, zB_1, zB_b, zbool_0, zbool_1, ↓reduceIte, e3]
    · rw [hE, zup_ne _ _ _ (by decide)]
      exact hO.1
    · rw [hE] at hj
      obtain ⟨d1, d2, d3⟩ := hO.2 j r' hj
      refine ⟨d1, by rw [zup_ne _ _ _ (by decide)]; exact d2, ?_⟩
      rw [zcnt_succ]
      by_cases hjk : j = k
      · subst hjk
        rw [hr] at hj
        cases hj
        rw [zup_s, if_pos he.symm]
      · rw [if_neg (fun e => hjk (zE_nd c n j k r' r hj hr (by rw [← e, he])))]
        rw [zup_k _ _ hjk]
        exact d3
  · have hE : zE c (n + 1) = zE c n ++ [n] := by
      rw [zE_succ, if_neg]
      intro h
      obtain ⟨r, h1, h2⟩ := List.any_eq_true.mp h
      obtain ⟨j, hj⟩ := List.getElem?_of_mem h1
      exact hno j r hj (by simpa using h2)
    generalize hl : (zE c n).length = l at hlen
    have h3 := hO.1
    rw [hl] at h3
    have hl625 : l < 625 := by omega
    have hl2 : ¬ 625 ≤ l := by omega
    have c0 : zcnt c n (c n) = 0 := by
      have h0 := zcnt_le c n (c n)
      by_cases hz : 0 < zcnt c n (c n)
      · unfold zcnt at hz
        rw [List.countP_pos_iff] at hz
        obtain ⟨r, h1, h2⟩ := hz
        obtain ⟨r', g1, g2⟩ := zE_all c n r (List.mem_range.mp h1)
        obtain ⟨j, hj⟩ := List.getElem?_of_mem g1
        exact absurd (g2.trans (by simpa using h2)) (hno j r' hj)
      · omega
    refine ⟨zup (zup (zup I 62 l (nI n)) 63 l 1) 60 3 (nI (l + 1)), zup J 61 l (nJ (c n)), ?_, zfr_up (zfr_up (zfr_up (zfr_refl _ _) rfl) rfl) rfl, ?_, fun j r' hj => ?_⟩
    · rw [key2, hres]
      have e1 : ∀ v, zup I 62 l v 60 = I 60 := fun v => zup_ne _ _ _ (by decide)
      have e2 : ∀ (K : Nat → Nat → Int32) v, zup K 63 l v 60 = K 60 := fun K v => zup_ne _ _ _ (by decide)
      have e625 : (625 ≤ nI l) = False := by
        have := zle_nI (a := 625) (b := l) (by decide) (by omega)
        rw [show nI 625 = 625 from rfl] at this
        rw [this]
        exact eq_false hl2
      simp (disch := (first | omega | assumption)) only [f_O_count_42, gi_5, si_5, gp_5_0, gp_5_1, gp_5_2, wj_61, wi_62, wi_63, zbs, nI_add, pk_mul, znI_add1, znI_sub1, znI_subm, zle_nI, zlt_nI, zeq_nI, zle_0, zeq_0, zlt_0, zeq_m, zeq_1, zge_0, zbt0, zbt1, zB_0, zB_1, zB_b, zbool_0, zbool_1, ↓reduceIte, h3, e625, e1, e2]
    · rw [hE, List.length_append, hl, zup_s]
      rfl
    · rw [hE] at hj
      have u2 : ∀ v, zup (zup (zup I 62 l (nI n)) 63 l 1) 60 3 v 62 j = zup I 62 l (nI n) 62 j := fun v => by rw [zup_ne _ _ _ (by decide), zup_ne _ _ _ (by decide)]
      have u3 : ∀ v, zup (zup (zup I 62 l (nI n)) 63 l 1) 60 3 v 63 j = zup I 63 l 1 63 j := fun v => by rw [zup_ne _ _ _ (by decide), zup_at, zup_at, zup_ne _ _ _ (by decide)]
      rw [u2, u3]
      by_cases hjl : j < l
      · rw [List.getElem?_append_left (by omega)] at hj
        obtain ⟨d1, d2, d3⟩ := hO.2 j r' hj
        have hjl' : j ≠ l := by omega
        rw [zup_k _ _ hjl', zup_k _ _ hjl', zup_k _ _ hjl', zcnt_succ, if_neg (fun e => hno j r' hj e.symm)]
        exact ⟨d1, d2, d3⟩
      · rw [List.getElem?_append_right (by omega), hl] at hj
        have h0 : j - l = 0 := by
          by_cases h : j - l = 0
          · exact h
          · rw [List.getElem?_eq_none (by rw [List.length_singleton]; omega)] at hj
            cases hj
        rw [h0] at hj
        have hr' : r' = n := by simpa using hj.symm
        have hjl2 : j = l := by omega
        rw [hr', hjl2, zup_s, zup_s, zup_s, zcnt_succ, if_pos rfl, c0]
        exact ⟨rfl, rfl, rfl⟩
end ZHi
