/-! the class reads a text: names, topics -/
def yoI : Option Nat → Int32
  | none => -1
  | some k => nI k
theorem yidx_none {w : List Nat} : ∀ (L : List (List Nat)) (c : Nat), yidx w L c = none ↔ ¬ w ∈ L := by
  intro L
  induction L with
  | nil => intro c; simp [yidx]
  | cons a L ih =>
    intro c
    unfold yidx
    by_cases h : a = w
    · rw [if_pos h]; simp [h]
    · rw [if_neg h, ih]; simp [Ne.symm h]
theorem ygor : ∀ g, g < 16 → ∀ k, k < 4 → nI g ||| (1 <<< (nI k &&& 31)) = nI (g ||| 2 ^ k) ∧ g ||| 2 ^ k < 16 := by decide +kernel
section ZXn
variable {I : Nat → Nat → Int32} {J : Nat → Nat → Int64} {t u i f s : Nat} {B : Nat → Nat} {n : Nat}
theorem g_T_indexOf {a cap : Nat} (ha : zLAY[a]? = some (4, cap)) (hcap : cap ≤ 10) {L : List (List Nat)} (hL : L.length ≤ cap) (hLt : ∀ w ∈ L, yLt w) (hN : yNa J a L) {w : List Nat} (hw : yLt w) (hJ : J 25 3 = nJ (ybs 32 (w.map (fun c => c - 96)))) : f_T_indexOf (zs I J (zPt t u i f s 1)) 24 a (nI L.length) = some (yoI (yidx w L 0)) := by
  have hlen : zlen (zs I J (zPt t u i f s 1)) 4 a = some (nI cap) := zs_len ha
  have loop : ∀ (d k fuel : Nat), k + d = L.length → d < fuel → f_T_indexOf_2L fuel (zs I J (zPt t u i f s 1)) 24 a (nI L.length) (nI k) = some (yoI (yidx w (L.drop k) k)) := by
    intro d
    induction d with
    | zero =>
      intro k fuel hk hf
      obtain ⟨m, rfl⟩ : ∃ m, fuel = m + 1 := ⟨fuel - 1, by omega⟩
      obtain rfl : k = L.length := by omega
      rw [f_T_indexOf_2L, List.drop_length]
      simp (disch := (first | omega | assumption)) only [f_T_indexOf_2, gj_7, gp_9_2, zbs, nI_add, pk_mul, znI_add1, znI_sub1, znI_subm, zle_nI, zlt_nI, zeq_nI, zle_0, zeq_0, zlt_0, zeq_m, zeq_1, zge_0, zbt0, zbt1, zB_0, zB_1, zB_b, zbool_0, zbool_1, ↓reduceIte, Nat.le_refl]
      rfl
    | succ d ih =>
      intro k fuel hk hf
      obtain ⟨m, rfl⟩ : ∃ m, fuel = m + 1 := ⟨fuel - 1, by omega⟩
      have hkl : k < L.length := by omega
      have hle : ¬ L.length ≤ k := by omega
      have hle2 : ¬ cap ≤ k := by omega
      have hget : L[k]? = some L[k] := List.getElem?_eq_getElem hkl
      have haj := zaj (I := I) (J := J) (P := zPt t u i f s 1) ha (by omega) (show k < cap by omega)
      have hnk := hN k _ hget
      rw [hnk] at haj
      have hdrop : L.drop k = L[k] :: L.drop (k + 1) := List.drop_eq_getElem_cons hkl
      have hkLt := hLt L[k] (List.getElem_mem hkl)
      have hcmp : (lg_cmp (nJ (ybs 32 (L[k].map (fun c => c - 96)))) (nJ (ybs 32 (w.map (fun c => c - 96)))) = 0) = (L[k] = w) := by
        rw [zlg_eq, yname_inj hkLt hw]
      rw [f_T_indexOf_2L, hdrop]
      unfold yidx
      by_cases he : L[k] = w
      · rw [if_pos he]
        simp (disch := (first | omega | assumption)) only [f_T_indexOf_2, gj_7, gp_9_2, zbs, nI_add, pk_mul, znI_add1, znI_sub1, znI_subm, zle_nI, zlt_nI, zeq_nI, zle_0, zeq_0, zlt_0, zeq_m, zeq_1, zge_0, zbt0, zbt1, zB_0, zB_1, zB_b, zbool_0, zbool_1, ↓reduceIte, hle, hlen, hle2, haj, gj_7, hJ, hcmp]
        rw [if_pos he]
        rfl
      · rw [if_neg he, ← ih (k + 1) m (by omega) (by omega)]
        simp (disch := (first | omega | assumption)) only [f_T_indexOf_2, gj_7, gp_9_2, zbs, nI_add, pk_mul, znI_add1, znI_sub1, znI_subm, zle_nI, zlt_nI, zeq_nI, zle_0, zeq_0, zlt_0, zeq_m, zeq_1, zge_0, zbt0, zbt1, zB_0, zB_1, zB_b, zbool_0, zbool_1, ↓reduceIte, hle, hlen, hle2, haj, gj_7, hJ, hcmp, he]
  have := loop L.length 0 zfu (by omega) (zfu_lt (by omega))
  have : f_T_indexOf_2L zfu (zs I J (zPt t u i f s 1)) 24 a (nI L.length) 0 = some (yoI (yidx w L 0)) := this
  simp (disch := (first | omega | assumption)) only [f_T_indexOf, zg_9, zbs, nI_add, pk_mul, znI_add1, znI_sub1, znI_subm, zle_nI, zlt_nI, zeq_nI, zle_0, zeq_0, zlt_0, zeq_m, zeq_1, zge_0, zbt0, zbt1, zB_0, zB_1, zB_b, zbool_0, zbool_1, ↓reduceIte, this]
theorem x_new {a cap : Nat} (ha : zLAY[a]? = some (4, cap)) (ha2 : a ≠ 25) (hcap : cap ≤ 10) {L : List (List Nat)} (hL : L.length < cap) (hLt : ∀ w ∈ L, yLt w) (hN : yNa J a L) {p : Nat} (h : yXq I J B n p) : match ynew (ytok B n) L p with
    | .error (c, pl) => ∃ σ', f_T_takeNewName (zs I J (zPt t u u f s 1)) 24 a (nI L.length) = some (0, σ') ∧ yEX u t s I J σ' c pl
    | .ok x => ∃ I' J', f_T_takeNewName (zs I J (zPt t u u f s 1)) 24 a (nI L.length) = some (1, zs I' J' (zPt t u u f s 1)) ∧ yfs I (zup J a L.length (nJ (ybs 32 (x.1.map (fun c => c - 96))))) I' J' ∧ yXq I' J' B n x.2 := by
  have h0 := h.2.1.1
  have hpl := h.2.1.2.1
  have hτ := ytok_To (B := B) h.2.2
  have hkb := hτ.1
  have hlen : zlen (zs I J (zPt t u u f s 1)) 4 a = some (nI cap) := zs_len ha
  unfold ynew
  by_cases hq : (ytok B n p).1 = 3
  · rw [if_pos hq]
    have hwLt := (hτ.2.2 (by omega) (by omega)).2
    have hJ := h.2.1.2.2.2.1 hq
    have hix := g_T_indexOf (I := I) (J := J) (t := t) (u := u) (i := u) (f := f) (s := s) ha hcap (by omega) hLt hN hwLt hJ
    rw [hq] at h0
    have e3 : (nI 3 : Int32) = 3 := rfl
    by_cases hin : (ytok B n p).2.2.2.1 ∈ L
    · rw [if_pos hin]
      have b := g_T_blame (I := I) (J := J) (t := t) (u := u) (i := u) (f := f) (s := s) (x := 1) 3 (nI (ytok B n p).2.1)
      refine ⟨_, ?_, yEX_bl (f := f) 3 (ytok B n p).2.1⟩
      cases hx : yidx (ytok B n p).2.2.2.1 L 0 with
      | none => exact absurd hin ((yidx_none L 0).mp hx)
      | some k =>
        rw [hx] at hix
        have hk := yidx_lt L 0 k hx
        have hne : ¬ yoI (some k) = -1 := znI_ne_m1 (by omega)
        simp (disch := (first | omega | assumption)) only [f_T_takeNewName, zg_9, gi_7, gj_7, gp_9_2, eq3, zbs, nI_add, pk_mul, znI_add1, znI_sub1, znI_subm, zle_nI, zlt_nI, zeq_nI, zle_0, zeq_0, zlt_0, zeq_m, zeq_1, zge_0, zbt0, zbt1, zB_0, zB_1, zB_b, zbool_0, zbool_1, ↓reduceIte, h0, e3, hlen, hL, hix, hne, hpl, b]
    · rw [if_neg hin]
      rw [(yidx_none L 0).mpr hin] at hix
      have hne : yoI none = -1 := rfl
      have h' : yXq I (zup J a L.length (nJ (ybs 32 ((ytok B n p).2.2.2.1.map (fun c => c - 96))))) B n p := yXq_fr h rfl rfl (zup_ne _ _ _ (Ne.symm ha2))
      have hwj := zwj (I := I) (J := J) (P := zPt t u u f s 1) (w := nJ (ybs 32 ((ytok B n p).2.2.2.1.map (fun c => c - 96)))) ha (by omega) hL
      obtain ⟨I', J', e1, e2, e4⟩ := x_adv (t := t) (u := u) (i := u) (f := f) (s := s) h' (by omega)
      refine ⟨I', J', ?_, e2, e4⟩
      simp (disch := (first | omega | assumption)) only [f_T_takeNewName, zg_9, gi_7, gj_7, gp_9_2, eq3, zbs, nI_add, pk_mul, znI_add1, znI_sub1, znI_subm, zle_nI, zlt_nI, zeq_nI, zle_0, zeq_0, zlt_0, zeq_m, zeq_1, zge_0, zbt0, zbt1, zB_0, zB_1, zB_b, zbool_0, zbool_1, ↓reduceIte, h0, e3, hlen, hL, hix, hne, gj_7, hJ, hwj, e1]
  · rw [if_neg hq]
    obtain ⟨σ', c, pl, e1, e2, e3⟩ := x_ref (α := List Nat × Nat) (u := u) (t := t) (f := f) (s := s) h
    rw [e2]
    refine ⟨σ', ?_, e3⟩
    have e4 : ¬ (nI (ytok B n p).1 = 3) := by rw [eq3 (by omega)]; exact hq
    simp (disch := (first | omega | assumption)) only [f_T_takeNewName, zg_9, gi_7, gj_7, gp_9_2, eq3, zbs, nI_add, pk_mul, znI_add1, znI_sub1, znI_subm, zle_nI, zlt_nI, zeq_nI, zle_0, zeq_0, zlt_0, zeq_m, zeq_1, zge_0, zbt0, zbt1, zB_0, zB_1, zB_b, zbool_0, zbool_1, ↓reduceIte, h0, e4, f_T_takeNewName_17, e1]
theorem x_top (hu : u = 2 ∨ u = 13) {L : List (List Nat)} (hL : L.length ≤ 4) (hu0 : I u 0 = nI L.length) (hLt : ∀ w ∈ L, yLt w) (hN : yNa J 27 L) {p g : Nat} (hg : g < 16) (h : yXq I J B n p) : match ytop (ytok B n) L g p with
    | .error (c, pl) => ∃ σ', f_T_takeTopic (zs I J (zPt t u u f s 1)) 24 (nI g) = some (-1, σ') ∧ yEX u t s I J σ' c pl
    | .ok x => ∃ I' J', f_T_takeTopic (zs I J (zPt t u u f s 1)) 24 (nI g) = some (nI x.1, zs I' J' (zPt t u u f s 1)) ∧ yfs I J I' J' ∧ yXq I' J' B n x.2 := by
  have h0 := h.2.1.1
  have hpl := h.2.1.2.1
  have hτ := ytok_To (B := B) h.2.2
  have hkb := hτ.1
  unfold ytop
  by_cases hq : (ytok B n p).1 = 3
  · rw [if_pos hq]
    have hwLt := (hτ.2.2 (by omega) (by omega)).2
    have hJ := h.2.1.2.2.2.1 hq
    have hix := g_T_indexOf (I := I) (J := J) (t := t) (u := u) (i := u) (f := f) (s := s) zl_27 (by decide) hL hLt hN hwLt hJ
    rw [hq] at h0
    have e3 : (nI 3 : Int32) = 3 := rfl
    cases hx : yidx (ytok B n p).2.2.2.1 L 0 with
    | none =>
      rw [hx] at hix
      have hne : yoI none = -1 := rfl
      have b := g_T_blame (I := I) (J := J) (t := t) (u := u) (i := u) (f := f) (s := s) (x := 1) 5 (nI (ytok B n p).2.1)
      refine ⟨_, ?_, yEX_bl (f := f) 5 (ytok B n p).2.1⟩
      simp (disch := (first | omega | assumption)) only [f_T_takeTopic, zg_9, gi_7, gi_10, gp_9_2, gp_9_3, gp_9_6, eq3, zbs, nI_add, pk_mul, znI_add1, znI_sub1, znI_subm, zle_nI, zlt_nI, zeq_nI, zle_0, zeq_0, zlt_0, zeq_m, zeq_1, zge_0, zbt0, zbt1, zB_0, zB_1, zB_b, zbool_0, zbool_1, ↓reduceIte, h0, e3, hu0, hix, hne, hpl, b]
      rfl
    | some k =>
      rw [hx] at hix
      have hk := yidx_lt L 0 k hx
      have hix : f_T_indexOf (zs I J (zPt t u u f s 1)) 24 27 (nI L.length) = some (nI k) := hix
      simp only
      by_cases hb : g.testBit k = true
      · rw [if_pos hb]
        have b := g_T_blame (I := I) (J := J) (t := t) (u := u) (i := u) (f := f) (s := s) (x := 1) 3 (nI (ytok B n p).2.1)
        refine ⟨_, ?_, yEX_bl (f := f) 3 (ytok B n p).2.1⟩
        simp (disch := (first | omega | assumption)) only [f_T_takeTopic, zg_9, gi_7, gi_10, gp_9_2, gp_9_3, gp_9_6, eq3, zbs, nI_add, pk_mul, znI_add1, znI_sub1, znI_subm, zle_nI, zlt_nI, zeq_nI, zle_0, zeq_0, zlt_0, zeq_m, zeq_1, zge_0, zbt0, zbt1, zB_0, zB_1, zB_b, zbool_0, zbool_1, ↓reduceIte, h0, e3, hu0, hix, hb, hpl, b, Bool.true_eq_false]
      · rw [if_neg hb]
        have hb : g.testBit k = false := by simpa using hb
        obtain ⟨I', J', e1, e2, e4⟩ := x_adv (t := t) (u := u) (i := u) (f := f) (s := s) h (by omega)
        refine ⟨I', J', ?_, e2, e4⟩
        simp (disch := (first | omega | assumption)) only [f_T_takeTopic, zg_9, gi_7, gi_10, gp_9_2, gp_9_3, gp_9_6, eq3, zbs, nI_add, pk_mul, znI_add1, znI_sub1, znI_subm, zle_nI, zlt_nI, zeq_nI, zle_0, zeq_0, zlt_0, zeq_m, zeq_1, zge_0, zbt0, zbt1, zB_0, zB_1, zB_b, zbool_0, zbool_1, ↓reduceIte, h0, e3, hu0, hix, hb, e1]
  · rw [if_neg hq]
    obtain ⟨σ', c, pl, e1, e2, e3⟩ := x_ref (α := Nat × Nat) (u := u) (t := t) (f := f) (s := s) h
    rw [e2]
    refine ⟨σ', ?_, e3⟩
    have e4 : ¬ (nI (ytok B n p).1 = 3) := by rw [eq3 (by omega)]; exact hq
    simp (disch := (first | omega | assumption)) only [f_T_takeTopic, zg_9, gi_7, gi_10, gp_9_2, gp_9_3, gp_9_6, eq3, zbs, nI_add, pk_mul, znI_add1, znI_sub1, znI_subm, zle_nI, zlt_nI, zeq_nI, zle_0, zeq_0, zlt_0, zeq_m, zeq_1, zge_0, zbt0, zbt1, zB_0, zB_1, zB_b, zbool_0, zbool_1, ↓reduceIte, h0, e4, e1]
end ZXn
/-! what the class has of what has been told -/
def yXD (I : Nat → Nat → Int32) (J : Nat → Nat → Int64) (u : Nat) (s : yPs) : Prop :=
  (I u 0 = nI s.2.1.length ∧ I u 1 = nI s.2.2.1.length ∧ I u 2 = nI s.2.2.2.1.length ∧ I u 3 = nI s.2.2.2.2.2.2.2.2.1 ∧ I u 4 = nI s.2.2.2.2.2.2.2.2.2.1 ∧ I u 5 = nI s.2.2.2.2.2.2.2.2.2.2.1 ∧ I u 6 = nI s.2.2.2.2.2.2.2.2.2.2.2.2.2.2 ∧ I 24 9 = nI (128 * s.2.2.2.2.2.2.2.2.2.2.2.1) ∧ I 24 0 = 0 ∧ I 24 1 = -1) ∧
  ((∀ k, k < 40 → I (u + 1) k = s.2.2.2.2.1 k) ∧ (∀ k, k < 24 → I (u + 2) k = s.2.2.2.2.2.1 k) ∧ (∀ k, k < 24 → I (u + 3) k = s.2.2.2.2.2.2.1 k) ∧ (∀ k, k < 6 → I (u + 4) k = s.2.2.2.2.2.2.2.1 k)) ∧
  (yFm I (u + 5) (s.2.2.2.2.2.2.2.2.2.2.2.2.1.getD [-1]) ∧ yFm I (u + 8) (s.2.2.2.2.2.2.2.2.2.2.2.2.2.1.getD [-3])) ∧ (yNa J 27 s.2.1 ∧ yNa J 28 s.2.2.1 ∧ yNa J 29 s.2.2.2.1)
theorem yXD_fr {I I' : Nat → Nat → Int32} {J J' : Nat → Nat → Int64} {u : Nat} {s : yPs} (h : yXD I J u s) (hI : ∀ a, a ≠ 24 → a ≠ 25 → I' a = I a) (h24 : ∀ k, k ≠ 8 → k ≠ 10 → I' 24 k = I 24 k) (hJ : ∀ a, a ≠ 25 → J' a = J a) (hu : u = 2 ∨ u = 13) : yXD I' J' u s := by
  unfold yXD yFm yNa
  rw [hI u (by omega) (by omega), hI (u + 1) (by omega) (by omega), hI (u + 2) (by omega) (by omega), hI (u + 3) (by omega) (by omega), hI (u + 4) (by omega) (by omega), hI (u + 5) (by omega) (by omega), hI (u + 5 + 1) (by omega) (by omega), hI (u + 8) (by omega) (by omega), hI (u + 8 + 1) (by omega) (by omega), h24 9 (by decide) (by decide), h24 0 (by decide) (by decide), h24 1 (by decide) (by decide), hJ 27 (by decide), hJ 28 (by decide), hJ 29 (by decide)]
  exact h
theorem yXD_fs {I I' : Nat → Nat → Int32} {J J' : Nat → Nat → Int64} {u : Nat} {s : yPs} (h : yXD I J u s) (hf : yfs I J I' J') (hu : u = 2 ∨ u = 13) : yXD I' J' u s := yXD_fr h (fun a _ h2 => hf.1 a h2) (fun k _ _ => by rw [hf.1 24 (by decide)]) hf.2 hu
theorem yNa_snoc {J : Nat → Nat → Int64} {a : Nat} {L : List (List Nat)} {w : List Nat} (h : yNa J a L) : yNa (zup J a L.length (nJ (ybs 32 (w.map (fun c => c - 96))))) a (L ++ [w]) := by
  intro k v hk
  rw [zup_at]
  by_cases hkl : k = L.length
  · subst hkl
    rw [if_pos rfl]
    rw [List.getElem?_append_right (Nat.le_refl _)] at hk
    simp at hk
    rw [hk]
  · rw [if_neg hkl]
    have hlt : k < L.length := by
      have := (List.getElem?_eq_some_iff.mp hk).1
      simp at this
      omega
    rw [List.getElem?_append_left hlt] at hk
    exact h k v hk
def yXp (I : Nat → Nat → Int32) (J : Nat → Nat → Int64) (B : Nat → Nat) (n u : Nat) (s : yPs) : Prop := yXq I J B n s.1 ∧ yPi n s ∧ yXD I J u s
