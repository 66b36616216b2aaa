/-! the reference reads a text: names, topics -/
def yNb (J : Nat → Nat → Int64) (o : Nat) (L : List (List Nat)) : Prop := ∀ k w, L[k]? = some w → J 93 (o + k) = nJ (ybs 256 w)
theorem yNb_snoc {J : Nat → Nat → Int64} {o : Nat} {L : List (List Nat)} {w : List Nat} (h : yNb J o L) : yNb (zup J 93 (o + L.length) (nJ (ybs 256 w))) o (L ++ [w]) := by
  intro k v hk
  rw [zup_at]
  by_cases hkl : k = L.length
  · subst hkl
    rw [if_pos rfl]
    rw [List.getElem?_append_right (Nat.le_refl _)] at hk
    simp at hk
    rw [hk]
  · rw [if_neg (by omega)]
    have hlt : k < L.length := by
      have := (List.getElem?_eq_some_iff.mp hk).1
      simp at this
      omega
    rw [List.getElem?_append_left hlt] at hk
    exact h k v hk
theorem yNb_ne {J : Nat → Nat → Int64} {o k : Nat} {v : Int64} {L : List (List Nat)} (h : yNb J o L) (hk : k < o ∨ o + L.length ≤ k) : yNb (zup J 93 k v) o L := by
  intro j w hj
  have hlt := (List.getElem?_eq_some_iff.mp hj).1
  rw [zup_k _ _ (by omega)]
  exact h j w hj
/-- the last place of a word is its first, where no word stands twice -/
def ylix (w : List Nat) : List (List Nat) → Nat → Int32 → Int32
  | [], _, v => v
  | a :: L, k, v => ylix w L (k + 1) (if a = w then nI k else v)
theorem ylix_no {w : List Nat} : ∀ (L : List (List Nat)) (k : Nat) (v : Int32), ¬ w ∈ L → ylix w L k v = v := by
  intro L
  induction L with
  | nil => intro k v _; rfl
  | cons a L ih =>
    intro k v h
    simp at h
    unfold ylix
    rw [if_neg (fun e => h.1 e.symm), ih _ _ h.2]
theorem ylix_eq {w : List Nat} : ∀ (L : List (List Nat)) (k : Nat), L.Nodup → ylix w L k (-1) = yoI (yidx w L k) := by
  intro L
  induction L with
  | nil => intro k _; rfl
  | cons a L ih =>
    intro k h
    rw [List.nodup_cons] at h
    unfold ylix yidx
    by_cases e : a = w
    · rw [if_pos e, if_pos e]
      subst e
      rw [ylix_no L _ _ h.1]
      rfl
    · rw [if_neg e, if_neg e]
      exact ih (k + 1) h.2
section ZM2
variable {I : Nat → Nat → Int32} {J : Nat → Nat → Int64} {t u i f s x : Nat} {B : Nat → Nat} {n p : Nat}
theorem g_M_find {o : Nat} {L : List (List Nat)} (ho : o + L.length ≤ 20) (hLt : ∀ w ∈ L, yLt w) (hN : yNb J o L) (hnd : L.Nodup) {w : List Nat} (hw : yLt w) (hJ : J 91 9 = nJ (ybs 256 w)) : f_M_find (zs I J (zPt t u i f s x)) 91 (nI o) (nI L.length) = some (yoI (yidx w L 0)) := by
  have loop : ∀ (d k fuel : Nat) (v : Int32), k + d = L.length → d < fuel → f_M_find_5L fuel (zs I J (zPt t u i f s x)) 91 (nI o) (nI L.length) v (nI k) = some (ylix w (L.drop k) k v) := by
    intro d
    induction d with
    | zero =>
      intro k fuel v hk hf
      obtain ⟨m, rfl⟩ : ∃ m, fuel = m + 1 := ⟨fuel - 1, by omega⟩
      obtain rfl : k = L.length := by omega
      rw [f_M_find_5L, List.drop_length]
      simp (disch := (first | omega | assumption)) only [f_M_find_5, gj_12, gp_12_10, aj_93, zbs, nI_add, pk_mul, znI_add1, znI_sub1, znI_subm, zle_nI, zlt_nI, zeq_nI, zle_0, zeq_0, zlt_0, zeq_m, zeq_1, zge_0, zbt0, zbt1, zB_0, zB_1, zB_b, zbool_0, zbool_1, ↓reduceIte, Nat.le_refl]
      rfl
    | succ d ih =>
      intro k fuel v hk hf
      obtain ⟨m, rfl⟩ : ∃ m, fuel = m + 1 := ⟨fuel - 1, by omega⟩
      have hkl : k < L.length := by omega
      have hle : ¬ L.length ≤ k := by omega
      have hget : L[k]? = some L[k] := List.getElem?_eq_getElem hkl
      have haj := zaj (I := I) (J := J) (P := zPt t u i f s x) zl_93 (by decide) (show o + k < 20 by omega)
      have hnk := hN k _ hget
      rw [hnk] at haj
      have hdrop : L.drop k = L[k] :: L.drop (k + 1) := List.drop_eq_getElem_cons hkl
      have hkLt := hLt L[k] (List.getElem_mem hkl)
      have hcmp : (lg_cmp (nJ (ybs 256 L[k])) (nJ (ybs 256 w)) = 0) = (L[k] = w) := by
        rw [zlg_eq, yenc_inj hkLt hw]
      rw [f_M_find_5L, hdrop]
      unfold ylix
      rw [← ih (k + 1) m _ (by omega) (by omega)]
      by_cases he : L[k] = w
      · rw [if_pos he]
        simp (disch := (first | omega | assumption)) only [f_M_find_5, gj_12, gp_12_10, aj_93, zbs, nI_add, pk_mul, znI_add1, znI_sub1, znI_subm, zle_nI, zlt_nI, zeq_nI, zle_0, zeq_0, zlt_0, zeq_m, zeq_1, zge_0, zbt0, zbt1, zB_0, zB_1, zB_b, zbool_0, zbool_1, ↓reduceIte, hle, haj, hJ, hcmp]
        rw [if_pos he]
      · rw [if_neg he]
        simp (disch := (first | omega | assumption)) only [f_M_find_5, gj_12, gp_12_10, aj_93, zbs, nI_add, pk_mul, znI_add1, znI_sub1, znI_subm, zle_nI, zlt_nI, zeq_nI, zle_0, zeq_0, zlt_0, zeq_m, zeq_1, zge_0, zbt0, zbt1, zB_0, zB_1, zB_b, zbool_0, zbool_1, ↓reduceIte, hle, haj, hJ, hcmp, he]
  have := loop L.length 0 zfu (-1) (by omega) (zfu_lt (by omega))
  rw [List.drop_zero, ylix_eq L 0 hnd] at this
  have : f_M_find_5L zfu (zs I J (zPt t u i f s x)) 91 (nI o) (nI L.length) (-1) 0 = some (yoI (yidx w L 0)) := this
  simp (disch := (first | omega | assumption)) only [f_M_find, zg_12, zbs, nI_add, pk_mul, znI_add1, znI_sub1, znI_subm, zle_nI, zlt_nI, zeq_nI, zle_0, zeq_0, zlt_0, zeq_m, zeq_1, zge_0, zbt0, zbt1, zB_0, zB_1, zB_b, zbool_0, zbool_1, ↓reduceIte, this]
theorem g_M_find_any {o c : Nat} (ho : o + c ≤ 20) : ∃ r : Option Nat, (∀ k, r = some k → k < c) ∧ f_M_find (zs I J (zPt t u i f s x)) 91 (nI o) (nI c) = some (yoI r) := by
  have loop : ∀ (d k fuel : Nat) (v : Option Nat), k + d = c → d < fuel → (∀ k, v = some k → k < c) → ∃ r : Option Nat, (∀ k, r = some k → k < c) ∧ f_M_find_5L fuel (zs I J (zPt t u i f s x)) 91 (nI o) (nI c) (yoI v) (nI k) = some (yoI r) := by
    intro d
    induction d with
    | zero =>
      intro k fuel v hk hf hv
      obtain ⟨m, rfl⟩ : ∃ m, fuel = m + 1 := ⟨fuel - 1, by omega⟩
      obtain rfl : k = c := by omega
      refine ⟨v, hv, ?_⟩
      rw [f_M_find_5L]
      simp (disch := (first | omega | assumption)) only [f_M_find_5, gj_12, gp_12_10, aj_93, zbs, nI_add, pk_mul, znI_add1, znI_sub1, znI_subm, zle_nI, zlt_nI, zeq_nI, zle_0, zeq_0, zlt_0, zeq_m, zeq_1, zge_0, zbt0, zbt1, zB_0, zB_1, zB_b, zbool_0, zbool_1, ↓reduceIte, Nat.le_refl]
    | succ d ih =>
      intro k fuel v hk hf hv
      obtain ⟨m, rfl⟩ : ∃ m, fuel = m + 1 := ⟨fuel - 1, by omega⟩
      have hle : ¬ c ≤ k := by omega
      have haj := zaj (I := I) (J := J) (P := zPt t u i f s x) zl_93 (by decide) (show o + k < 20 by omega)
      rw [f_M_find_5L]
      by_cases hc : lg_cmp (J 93 (o + k)) (J 91 9) = 0
      · obtain ⟨r, h1, h2⟩ := ih (k + 1) m (some k) (by omega) (by omega) (fun j hj => by cases hj; omega)
        refine ⟨r, h1, ?_⟩
        rw [← h2]
        have hy : yoI (some k) = nI k := rfl
        rw [hy]
        simp (disch := (first | omega | assumption)) only [f_M_find_5, gj_12, gp_12_10, aj_93, zbs, nI_add, pk_mul, znI_add1, znI_sub1, znI_subm, zle_nI, zlt_nI, zeq_nI, zle_0, zeq_0, zlt_0, zeq_m, zeq_1, zge_0, zbt0, zbt1, zB_0, zB_1, zB_b, zbool_0, zbool_1, ↓reduceIte, hle, haj, hc]
      · obtain ⟨r, h1, h2⟩ := ih (k + 1) m v (by omega) (by omega) hv
        refine ⟨r, h1, ?_⟩
        rw [← h2]
        simp (disch := (first | omega | assumption)) only [f_M_find_5, gj_12, gp_12_10, aj_93, zbs, nI_add, pk_mul, znI_add1, znI_sub1, znI_subm, zle_nI, zlt_nI, zeq_nI, zle_0, zeq_0, zlt_0, zeq_m, zeq_1, zge_0, zbt0, zbt1, zB_0, zB_1, zB_b, zbool_0, zbool_1, ↓reduceIte, hle, haj, hc]
  obtain ⟨r, h1, h2⟩ := loop c 0 zfu none (by omega) (zfu_lt (by omega)) (fun k h => by cases h)
  refine ⟨r, h1, ?_⟩
  have h2 : f_M_find_5L zfu (zs I J (zPt t u i f s x)) 91 (nI o) (nI c) (-1) 0 = some (yoI r) := h2
  simp (disch := (first | omega | assumption)) only [f_M_find, zg_12, zbs, nI_add, pk_mul, znI_add1, znI_sub1, znI_subm, zle_nI, zlt_nI, zeq_nI, zle_0, zeq_0, zlt_0, zeq_m, zeq_1, zge_0, zbt0, zbt1, zB_0, zB_1, zB_b, zbool_0, zbool_1, ↓reduceIte, h2]
theorem m_new {o : Nat} {L : List (List Nat)} (ho : o + L.length < 20) (hLt : ∀ w ∈ L, yLt w) (hN : yNb J o L) (hnd : L.Nodup) (h : yMq I J B n p) (hk : ¬ (ytok B n p).1 = 1) (h0 : I 91 2 = 0) (hB : yBm I) : match ynew (ytok B n) L (ytok B n p).2.2.2.2 with
    | .error (c, pl) => ∃ I' J', f_M_newName (zs I J (zPt t u i f s x)) 91 (nI o) (nI L.length) = some (zs I' J' (zPt t u i f s x)) ∧ yEM (zPt t u i f s x) I J (zs I' J' (zPt t u i f s x)) c pl ∧ (¬ I' 91 2 = 0 ∧ ¬ I' 91 2 ≤ 0)
    | .ok a => ∃ I' J', f_M_newName (zs I J (zPt t u i f s x)) 91 (nI o) (nI L.length) = some (zs I' J' (zPt t u i f s x)) ∧ zfr yTm I I' ∧ J' 93 = zup J 93 (o + L.length) (nJ (ybs 256 a.1)) 93 ∧ (∀ b, b ≠ 91 → b ≠ 93 → J' b = J b) ∧ yMq I' J' B n a.2 := by
  obtain ⟨I1, J1, a1, a2, a3⟩ := m_tok (t := t) (u := u) (i := i) (f := f) (s := s) (x := x) h hk
  have g0 : I1 91 2 = 0 := (a2.1 91 2 rfl).trans h0
  have gB := yBm_fm hB a2
  have l0 : I1 91 2 ≤ 0 := by rw [g0]; decide
  have hτ := ytok_To (B := B) a3.2.2
  have nm := g_M_isName (J := J1) (t := t) (u := u) (i := i) (f := f) (s := s) (x := x) a3.2.1 hτ
  have hN1 : yNb J1 o L := fun k w hw => by rw [a2.2 93 (by decide)]; exact hN k w hw
  unfold ynew
  by_cases hq : (ytok B n (ytok B n p).2.2.2.2).1 = 3
  · rw [if_pos hq]
    rw [decide_eq_true hq] at nm
    have hw := hτ.2.2 (by omega) (by omega)
    have hJ := a3.2.1.2.2.2.1 (by omega) (by omega)
    have hf := g_M_find (I := I1) (t := t) (u := u) (i := i) (f := f) (s := s) (x := x) (by omega) hLt hN1 hnd hw.2 hJ
    by_cases hin : (ytok B n (ytok B n p).2.2.2.2).2.2.2.1 ∈ L
    · rw [if_pos hin]
      cases hx : yidx (ytok B n (ytok B n p).2.2.2.2).2.2.2.1 L 0 with
      | none => exact absurd hin ((yidx_none L 0).mp hx)
      | some k =>
        rw [hx] at hf
        have hk2 := yidx_lt L 0 k hx
        have hf : f_M_find (zs I1 J1 (zPt t u i f s x)) 91 (nI o) (nI L.length) = some (nI k) := hf
        obtain ⟨I', e1, e2, e3⟩ := m_err (t := t) (u := u) (i := i) (f := f) (s := s) (x := x) (c := 3) a3 g0 gB (by omega) (by decide)
        have e1 : f_M_wrong (zs I1 J1 (zPt t u i f s x)) 91 3 = some (zs I' J1 (zPt t u i f s x)) := e1
        refine ⟨I', J1, ?_, yEM_fr (yfM_fm a2) e2, e3⟩
        simp (disch := (first | omega | assumption)) only [f_M_newName, f_M_newName_33, zg_12, gi_12, gj_12, gp_12_10, wj_93, zbs, nI_add, pk_mul, znI_add1, znI_sub1, znI_subm, zle_nI, zlt_nI, zeq_nI, zle_0, zeq_0, zlt_0, zeq_m, zeq_1, zge_0, zbt0, zbt1, zB_0, zB_1, zB_b, zbool_0, zbool_1, ↓reduceIte, a1, nm, hf, e1, e3.2, Bool.true_eq_false]
    · rw [if_neg hin]
      rw [(yidx_none L 0).mpr hin] at hf
      have hf : f_M_find (zs I1 J1 (zPt t u i f s x)) 91 (nI o) (nI L.length) = some (-1) := hf
      have hm : (-1 : Int32) < 0 := by decide
      have hwj := zwj (I := I1) (J := J1) (P := zPt t u i f s x) (w := nJ (ybs 256 (ytok B n (ytok B n p).2.2.2.2).2.2.2.1)) zl_93 (by decide) (show o + L.length < 20 by omega)
      have a3' : yMq I1 (zup J1 93 (o + L.length) (nJ (ybs 256 (ytok B n (ytok B n p).2.2.2.2).2.2.2.1))) B n (ytok B n p).2.2.2.2 := yMq_fr a3 rfl (fun _ _ _ => rfl) (by rw [zup_ne _ _ _ (by decide)])
      obtain ⟨I2, J2, b1, b2, b3⟩ := m_tok (t := t) (u := u) (i := i) (f := f) (s := s) (x := x) a3' (by omega)
      refine ⟨I2, J2, ?_, zfr_trans a2.1 b2.1, ?_, fun b h1 h2 => ?_, b3⟩
      · simp (disch := (first | omega | assumption)) only [f_M_newName, f_M_newName_33, zg_12, gi_12, gj_12, gp_12_10, wj_93, zbs, nI_add, pk_mul, znI_add1, znI_sub1, znI_subm, zle_nI, zlt_nI, zeq_nI, zle_0, zeq_0, zlt_0, zeq_m, zeq_1, zge_0, zbt0, zbt1, zB_0, zB_1, zB_b, zbool_0, zbool_1, ↓reduceIte, a1, nm, hf, hm, l0, Int32.le_refl, hJ, hwj, b1, Bool.true_eq_false]
      · rw [b2.2 93 (by decide), zup_self, zup_self, a2.2 93 (by decide)]
      · rw [b2.2 b h1, zup_ne _ _ _ h2, a2.2 b h1]
  · rw [if_neg hq]
    rw [decide_eq_false hq] at nm
    obtain ⟨I', c, pl, e1, e2, e3, e4⟩ := m_ref (α := List Nat × Nat) (t := t) (u := u) (i := i) (f := f) (s := s) (x := x) a3 g0 gB
    rw [e2]
    refine ⟨I', J1, ?_, yEM_fr (yfM_fm a2) e3, e4⟩
    simp (disch := (first | omega | assumption)) only [f_M_newName, f_M_newName_33, zg_12, gi_12, gj_12, gp_12_10, wj_93, zbs, nI_add, pk_mul, znI_add1, znI_sub1, znI_subm, zle_nI, zlt_nI, zeq_nI, zle_0, zeq_0, zlt_0, zeq_m, zeq_1, zge_0, zbt0, zbt1, zB_0, zB_1, zB_b, zbool_0, zbool_1, ↓reduceIte, a1, nm, e1, e4.2]
theorem ygsh : ∀ g, g < 16 → ∀ k, k < 4 → ((nI g >>> (nI k &&& 31)) &&& 1 = 1) = (g.testBit k = true) := by
  have h : ∀ g, g < 16 → ∀ k, k < 4 → decide ((nI g >>> (nI k &&& 31)) &&& 1 = 1) = g.testBit k := by decide +kernel
  intro g hg k hk
  have := h g hg k hk
  rw [← this, decide_eq_true_eq]
theorem m_top {L : List (List Nat)} (hL : L.length ≤ 4) (h34 : I 91 34 = nI L.length) (hLt : ∀ w ∈ L, yLt w) (hN : yNb J 0 L) (hnd : L.Nodup) {g : Nat} (hg : g < 16) (h : yMq I J B n p) (h0 : I 91 2 = 0) (hB : yBm I) : match ytop (ytok B n) L g p with
    | .error (c, pl) => ∃ v I' J', f_M_topic (zs I J (zPt t u i f s x)) 91 (nI g) = some (nI v, (zs I' J' (zPt t u i f s x))) ∧ v < 4 ∧ yEM (zPt t u i f s x) I J (zs I' J' (zPt t u i f s x)) c pl ∧ (¬ I' 91 2 = 0 ∧ ¬ I' 91 2 ≤ 0)
    | .ok a => ∃ I' J', f_M_topic (zs I J (zPt t u i f s x)) 91 (nI g) = some (nI a.1, (zs I' J' (zPt t u i f s x))) ∧ yfm I J I' J' ∧ yMq I' J' B n a.2 := by
  have l0 : I 91 2 ≤ 0 := by rw [h0]; decide
  have hτ := ytok_To (B := B) h.2.2
  have nm := g_M_isName (J := J) (t := t) (u := u) (i := i) (f := f) (s := s) (x := x) h.2.1 hτ
  have z0 : (nI 0 : Int32) = 0 := rfl
  unfold ytop
  by_cases hq : (ytok B n p).1 = 3
  · rw [if_pos hq]
    rw [decide_eq_true hq] at nm
    have hw := hτ.2.2 (by omega) (by omega)
    have hJ := h.2.1.2.2.2.1 (by omega) (by omega)
    have hf := g_M_find (I := I) (t := t) (u := u) (i := i) (f := f) (s := s) (x := x) (o := 0) (by omega) hLt hN hnd hw.2 hJ
    cases hx : yidx (ytok B n p).2.2.2.1 L 0 with
    | none =>
      rw [hx] at hf
      have hf : f_M_find (zs I J (zPt t u i f s x)) 91 0 (nI L.length) = some (-1) := hf
      have hm : ¬ (0 : Int32) ≤ -1 := by decide
      obtain ⟨I', e1, e2, e3⟩ := m_err (t := t) (u := u) (i := i) (f := f) (s := s) (x := x) (c := 5) h h0 hB (by omega) (by decide)
      have e1 : f_M_wrong (zs I J (zPt t u i f s x)) 91 5 = some (zs I' J (zPt t u i f s x)) := e1
      refine ⟨0, I', J, ?_, by decide, e2, e3⟩
      simp (disch := (first | omega | assumption)) only [f_M_topic, f_M_topic_60, f_M_topic_71, zg_12, gi_12, zbs, nI_add, pk_mul, znI_add1, znI_sub1, znI_subm, zle_nI, zlt_nI, zeq_nI, zle_0, zeq_0, zlt_0, zeq_m, zeq_1, zge_0, zbt0, zbt1, zB_0, zB_1, zB_b, zbool_0, zbool_1, ↓reduceIte, l0, Int32.le_refl, h34, hf, nm, hm, e1, e3.1, Bool.true_eq_false]
      rfl
    | some k =>
      rw [hx] at hf
      have hk2 := yidx_lt L 0 k hx
      have hf : f_M_find (zs I J (zPt t u i f s x)) 91 0 (nI L.length) = some (nI k) := hf
      have hge : (0 : Int32) ≤ nI k := nI_pos' (by omega)
      have hsh := ygsh g hg k (by omega)
      simp only
      by_cases hb : g.testBit k = true
      · rw [if_pos hb]
        obtain ⟨I', e1, e2, e3⟩ := m_err (t := t) (u := u) (i := i) (f := f) (s := s) (x := x) (c := 3) h h0 hB (by omega) (by decide)
        have e1 : f_M_wrong (zs I J (zPt t u i f s x)) 91 3 = some (zs I' J (zPt t u i f s x)) := e1
        refine ⟨k, I', J, ?_, by omega, e2, e3⟩
        simp (disch := (first | omega | assumption)) only [f_M_topic, f_M_topic_60, f_M_topic_71, zg_12, gi_12, zbs, nI_add, pk_mul, znI_add1, znI_sub1, znI_subm, zle_nI, zlt_nI, zeq_nI, zle_0, zeq_0, zlt_0, zeq_m, zeq_1, zge_0, zbt0, zbt1, zB_0, zB_1, zB_b, zbool_0, zbool_1, ↓reduceIte, l0, Int32.le_refl, h34, hf, nm, hge, hsh, hb, e1, e3.1, Bool.true_eq_false]
      · rw [if_neg hb]
        obtain ⟨I', J', e1, e2, e3⟩ := m_tok (t := t) (u := u) (i := i) (f := f) (s := s) (x := x) h (by omega)
        refine ⟨I', J', ?_, e2, e3⟩
        simp (disch := (first | omega | assumption)) only [f_M_topic, f_M_topic_60, f_M_topic_71, zg_12, gi_12, zbs, nI_add, pk_mul, znI_add1, znI_sub1, znI_subm, zle_nI, zlt_nI, zeq_nI, zle_0, zeq_0, zlt_0, zeq_m, zeq_1, zge_0, zbt0, zbt1, zB_0, zB_1, zB_b, zbool_0, zbool_1, ↓reduceIte, l0, Int32.le_refl, h34, hf, nm, hge, hsh, hb, h0, e1, Bool.true_eq_false, Bool.false_eq_true]
  · rw [if_neg hq]
    rw [decide_eq_false hq] at nm
    obtain ⟨I', c, pl, e1, e2, e3, e4⟩ := m_ref (α := Nat × Nat) (t := t) (u := u) (i := i) (f := f) (s := s) (x := x) h h0 hB
    rw [e2]
    obtain ⟨r, hr, hf⟩ := g_M_find_any (I := I) (J := J) (t := t) (u := u) (i := i) (f := f) (s := s) (x := x) (o := 0) (c := L.length) (by omega)
    have hf : f_M_find (zs I J (zPt t u i f s x)) 91 0 (nI L.length) = some (yoI r) := hf
    cases r with
    | none =>
      have hm : ¬ (0 : Int32) ≤ yoI none := by decide
      refine ⟨0, I', J, ?_, by decide, e3, e4⟩
      simp (disch := (first | omega | assumption)) only [f_M_topic, f_M_topic_60, f_M_topic_71, zg_12, gi_12, zbs, nI_add, pk_mul, znI_add1, znI_sub1, znI_subm, zle_nI, zlt_nI, zeq_nI, zle_0, zeq_0, zlt_0, zeq_m, zeq_1, zge_0, zbt0, zbt1, zB_0, zB_1, zB_b, zbool_0, zbool_1, ↓reduceIte, l0, Int32.le_refl, h34, hf, nm, hm, e1, e4.1]
      rfl
    | some k =>
      have hk := hr k rfl
      have hf : f_M_find (zs I J (zPt t u i f s x)) 91 0 (nI L.length) = some (nI k) := hf
      have hge : (0 : Int32) ≤ nI k := nI_pos' (by omega)
      refine ⟨k, I', J, ?_, by omega, e3, e4⟩
      simp (disch := (first | omega | assumption)) only [f_M_topic, f_M_topic_60, f_M_topic_71, zg_12, gi_12, zbs, nI_add, pk_mul, znI_add1, znI_sub1, znI_subm, zle_nI, zlt_nI, zeq_nI, zle_0, zeq_0, zlt_0, zeq_m, zeq_1, zge_0, zbt0, zbt1, zB_0, zB_1, zB_b, zbool_0, zbool_1, ↓reduceIte, l0, Int32.le_refl, h34, hf, nm, hge, e1, e4.1]
end ZM2
