/-! tokens: bounds, words, names -/
def yLt (l : List Nat) : Prop := l.length ≤ 8 ∧ ∀ c ∈ l, 97 ≤ c ∧ c ≤ 122
theorem ytok_b {B : Nat → Nat} {n p : Nat} (hp : p ≤ n) : (ytok B n p).2.1 ≤ n ∧ (ytok B n p).2.2.2.2 ≤ n ∧ ((ytok B n p).1 ≠ 0 → p < (ytok B n p).2.2.2.2 ∧ p ≤ (ytok B n p).2.1 ∧ (ytok B n p).2.1 < n) ∧ (ytok B n p).1 ≤ 62 ∧ ((ytok B n p).1 = 2 → (ytok B n p).2.2.1 < 10000) ∧ (3 ≤ (ytok B n p).1 → (ytok B n p).1 ≤ 26 → (ytok B n p).1 = ywk (ytok B n p).2.2.2.1 ∧ yLt (ytok B n p).2.2.2.1) := by
  unfold ytok
  have h0 := ysp_ge (q := yblk) (B := B) (n := n) n p
  have h1 := ysp_le (q := yblk) (B := B) (n := n) n p hp
  generalize ysp yblk B n n p = a at h0 h1
  unfold ytkA
  by_cases han : a < n
  · rw [if_pos han]
    by_cases hl : yltr (B a) = true
    · rw [if_pos hl]
      have h2 := ysp_ge (q := yltr) (B := B) (n := n) n a
      have h3 := ysp_le (q := yltr) (B := B) (n := n) n a h1
      have h4 := ysp_end (q := yltr) (B := B) (n := n) n a (by omega)
      have h5 := ysp_in (q := yltr) (B := B) (n := n) n a
      generalize ysp yltr B n n a = e at h2 h3 h4 h5
      have hae : a < e := by
        by_cases h : a = e
        · subst h; rw [h4 han] at hl; cases hl
        · omega
      have hk := ywk_b (ywd B a e)
      refine ⟨h1, h3, fun _ => ⟨by simp only; omega, h0, han⟩, ?_, ?_, ?_⟩
      · simp only; split <;> omega
      · simp only
        split
        · intro h; cases h
        · intro h; omega
      · simp only
        by_cases h8 : 8 < e - a
        · rw [if_pos h8]; intro h; omega
        · rw [if_neg h8]
          refine fun _ _ => ⟨rfl, by rw [ywd_len]; omega, fun c hc => ?_⟩
          simp [ywd] at hc
          obtain ⟨j, hj, rfl⟩ := hc
          exact yltr_b (h5 (a + j) (by omega) (by omega)).1
    · rw [if_neg hl]
      by_cases hd : ydig (B a) = true
      · rw [if_pos hd]
        have h2 := ysp_ge (q := ydig) (B := B) (n := n) n a
        have h3 := ysp_le (q := ydig) (B := B) (n := n) n a h1
        have h4 := ysp_end (q := ydig) (B := B) (n := n) n a (by omega)
        have h5 := ysp_in (q := ydig) (B := B) (n := n) n a
        generalize ysp ydig B n n a = e at h2 h3 h4 h5
        have hae : a < e := by
          by_cases h : a = e
          · subst h; rw [h4 han] at hd; cases hd
          · omega
        refine ⟨h1, h3, fun _ => ⟨by simp only; omega, h0, han⟩, ?_, ?_, ?_⟩
        · simp only; split <;> omega
        · simp only
          split
          · intro h; cases h
          · rename_i hx
            intro _
            have hx4 : e - a ≤ 4 := by
              by_cases h : 4 < e - a
              · exact absurd (Or.inl h) hx
              · omega
            have := ybs_lt (b := 10) (e - a) ((ywd B a e).map (fun c => c - 48)) (by rw [List.length_map, ywd_len]) (fun c hc => by
              simp [ywd] at hc
              obtain ⟨j, hj, rfl⟩ := hc
              have := ydig_b (h5 (a + j) (by omega) (by omega)).1
              omega)
            exact Nat.lt_of_lt_of_le this (Nat.le_trans (Nat.pow_le_pow_right (by decide) hx4) (by decide))
        · simp only
          split <;> (intro h; omega)
      · rw [if_neg hd]
        refine ⟨h1, by simp only; omega, fun _ => ⟨by simp only; omega, h0, han⟩, ?_, ?_, ?_⟩
        · simp only
          split
          · rename_i h; have := ysgn_b h; omega
          · omega
        · simp only
          split
          · rename_i h; have := ysgn_b h; intro h; omega
          · intro h; cases h
        · simp only
          split
          · rename_i h; have := ysgn_b h; intro h; omega
          · intro h; omega
  · rw [if_neg han]
    exact ⟨Nat.le_refl _, Nat.le_refl _, (fun h => absurd rfl h), Nat.zero_le _, (fun (h : 0 = 2) => by omega), (fun (h : 3 ≤ 0) => by omega)⟩
theorem yWL_lt : ∀ w ∈ yWL, w.length ≤ 8 ∧ ∀ c ∈ w, 97 ≤ c ∧ c ≤ 122 := by decide
theorem yenc_lt {w : List Nat} (h : yLt w) : ybs 256 w < 2 ^ 63 := by
  have h8 : ∀ (n : Nat) (l : List Nat), l.length = n → (∀ c ∈ l, 97 ≤ c ∧ c ≤ 122) → 255 * ybs 256 l + 122 ≤ 122 * 256 ^ n := by
    intro n
    induction n with
    | zero => intro l hl _; have : l = [] := List.eq_nil_of_length_eq_zero hl; subst this; simp [ybs]
    | succ n ih =>
      intro l hl hb
      rcases List.eq_nil_or_concat l with rfl | ⟨m, c, rfl⟩
      · simp at hl
      · rw [List.concat_eq_append] at hl hb ⊢
        rw [ybs_snoc, Nat.pow_succ]
        have h1 := ih m (by simpa using hl) (fun x hx => hb x (by simp [hx]))
        have h2 := hb c (by simp)
        omega
  have h1 := h8 w.length w rfl h.2
  have h9 : 256 ^ w.length ≤ 256 ^ 8 := Nat.pow_le_pow_right (by decide) h.1
  have h10 : (256 : Nat) ^ 8 = 18446744073709551616 := by decide
  rw [h10] at h9
  generalize 256 ^ w.length = z at h1 h9
  omega
theorem yenc_inj {w w' : List Nat} (h : yLt w) (h' : yLt w') : nJ (ybs 256 w) = nJ (ybs 256 w') ↔ w = w' := by
  rw [nJ_inj (yenc_lt h) (yenc_lt h')]
  constructor
  · intro e
    exact ybs_inj w.length w w' rfl (fun c hc => by have := h.2 c hc; omega) (fun c hc => by have := h'.2 c hc; omega) e
  · intro e; rw [e]
theorem yname_lt {w : List Nat} (h : yLt w) : ybs 32 (w.map (fun c => c - 96)) < 2 ^ 63 := by
  have h1 := ybs_lt (b := 32) w.length (w.map (fun c => c - 96)) (by simp) (fun c hc => by
    simp at hc
    obtain ⟨j, hj, rfl⟩ := hc
    have := h.2 j hj
    omega)
  have h9 : 32 ^ w.length ≤ 32 ^ 8 := Nat.pow_le_pow_right (by decide) h.1
  exact Nat.lt_of_lt_of_le h1 (Nat.le_trans h9 (by decide))
theorem ymap_inj : ∀ {w w' : List Nat}, (∀ c ∈ w, 97 ≤ c ∧ c ≤ 122) → (∀ c ∈ w', 97 ≤ c ∧ c ≤ 122) → w.map (fun c => c - 96) = w'.map (fun c => c - 96) → w = w' := by
  intro w
  induction w with
  | nil => intro w' _ _ e; cases w' with
    | nil => rfl
    | cons a b => simp at e
  | cons a w ih => intro w' h h' e; cases w' with
    | nil => simp at e
    | cons b w' =>
      simp at e
      have h1 := h a (by simp)
      have h2 := h' b (by simp)
      rw [show a = b by omega, ih (fun c hc => h c (by simp [hc])) (fun c hc => h' c (by simp [hc])) e.2]
theorem yname_inj {w w' : List Nat} (h : yLt w) (h' : yLt w') : nJ (ybs 32 (w.map (fun c => c - 96))) = nJ (ybs 32 (w'.map (fun c => c - 96))) ↔ w = w' := by
  rw [nJ_inj (yname_lt h) (yname_lt h')]
  constructor
  · intro e
    have b : ∀ {v : List Nat}, yLt v → ∀ c ∈ v.map (fun c => c - 96), 0 < c ∧ c < 32 := fun hv c hc => by
      simp at hc
      obtain ⟨j, hj, rfl⟩ := hc
      have := hv.2 j hj
      omega
    exact ymap_inj h.2 h'.2 (ybs_inj _ _ _ rfl (b h) (b h') e)
  · intro e; rw [e]
theorem ywk_iff {w : List Nat} {k : Nat} (hk : k < 23) : ywk w = 4 + k ↔ w = yWL.getD k [] := by
  have hno0 : ∀ i, i < 23 → ∀ j, j < 23 → yWL.getD i [] = yWL.getD j [] → i = j := by decide +kernel
  have hno : ∀ i j, i < 23 → j < 23 → yWL.getD i [] = yWL.getD j [] → i = j := fun i j hi hj => hno0 i hi j hj
  constructor
  · intro h
    by_cases hex : ∃ j, j < 23 ∧ w = yWL.getD j []
    · obtain ⟨j, hj, e⟩ := hex
      have h1 := yfw_hit yWL 4 j (fun i hi he => by
        have := hno i j (by omega) hj (he.symm.trans e)
        omega) hj e
      have h2 : 4 + j = 4 + k := h1.symm.trans h
      rw [show k = j by omega]
      exact e
    · have h1 := yfw_no (w := w) yWL 4 (fun j hj he => hex ⟨j, hj, he⟩)
      have h2 : 3 = 4 + k := h1.symm.trans h
      omega
  · intro e
    exact yfw_hit yWL 4 k (fun i hi he => by
      have := hno i k (by omega) hk (he.symm.trans e)
      omega) hk e
theorem ywk_3 {w : List Nat} : ywk w = 3 ↔ ¬ w ∈ yWL := by
  constructor
  · intro h hm
    obtain ⟨k, hk, e⟩ := List.getElem_of_mem hm
    have h1 : w = yWL.getD k [] := by rw [List.getD_eq_getElem?_getD, List.getElem?_eq_getElem hk, ← e]; rfl
    have := (ywk_iff (w := w) (k := k) hk).mpr h1
    omega
  · intro h
    exact yfw_no yWL 4 (fun j hj he => h (by
      rw [he, List.getD_eq_getElem?_getD, List.getElem?_eq_getElem hj]
      exact List.getElem_mem hj))
def ychain (v : Int64) : List Int64 → Option Int32
  | [] => some 0
  | c :: r => if lg_cmp v c = 0 then some 1 else ychain v r
theorem ychain_eq (v : Int64) : ∀ L, ychain v L = some (zB (decide (v ∈ L))) := by
  intro L
  induction L with
  | nil => simp [ychain, zB]
  | cons c L ih =>
    unfold ychain
    by_cases h : v = c
    · rw [if_pos ((zlg_eq v c).mpr h)]
      simp [h, zB]
    · rw [if_neg (fun h2 => h ((zlg_eq v c).mp h2)), ih]
      simp [h]
def yown : List Int64 := [500085844323, 1651470187, 125779751232882, 1868850291, 512735736947, 478711081076, 7102839, 1650814564, 31935733760681324, 7566701, 465557353332, 1836020596, 500186639987, 495672716390, 1836019556, 2002873972, 7302244, 131277443786868, 491327153267, 121450625394034, 6385252, 28530, 7237492]
theorem yown_mem (v : Int64) : v ∈ yown ↔ ∃ w ∈ yWL, v = nJ (ybs 256 w) := by
  have h1 : ∀ c ∈ yown, ∃ w ∈ yWL, c = nJ (ybs 256 w) := by decide +kernel
  have h2 : ∀ w ∈ yWL, nJ (ybs 256 w) ∈ yown := by decide +kernel
  exact ⟨h1 v, fun ⟨w, hw, e⟩ => e ▸ h2 w hw⟩
/-- a token of the text at p -/
def yTo (τ : yTk) : Prop := τ.1 ≤ 62 ∧ (τ.1 = 2 → τ.2.2.1 < 10000) ∧ (3 ≤ τ.1 → τ.1 ≤ 26 → τ.1 = ywk τ.2.2.2.1 ∧ yLt τ.2.2.2.1)
theorem ytok_To {B : Nat → Nat} {n p : Nat} (hp : p ≤ n) : yTo (ytok B n p) := ⟨(ytok_b hp).2.2.2.1, (ytok_b hp).2.2.2.2.1, (ytok_b hp).2.2.2.2.2⟩
theorem yso_1 (k : Nat) : yso k = 1 ↔ 3 ≤ k ∧ k ≤ 26 := by
  unfold yso
  split
  · omega
  · split
    · omega
    · split
      · omega
      · split <;> omega
theorem yso_lt {k : Nat} (h : k ≤ 62) : yso k ≤ 62 := by
  unfold yso
  split; omega; split; omega; split; omega; split; omega; exact h
theorem yso_eq {k s : Nat} (h : 27 ≤ s) : yso k = s ↔ k = s := by
  unfold yso
  split
  · omega
  · split
    · omega
    · split
      · omega
      · split <;> omega
theorem yso_2 (k : Nat) : yso k = 2 ↔ k = 2 := by
  unfold yso
  split
  · omega
  · split
    · omega
    · split
      · omega
      · split <;> omega
theorem yso_0 (k : Nat) : yso k = 0 ↔ k = 0 := by
  unfold yso
  split
  · omega
  · split
    · omega
    · split
      · omega
      · split <;> omega
theorem yso_3 {k : Nat} (h : k ≤ 62) : yso k = 3 ↔ k = 1 := by
  unfold yso
  split
  · omega
  · split
    · omega
    · split
      · omega
      · split <;> omega
section ZWord
variable {I : Nat → Nat → Int32} {J : Nat → Nat → Int64} {t u i f s x : Nat} {n : Nat} {τ : yTk}
theorem g_M_isWord (hm : yMt I J n τ) (hτ : yTo τ) {k : Nat} (hk : k < 23) {c : Int64} (hc : c = nJ (ybs 256 (yWL.getD k []))) : f_M_isWord (zs I J (zPt t u i f s x)) 91 c = some (zB (decide (τ.1 = 4 + k))) := by
  have hb := yso_lt hτ.1
  by_cases h1 : 3 ≤ τ.1 ∧ τ.1 ≤ 26
  · have e1 := (yso_1 τ.1).mpr h1
    have hw := hτ.2.2 h1.1 h1.2
    have hj := hm.2.2.2.1 h1.1 h1.2
    have hkl : yLt (yWL.getD k []) := by
      have := yWL_lt (yWL.getD k []) (by
        rw [List.getD_eq_getElem?_getD, List.getElem?_eq_getElem hk]
        exact List.getElem_mem hk)
      exact this
    have e2 : (lg_cmp (nJ (ybs 256 τ.2.2.2.1)) c = 0) = (τ.1 = 4 + k) := by
      rw [hc, zlg_eq, yenc_inj hw.2 hkl, hw.1]
      exact propext (ywk_iff hk).symm
    have h6 : I 91 6 = 1 := by rw [hm.1, e1]; rfl
    by_cases h : τ.1 = 4 + k
    · simp only [f_M_isWord, zg_12, gi_12, zbs, h6, if_true, gj_12, hj, e2, h, zbool_1, decide_true]
      rfl
    · simp only [f_M_isWord, zg_12, gi_12, zbs, h6, if_true, gj_12, hj, e2, h, if_false, zbool_0, decide_false]
      rfl
  · have e1 : ¬ I 91 6 = 1 := by
      rw [hm.1, zeq_1 (by omega), yso_1]
      exact h1
    rw [decide_eq_false (by omega)]
    simp only [f_M_isWord, zg_12, gi_12, zbs, e1, if_false, zbool_0]
    rfl
theorem g_M_isName (hm : yMt I J n τ) (hτ : yTo τ) : f_M_isName (zs I J (zPt t u i f s x)) 91 = some (zB (decide (τ.1 = 3))) := by
  have hb := yso_lt hτ.1
  by_cases h1 : 3 ≤ τ.1 ∧ τ.1 ≤ 26
  · have e1 := (yso_1 τ.1).mpr h1
    have hw := hτ.2.2 h1.1 h1.2
    have hj := hm.2.2.2.1 h1.1 h1.2
    have h6 : I 91 6 = 1 := by rw [hm.1, e1]; rfl
    have ho : f_M_isOwn (zs I J (zPt t u i f s x)) 91 = (ychain (J 91 9) yown).bind zbool := by
      simp only [f_M_isOwn, zg_12, gj_12, zbs]
      rfl
    have hmem : (nJ (ybs 256 τ.2.2.2.1) ∈ yown) = ¬ τ.1 = 3 := by
      rw [yown_mem, hw.1, ywk_3]
      refine propext ⟨fun ⟨w, hw2, e⟩ h => h ?_, fun h => ⟨τ.2.2.2.1, by simpa using h, rfl⟩⟩
      rw [(yenc_inj hw.2 (yWL_lt w hw2)).mp e]
      exact hw2
    rw [ychain_eq, hj] at ho
    simp only [hmem] at ho
    by_cases h : τ.1 = 3
    · simp only [h, not_true_eq_false, decide_false, zbs, zB_b] at ho
      simp only [f_M_isName, zg_12, gi_12, zbs, h6, if_true, ho, zB_0, zbool_1, h, decide_true]
      rfl
    · simp only [h, not_false_eq_true, decide_true, zbs, zB_b] at ho
      simp only [f_M_isName, zg_12, gi_12, zbs, h6, if_true, ho, zB_0, Bool.true_eq_false, if_false, zbool_0, h, decide_false]
      rfl
  · have e1 : ¬ I 91 6 = 1 := by
      rw [hm.1, zeq_1 (by omega), yso_1]
      exact h1
    rw [decide_eq_false (by omega)]
    simp only [f_M_isName, zg_12, gi_12, zbs, e1, if_false, zbool_0]
    rfl
/-- a FAULT: what it is, and where -/
def yFt (c pl : Nat) (I : Nat → Nat → Int32) : Prop := I 91 2 = nI c ∧ I 91 3 = nI pl
theorem g_M_wrong (hm : yMt I J n τ) (hτ : yTo τ) (h0 : I 91 2 = 0) (c : Nat) : f_M_wrong (zs I J (zPt t u i f s x)) 91 (nI c) = some (zs (zup (zup I 91 2 (nI (if τ.1 = 1 then 1 else c))) 91 3 (nI τ.2.1)) J (zPt t u i f s x)) := by
  have hb := yso_lt hτ.1
  have h7 : ∀ v, zup I 91 2 v 91 7 = nI τ.2.1 := fun v => (zup_k _ _ (by decide)).trans hm.2.1
  by_cases h : τ.1 = 1
  · have e : I 91 6 = 3 := by rw [hm.1, h]; rfl
    rw [if_pos h]
    simp only [f_M_wrong, zg_12, gi_12, zbs, h0, Int32.le_refl, if_true, e, f_M_wrong_22, si_12, h7]
    rfl
  · have e : ¬ I 91 6 = 3 := by
      rw [hm.1, eq3 (by omega), yso_3 hτ.1]
      exact h
    rw [if_neg h]
    simp only [f_M_wrong, zg_12, gi_12, zbs, h0, Int32.le_refl, if_true, e, if_false, f_M_wrong_22, si_12, h7]
end ZWord
