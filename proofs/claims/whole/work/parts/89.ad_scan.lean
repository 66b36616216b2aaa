/-! the class's scanner -/
def yby (c : Nat) : Int32 := zbyt (nI c)
set_option maxRecDepth 100000 in
theorem yc_blank : ∀ c, c < 256 → f_C_isBlank (yby c) = some (zB (yblk c)) := by decide +kernel
set_option maxRecDepth 100000 in
theorem yc_letter : ∀ c, c < 256 → f_C_isLetter (yby c) = some (zB (yltr c)) := by decide +kernel
set_option maxRecDepth 100000 in
theorem yc_digit : ∀ c, c < 256 → f_C_isDigit (yby c) = some (zB (ydig c)) := by decide +kernel
set_option maxRecDepth 100000 in
theorem yc_sign : ∀ c, c < 256 → (f_J_indexOf0 2 (zchr (yby c &&& 255))).map (fun v => decide (v < 0)) = some (!ysgn c) := by decide +kernel
set_option maxRecDepth 100000 in
theorem yc_pos : ∀ c, c < 128 → yby c = nI c := by decide +kernel
set_option maxRecDepth 100000 in
theorem yc_chr : ∀ k, k < 23 → ∀ j, j < 8 → f_J_charAt0 1 (nI (8 * k + j)) = some (nI (((yWL.getD k []).getD j 32))) := by decide +kernel
theorem yc_len : f_J_length0 1 = some 184 := by decide +kernel
theorem yltr_b {c : Nat} (h : yltr c = true) : 97 ≤ c ∧ c ≤ 122 := by simpa [yltr] using h
theorem ydig_b {c : Nat} (h : ydig c = true) : 48 ≤ c ∧ c ≤ 57 := by simpa [ydig] using h
theorem ysgn_b {c : Nat} (h : ysgn c = true) : 37 ≤ c ∧ c ≤ 62 := by
  simp [ysgn] at h
  omega
/-- what the class's scanner shows of a token -/
def yXt (I : Nat → Nat → Int32) (J : Nat → Nat → Int64) (n : Nat) (τ : yTk) : Prop :=
  I 25 0 = nI τ.1 ∧ I 25 1 = nI τ.2.1 ∧ (τ.1 = 2 → I 25 2 = nI τ.2.2.1) ∧ (τ.1 = 3 → J 25 3 = nJ (ybs 32 (τ.2.2.2.1.map (fun c => c - 96)))) ∧ (τ.1 ≠ 1 → I 25 6 = nI τ.2.2.2.2) ∧ I 25 5 = nI n
/-- only the scanner is otherwise -/
def yfs (I : Nat → Nat → Int32) (J : Nat → Nat → Int64) (I' : Nat → Nat → Int32) (J' : Nat → Nat → Int64) : Prop := (∀ a, a ≠ 25 → I' a = I a) ∧ (∀ a, a ≠ 25 → J' a = J a)
theorem yfs_refl (I : Nat → Nat → Int32) (J : Nat → Nat → Int64) : yfs I J I J := ⟨fun _ _ => rfl, fun _ _ => rfl⟩
theorem yfs_trans {I I' I'' : Nat → Nat → Int32} {J J' J'' : Nat → Nat → Int64} (h : yfs I J I' J') (h2 : yfs I' J' I'' J'') : yfs I J I'' J'' := ⟨fun a ha => (h2.1 a ha).trans (h.1 a ha), fun a ha => (h2.2 a ha).trans (h.2 a ha)⟩
theorem yfs_I {I I' : Nat → Nat → Int32} {J J' : Nat → Nat → Int64} {k : Nat} {v : Int32} (h : yfs I J I' J') : yfs I J (zup I' 25 k v) J' := ⟨fun a ha => (zup_ne _ _ _ ha).trans (h.1 a ha), h.2⟩
theorem yfs_J {I I' : Nat → Nat → Int32} {J J' : Nat → Nat → Int64} {k : Nat} {v : Int64} (h : yfs I J I' J') : yfs I J I' (zup J' 25 k v) := ⟨h.1, fun a ha => (zup_ne _ _ _ ha).trans (h.2 a ha)⟩
def yTp (I : Nat → Nat → Int32) (B : Nat → Nat) (n : Nat) : Prop := n ≤ 1600 ∧ (∀ k, B k < 256) ∧ ∀ k, k < n → I 1 k = yby (B k)
theorem yTp_fs {I I' : Nat → Nat → Int32} {J J' : Nat → Nat → Int64} {B : Nat → Nat} {n : Nat} (h : yTp I B n) (hf : yfs I J I' J') : yTp I' B n := ⟨h.1, h.2.1, fun k hk => by rw [hf.1 1 (by decide)]; exact h.2.2 k hk⟩
theorem ywd_snoc (B : Nat → Nat) {p k : Nat} (h : p ≤ k) : ywd B p (k + 1) = ywd B p k ++ [B k] := by
  unfold ywd
  rw [show k + 1 - p = k - p + 1 by omega, List.range_succ, List.map_append]
  simp [show p + (k - p) = k by omega]
theorem ywd_len (B : Nat → Nat) (p e : Nat) : (ywd B p e).length = e - p := by simp [ywd]
theorem ywd_get {B : Nat → Nat} {p e j : Nat} (h : j < e - p) : (ywd B p e)[j]? = some (B (p + j)) := by simp [ywd, h]
theorem ywd_0 (B : Nat → Nat) (a : Nat) : ywd B a a = [] := by simp [ywd]
theorem yj0 (B : Nat → Nat) (a : Nat) : (0 : Int64) = nJ (ybs 32 ((ywd B a a).map (fun c => c - 96))) := by rw [ywd_0]; rfl
theorem yi0 (B : Nat → Nat) (a : Nat) : (0 : Int32) = nI (ybs 10 ((ywd B a a).map (fun c => c - 48))) := by rw [ywd_0]; rfl
theorem nJ_hom (b a c : Nat) : nJ a * nJ b + nJ c = nJ (a * b + c) := by
  unfold nJ
  rw [Int64.ofNat_add, Int64.ofNat_mul]
theorem ypad_eq {l m : List Nat} (hl : l.length ≤ 8) (hm : m.length ≤ 8) (hl2 : ∀ c ∈ l, c ≠ 32) (hm2 : ∀ c ∈ m, c ≠ 32) (h : ∀ j, j < 8 → l.getD j 32 = m.getD j 32) : l = m := by
  apply List.ext_getElem?
  intro j
  by_cases hj : j < 8
  · have h1 := h j hj
    rw [List.getD_eq_getElem?_getD, List.getD_eq_getElem?_getD] at h1
    cases e1 : l[j]? with
    | none =>
      cases e2 : m[j]? with
      | none => rfl
      | some c =>
        rw [e1, e2] at h1
        exact absurd h1.symm (hm2 c (List.mem_of_getElem? e2))
    | some c =>
      cases e2 : m[j]? with
      | none =>
        rw [e1, e2] at h1
        exact absurd h1 (hl2 c (List.mem_of_getElem? e1))
      | some c' =>
        rw [e1, e2] at h1
        exact congrArg some h1
  · rw [List.getElem?_eq_none (by omega), List.getElem?_eq_none (by omega)]
theorem yfw_hit {w : List Nat} : ∀ (L : List (List Nat)) (c k : Nat), (∀ j, j < k → ¬ w = L.getD j []) → k < L.length → w = L.getD k [] → yfw w L c = c + k := by
  intro L
  induction L with
  | nil => intro c k _ h; simp at h
  | cons a L ih =>
    intro c k h hk e
    cases k with
    | zero => unfold yfw; rw [if_pos (by simpa using e)]; rfl
    | succ k =>
      unfold yfw
      rw [if_neg (by simpa using h 0 (by omega)), ih (c + 1) k (fun j hj => by simpa using h (j + 1) (by omega)) (by simpa using hk) (by simpa using e)]
      omega
theorem yfw_no {w : List Nat} : ∀ (L : List (List Nat)) (c : Nat), (∀ j, j < L.length → ¬ w = L.getD j []) → yfw w L c = 3 := by
  intro L
  induction L with
  | nil => intro c _; rfl
  | cons a L ih =>
    intro c h
    unfold yfw
    rw [if_neg (by simpa using h 0 (by simp)), ih (c + 1) (fun j hj => by simpa using h (j + 1) (by simpa using hj))]
def ycs (C : Nat → Bool) (k s : Nat) : Nat := if C k = true then s + 1 else s
theorem ycs_all {C : Nat → Bool} : ∀ (d k s : Nat), zrn (ycs C) d k s ≤ s + d ∧ (zrn (ycs C) d k s = s + d ↔ ∀ j, k ≤ j → j < k + d → C j = true) := by
  intro d
  induction d with
  | zero => intro k s; exact ⟨Nat.le_refl _, ⟨fun _ j h1 h2 => by omega, fun _ => rfl⟩⟩
  | succ d ih =>
    intro k s
    have h := ih (k + 1) (ycs C k s)
    have e : zrn (ycs C) (d + 1) k s = zrn (ycs C) d (k + 1) (ycs C k s) := rfl
    rw [e]
    cases hc : C k with
    | true =>
      have e2 : ycs C k s = s + 1 := by simp [ycs, hc]
      rw [e2] at h ⊢
      refine ⟨by omega, ⟨fun h1 j h2 h3 => ?_, fun h1 => ?_⟩⟩
      · by_cases hj : j = k
        · rw [hj]; exact hc
        · exact h.2.mp (by omega) j (by omega) (by omega)
      · have := h.2.mpr (fun j h2 h3 => h1 j (by omega) (by omega))
        omega
    | false =>
      have e2 : ycs C k s = s := by simp [ycs, hc]
      rw [e2] at h ⊢
      refine ⟨by omega, ⟨fun h1 => by omega, fun h1 => ?_⟩⟩
      have := h1 k (Nat.le_refl _) (by omega)
      rw [hc] at this
      cases this
theorem yWL_ok : ∀ k, k < 23 → (yWL.getD k []).length ≤ 8 ∧ (∀ c ∈ yWL.getD k [], c ≠ 32) ∧ ∀ j, j < 8 → (yWL.getD k []).getD j 32 < 128 := by decide
section ZScan
variable {I : Nat → Nat → Int32} {J : Nat → Nat → Int64} {t u i f s : Nat} {B : Nat → Nat} {n : Nat}
/-- which word it is -/
theorem x_wordKind {a e : Nat} (hT : yTp I B n) (h1 : I 25 1 = nI a) (he : e ≤ n) (hae : a ≤ e) (h8 : e - a ≤ 8) (hl : ∀ k, a ≤ k → k < e → yltr (B k) = true) : f_C_wordKind (zs I J (zPt t u i f s 1)) 25 (nI (e - a)) = some (nI (ywk (ywd B a e))) := by
  have hn := hT.1
  have hwl : (ywd B a e).length = e - a := ywd_len B a e
  have hwb : ∀ c ∈ ywd B a e, c ≠ 32 := fun c hc => by
    simp [ywd] at hc
    obtain ⟨j, hj, rfl⟩ := hc
    have := yltr_b (hl (a + j) (by omega) (by omega))
    omega
  have inner : ∀ (k4 : zSt → Nat → Int32 → Int32 → Int32 → Option (Int32)) (k : Nat), k < 23 → f_C_wordKind_22L k4 zfu (zs I J (zPt t u i f s 1)) 25 (nI (e - a)) (nI (4 + k)) (nI (8 * k)) 0 0 = f_C_wordKind_77 k4 (zs I J (zPt t u i f s 1)) 25 (nI (e - a)) (nI (4 + k)) (nI (8 * k)) (nI (zrn (ycs (fun j => (ywd B a e).getD j 32 == (yWL.getD k []).getD j 32)) 8 0 0)) := by
    intro k4 k hk
    refine zforF (fun fuel (c : Nat) j => f_C_wordKind_22L k4 fuel (zs I J (zPt t u i f s 1)) 25 (nI (e - a)) (nI (4 + k)) (nI (8 * k)) (nI c) (nI j)) 8 (ycs (fun j => (ywd B a e).getD j 32 == (yWL.getD k []).getD j 32)) (fun j c => c ≤ j) (fun c => f_C_wordKind_77 k4 (zs I J (zPt t u i f s 1)) 25 (nI (e - a)) (nI (4 + k)) (nI (8 * k)) (nI c)) ?_ ?_ ?_ 8 0 0 zfu (by omega) (Nat.le_refl _) (zfu_lt (by omega))
    · intro m j c hj hc
      show f_C_wordKind_22L k4 (m + 1) _ _ _ _ _ _ _ = _
      have hch := yc_chr k hk j hj
      have hw := (yWL_ok k hk).2.2 j hj
      have key : ∀ v, v = (ywd B a e).getD j 32 → v < 128 → f_C_wordKind_52 k4 (f_C_wordKind_22L k4 m) (zs I J (zPt t u i f s 1)) 25 (nI (e - a)) (nI (4 + k)) (nI (8 * k)) (nI c) (nI j) (nI v) = f_C_wordKind_22L k4 m (zs I J (zPt t u i f s 1)) 25 (nI (e - a)) (nI (4 + k)) (nI (8 * k)) (nI (ycs (fun j => (ywd B a e).getD j 32 == (yWL.getD k []).getD j 32) j c)) (nI (j + 1)) := by
        intro v hv hv8
        rw [f_C_wordKind_52, nI_add, hch]
        simp only [zbs, zeq_nI (show v < 2 ^ 31 by omega) (show (yWL.getD k []).getD j 32 < 2 ^ 31 by omega), znI_add1]
        by_cases hq : v = (yWL.getD k []).getD j 32
        · rw [if_pos hq]
          simp only [ycs, ← hv, hq, beq_self_eq_true, if_true]
        · rw [if_neg hq]
          simp only [ycs, ← hv, beq_iff_eq, hq, if_false]
      rw [f_C_wordKind_22L, f_C_wordKind_22]
      have g8 : ¬ (8 : Int32) ≤ nI j := nI_ge (b := 8) hj (by decide)
      rw [if_neg g8]
      by_cases hja : j < e - a
      · rw [if_neg (by rw [zle_nI (by omega) (by omega)]; omega)]
        have hb := hT.2.2 (a + j) (by omega)
        have hlt := yltr_b (hl (a + j) (by omega) (by omega))
        simp (disch := (first | omega | assumption)) only [f_C_wordKind_22, gi_7, gp_7_4, ge8, zbs, nI_add, pk_mul, znI_add1, znI_sub1, znI_subm, zle_nI, zlt_nI, zeq_nI, zle_0, zeq_0, zlt_0, zeq_m, zeq_1, zge_0, zbt0, zbt1, zB_0, zB_1, zB_b, zbool_0, zbool_1, ↓reduceIte, h1, ai_1, hb, yc_pos (B (a + j)) (by omega)]
        exact key (B (a + j)) (by rw [List.getD_eq_getElem?_getD, ywd_get hja]; rfl) (by omega)
      · rw [if_pos (by rw [zle_nI (by omega) (by omega)]; omega)]
        exact key 32 (by rw [List.getD_eq_getElem?_getD, List.getElem?_eq_none (by omega)]; rfl) (by omega)
    · intro j c hj hc
      show ycs _ j c ≤ j + 1
      unfold ycs
      split <;> omega
    · intro m c hc
      show f_C_wordKind_22L k4 (m + 1) _ _ _ _ _ _ _ = _
      rw [f_C_wordKind_22L, f_C_wordKind_22, if_pos (by decide)]
  have outer := zforW (fun fuel (_ : Unit) k => f_C_wordKind_4L fuel (zs I J (zPt t u i f s 1)) 25 (nI (e - a)) (nI (4 + k)) (nI (8 * k))) 23 (fun k _ => ∀ j, j < k → ¬ ywd B a e = yWL.getD j []) (fun r => r = some (nI (ywk (ywd B a e)))) ?_ ?_ 23 0 () zfu (by omega) (fun j hj => by omega) (zfu_lt (by omega))
  · have outer : f_C_wordKind_4L zfu (zs I J (zPt t u i f s 1)) 25 (nI (e - a)) 4 0 = some (nI (ywk (ywd B a e))) := outer
    simp (disch := (first | omega | assumption)) only [f_C_wordKind, zg_7, zbs, nI_add, pk_mul, znI_add1, znI_sub1, znI_subm, zle_nI, zlt_nI, zeq_nI, zle_0, zeq_0, zlt_0, zeq_m, zeq_1, zge_0, zbt0, zbt1, zB_0, zB_1, zB_b, zbool_0, zbool_1, ↓reduceIte, outer]
  · intro m k _ hk hi
    show f_C_wordKind_4L (m + 1) _ _ _ _ _ = _ ∨ ∃ s', _ ∧ f_C_wordKind_4L (m + 1) _ _ _ _ _ = _
    have hgt : ¬ (184 : Int32) < nI (8 * k) + 8 := by
      rw [ar8, show (184 : Int32) = nI 184 from rfl, zlt_nI (by omega) (by omega)]
      omega
    rw [f_C_wordKind_4L, f_C_wordKind_4, yc_len]
    simp only [zbs]
    rw [if_neg hgt, inner _ k hk, f_C_wordKind_77]
    have hall := ycs_all (C := fun j => (ywd B a e).getD j 32 == (yWL.getD k []).getD j 32) 8 0 0
    by_cases hm : zrn (ycs (fun j => (ywd B a e).getD j 32 == (yWL.getD k []).getD j 32)) 8 0 0 = 8
    · left
      rw [hm, if_pos (show nI 8 = (8 : Int32) from rfl)]
      have heq : ywd B a e = yWL.getD k [] := ypad_eq (by omega) (yWL_ok k hk).1 hwb (yWL_ok k hk).2.1 (fun j hj => by
        have := hall.2.mp hm j (by omega) (by omega)
        simpa using this)
      rw [ywk, yfw_hit yWL 4 k hi hk heq]
    · right
      refine ⟨(), fun j hj => ?_, ?_⟩
      · by_cases hjk : j = k
        · subst hjk
          intro heq
          exact hm (hall.2.mpr (fun j' _ _ => by simp only [heq, beq_self_eq_true]))
        · exact hi j (by omega)
      · rw [if_neg (by rw [eq8 (by omega)]; exact hm), znI_add1, ar8]
        rfl
  · intro m _ hi
    show f_C_wordKind_4L (m + 1) _ _ _ _ _ = _
    rw [f_C_wordKind_4L, f_C_wordKind_4, yc_len]
    simp only [zbs]
    rw [if_pos (by decide), ywk, yfw_no yWL 4 hi]
    rfl
/-- what the class's scanner must be for a token to begin at a -/
def yXs (I : Nat → Nat → Int32) (n a : Nat) : Prop := I 25 5 = nI n ∧ I 25 6 = nI a
theorem x_scanWord {a : Nat} (hT : yTp I B n) (hs : yXs I n a) (h1 : I 25 1 = nI a) (han : a < n) (hl : yltr (B a) = true) : ∃ I' J', f_C_scanWord (zs I J (zPt t u i f s 1)) 25 = some (zs I' J' (zPt t u i f s 1)) ∧ yfs I J I' J' ∧ yXt I' J' n (ytkA B n a) := by
  have hn := hT.1
  have heq : ytkA B n a = ⟨if 8 < ysp yltr B n n a - a then 1 else ywk (ywd B a (ysp yltr B n n a)), a, 0, ywd B a (ysp yltr B n n a), ysp yltr B n n a⟩ := by
    unfold ytkA
    rw [if_pos han, if_pos hl]
  have fin : ∀ (I1 : Nat → Nat → Int32) (J1 : Nat → Nat → Int64) (e : Nat), yfs I J I1 J1 → yXs I1 n e → I1 25 1 = nI a → a ≤ e → e ≤ n → (∀ k, a ≤ k → k < e → yltr (B k) = true) → (e < n → yltr (B e) = false) → J1 25 3 = nJ (ybs 32 ((ywd B a e).map (fun c => c - 96))) → ∃ I' J', f_C_scanWord_68 (zs I1 J1 (zPt t u i f s 1)) 25 = some (zs I' J' (zPt t u i f s 1)) ∧ yfs I J I' J' ∧ yXt I' J' n (ytkA B n a) := by
    intro I1 J1 e f1 x1 p1 hae hen hin hend hj
    have he : ysp yltr B n n a = e := ysp_eq n a hae hen (by omega) hin hend
    rw [heq, he]
    have hsub : nI e - nI a = nI (e - a) := pk_sub hae
    by_cases h8 : e - a ≤ 8
    · have hw := x_wordKind (J := J1) (t := t) (u := u) (i := i) (f := f) (s := s) (yTp_fs hT f1) p1 hen hae h8 hin
      refine ⟨zup I1 25 0 (nI (ywk (ywd B a e))), J1, ?_, yfs_I f1, ?_, ?_, ?_, ?_, ?_, ?_⟩
      · simp (disch := (first | omega | assumption)) only [f_C_scanWord_68, gi_7, si_7, le8, zbs, nI_add, pk_mul, znI_add1, znI_sub1, znI_subm, zle_nI, zlt_nI, zeq_nI, zle_0, zeq_0, zlt_0, zeq_m, zeq_1, zge_0, zbt0, zbt1, zB_0, zB_1, zB_b, zbool_0, zbool_1, ↓reduceIte, x1.2, p1, hsub, h8, hw]
      · rw [zup_s, if_neg (by omega)]
      · rw [zup_k _ _ (by decide)]; exact p1
      · intro h
        exfalso
        rw [if_neg (by omega)] at h
        have : ∀ (L : List (List Nat)) (c : Nat), 3 ≤ c → yfw (ywd B a e) L c ≠ 2 := by
          intro L
          induction L with
          | nil => intro c _; show (3 : Nat) ≠ 2; decide
          | cons x L ih => intro c hc; unfold yfw; split; omega; exact ih (c + 1) (by omega)
        exact this yWL 4 (by decide) h
      · intro _; exact hj
      · intro _; rw [zup_k _ _ (by decide)]; exact x1.2
      · rw [zup_k _ _ (by decide)]; exact x1.1
    · refine ⟨zup I1 25 0 1, J1, ?_, yfs_I f1, ?_, ?_, ?_, ?_, ?_, ?_⟩
      · simp (disch := (first | omega | assumption)) only [f_C_scanWord_68, gi_7, si_7, le8, zbs, nI_add, pk_mul, znI_add1, znI_sub1, znI_subm, zle_nI, zlt_nI, zeq_nI, zle_0, zeq_0, zlt_0, zeq_m, zeq_1, zge_0, zbt0, zbt1, zB_0, zB_1, zB_b, zbool_0, zbool_1, ↓reduceIte, x1.2, p1, hsub, h8]
      · rw [zup_s, if_pos (by omega)]; rfl
      · rw [zup_k _ _ (by decide)]; exact p1
      · intro h; rw [if_pos (by omega)] at h; cases h
      · intro h; rw [if_pos (by omega)] at h; cases h
      · intro h; rw [if_pos (by omega)] at h; exact absurd rfl h
      · rw [zup_k _ _ (by decide)]; exact x1.1
  have loop := zwhl (fun fuel (q : (Nat → Nat → Int32) × (Nat → Nat → Int64) × Nat) => f_C_scanWord_10L fuel (zs q.1 q.2.1 (zPt t u i f s 1)) 25 (nI q.2.2)) (fun q => n - q.2.2) (fun q => yfs I J q.1 q.2.1 ∧ yXs q.1 n q.2.2 ∧ q.1 25 1 = nI a ∧ a ≤ q.2.2 ∧ q.2.2 ≤ n ∧ (∀ k, a ≤ k → k < q.2.2 → yltr (B k) = true) ∧ q.2.1 25 3 = nJ (ybs 32 ((ywd B a q.2.2).map (fun c => c - 96)))) (fun r => ∃ I' J', r = some (zs I' J' (zPt t u i f s 1)) ∧ yfs I J I' J' ∧ yXt I' J' n (ytkA B n a)) ?_ n (I, zup J 25 3 0, a) zfu (Nat.sub_le _ _) ⟨yfs_J (yfs_refl _ _), hs, h1, Nat.le_refl _, Nat.le_of_lt han, fun k (h1 : a ≤ k) (h2 : k < a) => by omega, (zup_s J 25 3 0).trans (yj0 B a)⟩ (zfu_lt (by omega))
  · obtain ⟨I', J', e1, e2⟩ := loop
    refine ⟨I', J', ?_, e2⟩
    have e1 : f_C_scanWord_10L zfu (zs I (zup J 25 3 0) (zPt t u i f s 1)) 25 (nI a) = _ := e1
    simp (disch := (first | omega | assumption)) only [f_C_scanWord, zg_7, gi_7, sj_7, zbs, nI_add, pk_mul, znI_add1, znI_sub1, znI_subm, zle_nI, zlt_nI, zeq_nI, zle_0, zeq_0, zlt_0, zeq_m, zeq_1, zge_0, zbt0, zbt1, zB_0, zB_1, zB_b, zbool_0, zbool_1, ↓reduceIte, hs.2, e1]
  · rintro m ⟨I1, J1, k⟩ ⟨f1, x1, p1, hak, hkn, hin, hj⟩
    simp only at f1 x1 p1 hak hkn hin hj
    show (∃ I' J', f_C_scanWord_10L (m + 1) _ _ _ = _ ∧ _) ∨ ∃ s', _ ∧ _ ∧ f_C_scanWord_10L (m + 1) _ _ _ = _
    rw [f_C_scanWord_10L]
    by_cases hk : n ≤ k
    · left
      obtain ⟨I', J', e1, e2⟩ := fin I1 J1 k f1 x1 p1 hak hkn hin (fun h => by omega) hj
      refine ⟨I', J', ?_, e2⟩
      simp (disch := (first | omega | assumption)) only [f_C_scanWord_10, gi_7, gj_7, si_7, sj_7, gp_7_4, mr32, zbs, nI_add, pk_mul, znI_add1, znI_sub1, znI_subm, zle_nI, zlt_nI, zeq_nI, zle_0, zeq_0, zlt_0, zeq_m, zeq_1, zge_0, zbt0, zbt1, zB_0, zB_1, zB_b, zbool_0, zbool_1, ↓reduceIte, x1.1, hk, e1]
    · have hb := (yTp_fs hT f1).2.2 k (by omega)
      have hlk := yc_letter (B k) (hT.2.1 k)
      cases hq : yltr (B k) with
      | false =>
        left
        obtain ⟨I', J', e1, e2⟩ := fin I1 J1 k f1 x1 p1 hak hkn hin (fun _ => hq) hj
        refine ⟨I', J', ?_, e2⟩
        rw [hq] at hlk
        simp (disch := (first | omega | assumption)) only [f_C_scanWord_10, gi_7, gj_7, si_7, sj_7, gp_7_4, mr32, zbs, nI_add, pk_mul, znI_add1, znI_sub1, znI_subm, zle_nI, zlt_nI, zeq_nI, zle_0, zeq_0, zlt_0, zeq_m, zeq_1, zge_0, zbt0, zbt1, zB_0, zB_1, zB_b, zbool_0, zbool_1, ↓reduceIte, x1.1, hk, ai_1, hb, hlk, e1]
      | true =>
        right
        rw [hq] at hlk
        have hlb := yltr_b hq
        refine ⟨(zup I1 25 6 (nI (k + 1)), zup J1 25 3 (nJ (ybs 32 ((ywd B a (k + 1)).map (fun c => c - 96)))), k + 1), ⟨yfs_J (yfs_I f1), ⟨?_, ?_⟩, ?_, by simp only; omega, by simp only; omega, ?_, ?_⟩, by simp only; omega, ?_⟩
        · simp only; rw [zup_k _ _ (by decide)]; exact x1.1
        · simp only; rw [zup_s]
        · simp only; rw [zup_k _ _ (by decide)]; exact p1
        · intro j h1 h2
          simp only at h2
          by_cases hjk : j = k
          · rw [hjk]; exact hq
          · exact hin j h1 (by omega)
        · simp only; rw [zup_s]
        · have hc : ((nI (B k) : Int32) - 97 + 1).toInt64 = nJ (B k - 96) := by
            have e1 : (nI (B k) : Int32) - 97 = nI (B k - 97) := pk_sub (b := 97) (by omega)
            rw [e1, znI_add1, nI_64 (by omega), show B k - 97 + 1 = B k - 96 by omega]
          have hJ : J1 25 3 * 32 + nJ (B k - 96) = nJ (ybs 32 ((ywd B a (k + 1)).map (fun c => c - 96))) := by
            rw [ywd_snoc B hak, List.map_append, hj]
            show nJ _ * nJ 32 + nJ (B k - 96) = nJ (ybs 32 (_ ++ [B k - 96]))
            rw [nJ_hom, ybs_snoc]
          rw [yc_pos (B k) (by omega)] at hb hlk
          simp (disch := (first | omega | assumption)) only [f_C_scanWord_10, gi_7, gj_7, si_7, sj_7, gp_7_4, mr32, zbs, nI_add, pk_mul, znI_add1, znI_sub1, znI_subm, zle_nI, zlt_nI, zeq_nI, zle_0, zeq_0, zlt_0, zeq_m, zeq_1, zge_0, zbt0, zbt1, zB_0, zB_1, zB_b, zbool_0, zbool_1, ↓reduceIte, x1.1, hk, ai_1, hb, hlk, hc, hJ, Bool.true_eq_false]
theorem x_scanNumber {a : Nat} (hT : yTp I B n) (hs : yXs I n a) (h1 : I 25 1 = nI a) (han : a < n) (hnl : yltr (B a) = false) (hl : ydig (B a) = true) : ∃ I' J', f_C_scanNumber (zs I J (zPt t u i f s 1)) 25 = some (zs I' J' (zPt t u i f s 1)) ∧ yfs I J I' J' ∧ yXt I' J' n (ytkA B n a) := by
  have hn := hT.1
  have heq : ytkA B n a = ⟨if 4 < ysp ydig B n n a - a ∨ (ysp ydig B n n a < n ∧ yltr (B (ysp ydig B n n a)) = true) then 1 else 2, a, ybs 10 ((ywd B a (ysp ydig B n n a)).map (fun c => c - 48)), [], ysp ydig B n n a⟩ := by
    unfold ytkA
    rw [if_pos han, if_neg (by rw [hnl]; decide), if_pos hl]
  have fin : ∀ (I1 : Nat → Nat → Int32) (J1 : Nat → Nat → Int64) (e : Nat), yfs I J I1 J1 → yXs I1 n e → I1 25 1 = nI a → a ≤ e → e ≤ n → (∀ k, a ≤ k → k < e → ydig (B k) = true) → (e < n → ydig (B e) = false) → I1 25 2 = nI (ybs 10 ((ywd B a e).map (fun c => c - 48))) → ∃ I' J', f_C_scanNumber_64 (zs I1 J1 (zPt t u i f s 1)) 25 = some (zs I' J' (zPt t u i f s 1)) ∧ yfs I J I' J' ∧ yXt I' J' n (ytkA B n a) := by
    intro I1 J1 e f1 x1 p1 hae hen hin hend hj
    have he : ysp ydig B n n a = e := ysp_eq n a hae hen (by omega) hin hend
    rw [heq, he]
    have hsub : nI e - nI a = nI (e - a) := pk_sub hae
    have h95 : ∀ c : Bool, f_C_scanNumber_95 (zs I1 J1 (zPt t u i f s 1)) 25 (zB c) = some (zs (zup I1 25 0 (nI (if 4 < e - a ∨ c = true then 1 else 2))) J1 (zPt t u i f s 1)) := by
      intro c
      by_cases h4 : 4 < e - a
      · simp (disch := (first | omega | assumption)) only [f_C_scanNumber_95, gi_7, si_7, gt4, zbs, nI_add, pk_mul, znI_add1, znI_sub1, znI_subm, zle_nI, zlt_nI, zeq_nI, zle_0, zeq_0, zlt_0, zeq_m, zeq_1, zge_0, zbt0, zbt1, zB_0, zB_1, zB_b, zbool_0, zbool_1, ↓reduceIte, x1.2, p1, hsub, h4]
        simp
        rfl
      · cases c with
        | true =>
          simp (disch := (first | omega | assumption)) only [f_C_scanNumber_95, gi_7, si_7, gt4, zbs, nI_add, pk_mul, znI_add1, znI_sub1, znI_subm, zle_nI, zlt_nI, zeq_nI, zle_0, zeq_0, zlt_0, zeq_m, zeq_1, zge_0, zbt0, zbt1, zB_0, zB_1, zB_b, zbool_0, zbool_1, ↓reduceIte, x1.2, p1, hsub, h4, Bool.true_eq_false]
          simp
          rfl
        | false =>
          simp (disch := (first | omega | assumption)) only [f_C_scanNumber_95, gi_7, si_7, gt4, zbs, nI_add, pk_mul, znI_add1, znI_sub1, znI_subm, zle_nI, zlt_nI, zeq_nI, zle_0, zeq_0, zlt_0, zeq_m, zeq_1, zge_0, zbt0, zbt1, zB_0, zB_1, zB_b, zbool_0, zbool_1, ↓reduceIte, x1.2, p1, hsub, h4]
          simp
          rfl
    have rest : ∀ c : Bool, (c = true ↔ e < n ∧ yltr (B e) = true) → f_C_scanNumber_64 (zs I1 J1 (zPt t u i f s 1)) 25 = f_C_scanNumber_95 (zs I1 J1 (zPt t u i f s 1)) 25 (zB c) → ∃ I' J', f_C_scanNumber_64 (zs I1 J1 (zPt t u i f s 1)) 25 = some (zs I' J' (zPt t u i f s 1)) ∧ yfs I J I' J' ∧ yXt I' J' n ⟨if 4 < e - a ∨ (e < n ∧ yltr (B e) = true) then 1 else 2, a, ybs 10 ((ywd B a e).map (fun c => c - 48)), [], e⟩ := by
      intro c hc h64
      rw [h64, h95 c]
      have hcc : (if 4 < e - a ∨ (e < n ∧ yltr (B e) = true) then 1 else 2) = (if 4 < e - a ∨ c = true then 1 else 2) := by
        simp only [hc]
      rw [hcc]
      refine ⟨_, J1, rfl, yfs_I f1, ?_, ?_, ?_, ?_, ?_, ?_⟩
      · rw [zup_s]
      · rw [zup_k _ _ (by decide)]; exact p1
      · intro _; rw [zup_k _ _ (by decide)]; exact hj
      · intro h
        simp only at h
        split at h <;> cases h
      · intro _; rw [zup_k _ _ (by decide)]; exact x1.2
      · rw [zup_k _ _ (by decide)]; exact x1.1
    by_cases hk : n ≤ e
    · refine rest false (by simp; omega) ?_
      simp (disch := (first | omega | assumption)) only [f_C_scanNumber_64, gi_7, gp_7_4, zbs, nI_add, pk_mul, znI_add1, znI_sub1, znI_subm, zle_nI, zlt_nI, zeq_nI, zle_0, zeq_0, zlt_0, zeq_m, zeq_1, zge_0, zbt0, zbt1, zB_0, zB_1, zB_b, zbool_0, zbool_1, ↓reduceIte, x1.1, x1.2, hk, f_C_scanNumber_94]
      rfl
    · have hb := (yTp_fs hT f1).2.2 e (by omega)
      have hlk := yc_letter (B e) (hT.2.1 e)
      rcases (by cases yltr (B e) <;> simp : yltr (B e) = false ∨ yltr (B e) = true) with hq | hq
      · rw [hq] at hlk
        refine rest false (by simp [hq]) ?_
        simp (disch := (first | omega | assumption)) only [f_C_scanNumber_64, gi_7, gp_7_4, zbs, nI_add, pk_mul, znI_add1, znI_sub1, znI_subm, zle_nI, zlt_nI, zeq_nI, zle_0, zeq_0, zlt_0, zeq_m, zeq_1, zge_0, zbt0, zbt1, zB_0, zB_1, zB_b, zbool_0, zbool_1, ↓reduceIte, x1.1, x1.2, hk, ai_1, hb, hlk, f_C_scanNumber_94]
        rfl
      · rw [hq] at hlk
        refine rest true (by simp [hq]; omega) ?_
        simp (disch := (first | omega | assumption)) only [f_C_scanNumber_64, gi_7, gp_7_4, zbs, nI_add, pk_mul, znI_add1, znI_sub1, znI_subm, zle_nI, zlt_nI, zeq_nI, zle_0, zeq_0, zlt_0, zeq_m, zeq_1, zge_0, zbt0, zbt1, zB_0, zB_1, zB_b, zbool_0, zbool_1, ↓reduceIte, x1.1, x1.2, hk, ai_1, hb, hlk, Bool.true_eq_false]
        rfl
  have loop := zwhl (fun fuel (q : (Nat → Nat → Int32) × (Nat → Nat → Int64) × Nat) => f_C_scanNumber_10L fuel (zs q.1 q.2.1 (zPt t u i f s 1)) 25 (nI q.2.2)) (fun q => n - q.2.2) (fun q => yfs I J q.1 q.2.1 ∧ yXs q.1 n q.2.2 ∧ q.1 25 1 = nI a ∧ a ≤ q.2.2 ∧ q.2.2 ≤ n ∧ (∀ k, a ≤ k → k < q.2.2 → ydig (B k) = true) ∧ q.1 25 2 = nI (ybs 10 ((ywd B a q.2.2).map (fun c => c - 48)))) (fun r => ∃ I' J', r = some (zs I' J' (zPt t u i f s 1)) ∧ yfs I J I' J' ∧ yXt I' J' n (ytkA B n a)) ?_ n (zup I 25 2 0, J, a) zfu (Nat.sub_le _ _) ⟨yfs_I (yfs_refl _ _), ⟨(zup_k I (a := 25) (k := 2) (j := 5) 0 (by decide)).trans hs.1, (zup_k I (a := 25) (k := 2) (j := 6) 0 (by decide)).trans hs.2⟩, (zup_k I (a := 25) (k := 2) (j := 1) 0 (by decide)).trans h1, Nat.le_refl _, Nat.le_of_lt han, fun k (h1 : a ≤ k) (h2 : k < a) => by omega, (zup_s I 25 2 0).trans (yi0 B a)⟩ (zfu_lt (by omega))
  · obtain ⟨I', J', e1, e2⟩ := loop
    refine ⟨I', J', ?_, e2⟩
    have e1 : f_C_scanNumber_10L zfu (zs (zup I 25 2 0) J (zPt t u i f s 1)) 25 (nI a) = _ := e1
    have e6 : zup I 25 2 0 25 6 = nI a := by rw [zup_k _ _ (by decide)]; exact hs.2
    simp (disch := (first | omega | assumption)) only [f_C_scanNumber, zg_7, gi_7, si_7, zbs, nI_add, pk_mul, znI_add1, znI_sub1, znI_subm, zle_nI, zlt_nI, zeq_nI, zle_0, zeq_0, zlt_0, zeq_m, zeq_1, zge_0, zbt0, zbt1, zB_0, zB_1, zB_b, zbool_0, zbool_1, ↓reduceIte, e6, e1]
  · rintro m ⟨I1, J1, k⟩ ⟨f1, x1, p1, hak, hkn, hin, hj⟩
    simp only at f1 x1 p1 hak hkn hin hj
    show (∃ I' J', f_C_scanNumber_10L (m + 1) _ _ _ = _ ∧ _) ∨ ∃ s', _ ∧ _ ∧ f_C_scanNumber_10L (m + 1) _ _ _ = _
    rw [f_C_scanNumber_10L]
    by_cases hk : n ≤ k
    · left
      obtain ⟨I', J', e1, e2⟩ := fin I1 J1 k f1 x1 p1 hak hkn hin (fun h => by omega) hj
      refine ⟨I', J', ?_, e2⟩
      simp (disch := (first | omega | assumption)) only [f_C_scanNumber_10, gi_7, si_7, gp_7_4, mr10, zbs, nI_add, pk_mul, znI_add1, znI_sub1, znI_subm, zle_nI, zlt_nI, zeq_nI, zle_0, zeq_0, zlt_0, zeq_m, zeq_1, zge_0, zbt0, zbt1, zB_0, zB_1, zB_b, zbool_0, zbool_1, ↓reduceIte, x1.1, hk, e1]
    · have hb := (yTp_fs hT f1).2.2 k (by omega)
      have hlk := yc_digit (B k) (hT.2.1 k)
      cases hq : ydig (B k) with
      | false =>
        left
        obtain ⟨I', J', e1, e2⟩ := fin I1 J1 k f1 x1 p1 hak hkn hin (fun _ => hq) hj
        refine ⟨I', J', ?_, e2⟩
        rw [hq] at hlk
        simp (disch := (first | omega | assumption)) only [f_C_scanNumber_10, gi_7, si_7, gp_7_4, mr10, zbs, nI_add, pk_mul, znI_add1, znI_sub1, znI_subm, zle_nI, zlt_nI, zeq_nI, zle_0, zeq_0, zlt_0, zeq_m, zeq_1, zge_0, zbt0, zbt1, zB_0, zB_1, zB_b, zbool_0, zbool_1, ↓reduceIte, x1.1, hk, ai_1, hb, hlk, e1]
      | true =>
        right
        rw [hq] at hlk
        have hlb := ydig_b hq
        refine ⟨(zup (zup I1 25 2 (nI (ybs 10 ((ywd B a (k + 1)).map (fun c => c - 48))))) 25 6 (nI (k + 1)), J1, k + 1), ⟨yfs_I (yfs_I f1), ⟨?_, ?_⟩, ?_, by simp only; omega, by simp only; omega, ?_, ?_⟩, by simp only; omega, ?_⟩
        · simp only; rw [zup_k _ _ (by decide), zup_k _ _ (by decide)]; exact x1.1
        · simp only; rw [zup_s]
        · simp only; rw [zup_k _ _ (by decide), zup_k _ _ (by decide)]; exact p1
        · intro j h1 h2
          simp only at h2
          by_cases hjk : j = k
          · rw [hjk]; exact hq
          · exact hin j h1 (by omega)
        · simp only; rw [zup_k _ _ (by decide), zup_s]
        · have hc : (nI (B k) : Int32) - 48 = nI (B k - 48) := pk_sub (b := 48) (by omega)
          have hJ : I1 25 2 * 10 + nI (B k - 48) = nI (ybs 10 ((ywd B a (k + 1)).map (fun c => c - 48))) := by
            rw [ywd_snoc B hak, List.map_append, hj]
            show nI _ * nI 10 + nI (B k - 48) = nI (ybs 10 (_ ++ [B k - 48]))
            rw [pk_mul, nI_add, ybs_snoc]
          rw [yc_pos (B k) (by omega)] at hb hlk
          simp (disch := (first | omega | assumption)) only [f_C_scanNumber_10, gi_7, si_7, gp_7_4, mr10, zbs, nI_add, pk_mul, znI_add1, znI_sub1, znI_subm, zle_nI, zlt_nI, zeq_nI, zle_0, zeq_0, zlt_0, zeq_m, zeq_1, zge_0, zbt0, zbt1, zB_0, zB_1, zB_b, zbool_0, zbool_1, ↓reduceIte, x1.1, hk, ai_1, hb, hlk, hc, hJ, Bool.true_eq_false]
theorem x_adv38 {a : Nat} (hT : yTp I B n) (hs : yXs I n a) (han : a ≤ n) : ∃ I' J', f_C_advance_38 (zs I J (zPt t u i f s 1)) 25 = some (zs I' J' (zPt t u i f s 1)) ∧ yfs I J I' J' ∧ yXt I' J' n (ytkA B n a) := by
  have hn := hT.1
  have f1 : yfs I J (zup I 25 1 (nI a)) J := yfs_I (yfs_refl _ _)
  have x5 : zup I 25 1 (nI a) 25 5 = nI n := by rw [zup_k _ _ (by decide)]; exact hs.1
  have x6 : zup I 25 1 (nI a) 25 6 = nI a := by rw [zup_k _ _ (by decide)]; exact hs.2
  have x1 : zup I 25 1 (nI a) 25 1 = nI a := zup_s _ _ _ _
  by_cases hlt : a < n
  · have hb := (yTp_fs hT f1).2.2 a hlt
    have l1 := yc_letter (B a) (hT.2.1 a)
    have l2 := yc_digit (B a) (hT.2.1 a)
    have l3 := yc_sign (B a) (hT.2.1 a)
    cases hq : yltr (B a) with
    | true =>
      obtain ⟨I', J', e1, e2, e3⟩ := x_scanWord (J := J) (t := t) (u := u) (i := i) (f := f) (s := s) (yTp_fs hT f1) ⟨x5, x6⟩ x1 hlt hq
      refine ⟨I', J', ?_, yfs_trans f1 e2, e3⟩
      rw [hq] at l1
      simp (disch := (first | omega | assumption)) only [f_C_advance_38, gi_7, si_7, gp_7_4, zbs, nI_add, pk_mul, znI_add1, znI_sub1, znI_subm, zle_nI, zlt_nI, zeq_nI, zle_0, zeq_0, zlt_0, zeq_m, zeq_1, zge_0, zbt0, zbt1, zB_0, zB_1, zB_b, zbool_0, zbool_1, ↓reduceIte, hs.2, x5, x6, hlt, ai_1, hb, l1, e1, Bool.true_eq_false]
    | false =>
      cases hd : ydig (B a) with
      | true =>
        obtain ⟨I', J', e1, e2, e3⟩ := x_scanNumber (J := J) (t := t) (u := u) (i := i) (f := f) (s := s) (yTp_fs hT f1) ⟨x5, x6⟩ x1 hlt hq hd
        refine ⟨I', J', ?_, yfs_trans f1 e2, e3⟩
        rw [hq] at l1
        rw [hd] at l2
        simp (disch := (first | omega | assumption)) only [f_C_advance_38, gi_7, si_7, gp_7_4, zbs, nI_add, pk_mul, znI_add1, znI_sub1, znI_subm, zle_nI, zlt_nI, zeq_nI, zle_0, zeq_0, zlt_0, zeq_m, zeq_1, zge_0, zbt0, zbt1, zB_0, zB_1, zB_b, zbool_0, zbool_1, ↓reduceIte, hs.2, x5, x6, hlt, ai_1, hb, l1, l2, e1, Bool.true_eq_false]
      | false =>
        have heq : ytkA B n a = ⟨if ysgn (B a) = true then B a else 1, a, 0, [], a + 1⟩ := by
          unfold ytkA
          rw [if_pos hlt, if_neg (by rw [hq]; decide), if_neg (by rw [hd]; decide)]
        rw [hq] at l1
        rw [hd] at l2
        obtain ⟨v, hv, hv2⟩ := Option.map_eq_some_iff.mp l3
        have fin : ∀ (w : Nat) (k6 : Int32), k6 = nI w → w ≠ 2 → w ≠ 3 → ∃ I' J', f_C_advance_153 (zs (zup I 25 1 (nI a)) J (zPt t u i f s 1)) 25 k6 25 = some (zs I' J' (zPt t u i f s 1)) ∧ yfs I J I' J' ∧ yXt I' J' n ⟨w, a, 0, [], a + 1⟩ := by
          intro w k6 hk hw hw3
          have y6 : zup (zup I 25 1 (nI a)) 25 0 k6 25 6 = nI a := by rw [zup_k _ _ (by decide)]; exact x6
          refine ⟨zup (zup (zup I 25 1 (nI a)) 25 0 k6) 25 6 (nI (a + 1)), J, ?_, yfs_I (yfs_I f1), ?_, ?_, ?_, ?_, ?_, ?_⟩
          · simp (disch := (first | omega | assumption)) only [f_C_advance_153, gi_7, si_7, zbs, nI_add, pk_mul, znI_add1, znI_sub1, znI_subm, zle_nI, zlt_nI, zeq_nI, zle_0, zeq_0, zlt_0, zeq_m, zeq_1, zge_0, zbt0, zbt1, zB_0, zB_1, zB_b, zbool_0, zbool_1, ↓reduceIte, y6]
          · rw [zup_k _ _ (by decide), zup_s]; exact hk
          · rw [zup_k _ _ (by decide), zup_k _ _ (by decide)]; exact x1
          · intro h; exact absurd h hw
          · intro h; exact absurd h hw3
          · intro _; rw [zup_s]
          · rw [zup_k _ _ (by decide), zup_k _ _ (by decide)]; exact x5
        cases hsg : ysgn (B a) with
        | false =>
          rw [hsg] at hv2
          have hv2 : v < 0 := by simpa using hv2
          obtain ⟨I', J', e1, e2⟩ := fin 1 1 rfl (by decide) (by decide)
          refine ⟨I', J', ?_, by rw [heq, hsg]; exact e2⟩
          simp (disch := (first | omega | assumption)) only [f_C_advance_38, gi_7, si_7, gp_7_4, zbs, nI_add, pk_mul, znI_add1, znI_sub1, znI_subm, zle_nI, zlt_nI, zeq_nI, zle_0, zeq_0, zlt_0, zeq_m, zeq_1, zge_0, zbt0, zbt1, zB_0, zB_1, zB_b, zbool_0, zbool_1, ↓reduceIte, hs.2, x5, x6, hlt, ai_1, hb, l1, l2, hv, hv2, e1]
        | true =>
          rw [hsg] at hv2
          have hv2 : ¬ v < 0 := by simpa using hv2
          have hsb := ysgn_b hsg
          obtain ⟨I', J', e1, e2⟩ := fin (B a) (yby (B a)) (yc_pos (B a) (by omega)) (by omega) (by omega)
          refine ⟨I', J', ?_, by rw [heq, hsg]; exact e2⟩
          simp (disch := (first | omega | assumption)) only [f_C_advance_38, gi_7, si_7, gp_7_4, zbs, nI_add, pk_mul, znI_add1, znI_sub1, znI_subm, zle_nI, zlt_nI, zeq_nI, zle_0, zeq_0, zlt_0, zeq_m, zeq_1, zge_0, zbt0, zbt1, zB_0, zB_1, zB_b, zbool_0, zbool_1, ↓reduceIte, hs.2, x5, x6, hlt, ai_1, hb, l1, l2, hv, hv2, e1]
  · have hae : a = n := by omega
    subst hae
    have heq : ytkA B a a = ⟨0, a, 0, [], a⟩ := by
      unfold ytkA
      rw [if_neg hlt]
    have y5 : zup (zup I 25 1 (nI a)) 25 0 0 25 5 = nI a := by rw [zup_k _ _ (by decide)]; exact x5
    refine ⟨zup (zup (zup I 25 1 (nI a)) 25 0 0) 25 1 (nI a), J, ?_, yfs_I (yfs_I f1), ?_⟩
    · simp (disch := (first | omega | assumption)) only [f_C_advance_38, gi_7, si_7, gp_7_4, zbs, nI_add, pk_mul, znI_add1, znI_sub1, znI_subm, zle_nI, zlt_nI, zeq_nI, zle_0, zeq_0, zlt_0, zeq_m, zeq_1, zge_0, zbt0, zbt1, zB_0, zB_1, zB_b, zbool_0, zbool_1, ↓reduceIte, hs.2, x5, x6, hlt, y5]
    · rw [heq]
      refine ⟨?_, ?_, ?_, ?_, ?_, ?_⟩
      · rw [zup_k _ _ (by decide), zup_s]; rfl
      · rw [zup_s]
      · intro h; cases h
      · intro h; cases h
      · intro _; rw [zup_k _ _ (by decide), zup_k _ _ (by decide)]; exact x6
      · rw [zup_k _ _ (by decide), zup_k _ _ (by decide)]; exact x5
/-- the next token -/
theorem x_advance {p : Nat} (hT : yTp I B n) (hs : yXs I n p) (hp : p ≤ n) : ∃ I' J', f_C_advance (zs I J (zPt t u i f s 1)) 25 = some (zs I' J' (zPt t u i f s 1)) ∧ yfs I J I' J' ∧ yXt I' J' n (ytok B n p) := by
  have hn := hT.1
  have fin : ∀ (I1 : Nat → Nat → Int32) (e : Nat), yfs I J I1 J → yXs I1 n e → p ≤ e → e ≤ n → (∀ k, p ≤ k → k < e → yblk (B k) = true) → (e < n → yblk (B e) = false) → ∃ I' J', f_C_advance_38 (zs I1 J (zPt t u i f s 1)) 25 = some (zs I' J' (zPt t u i f s 1)) ∧ yfs I J I' J' ∧ yXt I' J' n (ytok B n p) := by
    intro I1 e f1 x1 hpe hen hin hend
    have he : ysp yblk B n n p = e := ysp_eq n p hpe hen (by omega) hin hend
    obtain ⟨I', J', e1, e2, e3⟩ := x_adv38 (J := J) (t := t) (u := u) (i := i) (f := f) (s := s) (yTp_fs hT f1) x1 hen
    exact ⟨I', J', e1, yfs_trans f1 e2, by rw [ytok, he]; exact e3⟩
  have loop := zwhl (fun fuel (q : (Nat → Nat → Int32) × Nat) => f_C_advance_5L fuel (zs q.1 J (zPt t u i f s 1)) 25 (nI q.2)) (fun q => n - q.2) (fun q => yfs I J q.1 J ∧ yXs q.1 n q.2 ∧ p ≤ q.2 ∧ q.2 ≤ n ∧ (∀ k, p ≤ k → k < q.2 → yblk (B k) = true)) (fun r => ∃ I' J', r = some (zs I' J' (zPt t u i f s 1)) ∧ yfs I J I' J' ∧ yXt I' J' n (ytok B n p)) ?_ n (I, p) zfu (Nat.sub_le _ _) ⟨yfs_refl _ _, hs, Nat.le_refl _, hp, fun k (h1 : p ≤ k) (h2 : k < p) => by omega⟩ (zfu_lt (by omega))
  · obtain ⟨I', J', e1, e2⟩ := loop
    refine ⟨I', J', ?_, e2⟩
    have e1 : f_C_advance_5L zfu (zs I J (zPt t u i f s 1)) 25 (nI p) = _ := e1
    simp (disch := (first | omega | assumption)) only [f_C_advance, zg_7, gi_7, zbs, nI_add, pk_mul, znI_add1, znI_sub1, znI_subm, zle_nI, zlt_nI, zeq_nI, zle_0, zeq_0, zlt_0, zeq_m, zeq_1, zge_0, zbt0, zbt1, zB_0, zB_1, zB_b, zbool_0, zbool_1, ↓reduceIte, hs.2, e1]
  · rintro m ⟨I1, k⟩ ⟨f1, x1, hak, hkn, hin⟩
    simp only at f1 x1 hak hkn hin
    show (∃ I' J', f_C_advance_5L (m + 1) _ _ _ = _ ∧ _) ∨ ∃ s', _ ∧ _ ∧ f_C_advance_5L (m + 1) _ _ _ = _
    rw [f_C_advance_5L]
    by_cases hk : n ≤ k
    · left
      obtain ⟨I', J', e1, e2⟩ := fin I1 k f1 x1 hak hkn hin (fun h => by omega)
      refine ⟨I', J', ?_, e2⟩
      simp (disch := (first | omega | assumption)) only [f_C_advance_5, gi_7, si_7, gp_7_4, zbs, nI_add, pk_mul, znI_add1, znI_sub1, znI_subm, zle_nI, zlt_nI, zeq_nI, zle_0, zeq_0, zlt_0, zeq_m, zeq_1, zge_0, zbt0, zbt1, zB_0, zB_1, zB_b, zbool_0, zbool_1, ↓reduceIte, x1.1, hk, e1]
    · have hb := (yTp_fs hT f1).2.2 k (by omega)
      have hlk := yc_blank (B k) (hT.2.1 k)
      cases hq : yblk (B k) with
      | false =>
        left
        obtain ⟨I', J', e1, e2⟩ := fin I1 k f1 x1 hak hkn hin (fun _ => hq)
        refine ⟨I', J', ?_, e2⟩
        rw [hq] at hlk
        simp (disch := (first | omega | assumption)) only [f_C_advance_5, gi_7, si_7, gp_7_4, zbs, nI_add, pk_mul, znI_add1, znI_sub1, znI_subm, zle_nI, zlt_nI, zeq_nI, zle_0, zeq_0, zlt_0, zeq_m, zeq_1, zge_0, zbt0, zbt1, zB_0, zB_1, zB_b, zbool_0, zbool_1, ↓reduceIte, x1.1, hk, ai_1, hb, hlk, e1]
      | true =>
        right
        rw [hq] at hlk
        refine ⟨(zup I1 25 6 (nI (k + 1)), k + 1), ⟨yfs_I f1, ⟨?_, ?_⟩, by simp only; omega, by simp only; omega, ?_⟩, by simp only; omega, ?_⟩
        · simp only; rw [zup_k _ _ (by decide)]; exact x1.1
        · simp only; rw [zup_s]
        · intro j h1 h2
          simp only at h2
          by_cases hjk : j = k
          · rw [hjk]; exact hq
          · exact hin j h1 (by omega)
        · simp (disch := (first | omega | assumption)) only [f_C_advance_5, gi_7, si_7, gp_7_4, zbs, nI_add, pk_mul, znI_add1, znI_sub1, znI_subm, zle_nI, zlt_nI, zeq_nI, zle_0, zeq_0, zlt_0, zeq_m, zeq_1, zge_0, zbt0, zbt1, zB_0, zB_1, zB_b, zbool_0, zbool_1, ↓reduceIte, x1.1, hk, ai_1, hb, hlk, Bool.true_eq_false]
end ZScan
