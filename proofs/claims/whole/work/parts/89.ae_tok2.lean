/-! the reference's tokens -/
def yso (k : Nat) : Nat := if k = 0 then 0 else if k = 1 then 3 else if k = 2 then 2 else if k ≤ 26 then 1 else k
def yMt (I : Nat → Nat → Int32) (J : Nat → Nat → Int64) (n : Nat) (τ : yTk) : Prop :=
  I 91 6 = nI (yso τ.1) ∧ I 91 7 = nI τ.2.1 ∧ (τ.1 = 2 → I 91 8 = nI τ.2.2.1) ∧ (3 ≤ τ.1 → τ.1 ≤ 26 → J 91 9 = nJ (ybs 256 τ.2.2.2.1)) ∧ (τ.1 ≠ 1 → I 91 4 = nI τ.2.2.2.2) ∧ I 91 5 = nI n
def yTm (a k : Nat) : Bool := a == 91 && (k == 4 || k == 6 || k == 7 || k == 8)
def yfm (I : Nat → Nat → Int32) (J : Nat → Nat → Int64) (I' : Nat → Nat → Int32) (J' : Nat → Nat → Int64) : Prop := zfr yTm I I' ∧ (∀ a, a ≠ 91 → J' a = J a)
theorem yfm_refl (I : Nat → Nat → Int32) (J : Nat → Nat → Int64) : yfm I J I J := ⟨zfr_refl _ _, fun _ _ => rfl⟩
theorem yfm_trans {I I' I'' : Nat → Nat → Int32} {J J' J'' : Nat → Nat → Int64} (h : yfm I J I' J') (h2 : yfm I' J' I'' J'') : yfm I J I'' J'' := ⟨zfr_trans h.1 h2.1, fun a ha => (h2.2 a ha).trans (h.2 a ha)⟩
theorem yfm_I {I I' : Nat → Nat → Int32} {J J' : Nat → Nat → Int64} {k : Nat} {v : Int32} (h : yfm I J I' J') (hk : yTm 91 k = true) : yfm I J (zup I' 91 k v) J' := ⟨zfr_up h.1 hk, h.2⟩
theorem yfm_J {I I' : Nat → Nat → Int32} {J J' : Nat → Nat → Int64} {k : Nat} {v : Int64} (h : yfm I J I' J') : yfm I J I' (zup J' 91 k v) := ⟨h.1, fun a ha => (zup_ne _ _ _ ha).trans (h.2 a ha)⟩
theorem yfm_ite {I A A' : Nat → Nat → Int32} {J J' : Nat → Nat → Int64} {c : Prop} [Decidable c] (h : yfm I J A J') (h2 : yfm I J A' J') : yfm I J (if c then A else A') J' := by
  split
  · exact h
  · exact h2
def yTq (I : Nat → Nat → Int32) (B : Nat → Nat) (n : Nat) : Prop := n ≤ 1600 ∧ (∀ k, B k < 256) ∧ ∀ k, k < n → I 92 k = nI (B k)
theorem yTq_fm {I I' : Nat → Nat → Int32} {J J' : Nat → Nat → Int64} {B : Nat → Nat} {n : Nat} (h : yTq I B n) (hf : yfm I J I' J') : yTq I' B n := ⟨h.1, h.2.1, fun k hk => by rw [hf.1 92 k rfl]; exact h.2.2 k hk⟩
set_option maxRecDepth 100000 in
theorem ym_letter : ∀ c, c < 256 → f_M_isLetter (nI c) = some (zB (yltr c)) := by decide +kernel
theorem ym_letter1 : f_M_isLetter (-1) = some (zB false) := by decide +kernel
set_option maxRecDepth 100000 in
theorem ym_digit : ∀ c, c < 256 → f_M_isDigit (nI c) = some (zB (ydig c)) := by decide +kernel
theorem ym_digit1 : f_M_isDigit (-1) = some (zB false) := by decide +kernel
set_option maxRecDepth 100000 in
theorem ym_sign : ∀ c, c < 256 → f_M_isSign (nI c) = some (zB (ysgn c)) := by decide +kernel
theorem nJ_shl (a : Nat) {c : Nat} (hc : c < 256) : (nJ a <<< (((8 : Int32)).toInt64 &&& 63)) ||| nJ c = nJ (a * 256 + c) := by
  apply Int64.toBitVec.inj
  apply BitVec.eq_of_toNat_eq
  have e8 : ((((8 : Int32)).toInt64 &&& 63).toBitVec.smod 64).toNat = 8 := by decide
  rw [Int64.toBitVec_or, Int64.toBitVec_shiftLeft]
  unfold nJ
  simp only [BitVec.toNat_or, BitVec.shiftLeft_eq', BitVec.toNat_shiftLeft, e8, Int64.toBitVec_ofNat', BitVec.toNat_ofNat]
  have e1 : (a % 2 ^ 64) <<< 8 % 2 ^ 64 = (a % 2 ^ 56) * 2 ^ 8 := by
    rw [Nat.shiftLeft_eq]
    omega
  have e2 : (a * 256 + c) % 2 ^ 64 = (a % 2 ^ 56) * 2 ^ 8 + c := by omega
  have := Nat.shiftLeft_add_eq_or_of_lt (show c < 2 ^ 8 from hc) (a % 2 ^ 56)
  rw [Nat.shiftLeft_eq] at this
  rw [e1, e2, Nat.mod_eq_of_lt (show c < 2 ^ 64 by omega), this]
theorem ybs_lt {b : Nat} : ∀ (n : Nat) (l : List Nat), l.length = n → (∀ c ∈ l, c < b) → ybs b l < b ^ n := by
  intro n
  induction n with
  | zero => intro l hl _; have : l = [] := List.eq_nil_of_length_eq_zero hl; subst this; simp [ybs]
  | succ n ih =>
    intro l hl h
    rcases List.eq_nil_or_concat l with rfl | ⟨m, c, rfl⟩
    · simp at hl
    · rw [List.concat_eq_append] at hl h ⊢
      rw [ybs_snoc, Nat.pow_succ]
      have h1 := ih m (by simpa using hl) (fun x hx => h x (by simp [hx]))
      have h2 := h c (by simp)
      have h3 : (ybs b m + 1) * b ≤ b ^ n * b := Nat.mul_le_mul_right b h1
      rw [Nat.add_mul] at h3
      omega
section ZTok
variable {I : Nat → Nat → Int32} {J : Nat → Nat → Int64} {t u i f s x : Nat} {B : Nat → Nat} {n : Nat}
def yhv (B : Nat → Nat) (n q : Nat) : Int32 := if q < n then nI (B q) else -1
theorem g_M_here {a k : Nat} (hT : yTq I B n) (h4 : I 91 4 = nI a) (h5 : I 91 5 = nI n) (ha : a ≤ 1600) (hk : k ≤ 1600) : f_M_here (zs I J (zPt t u i f s x)) 91 (nI k) = some (yhv B n (a + k)) := by
  have hn := hT.1
  unfold yhv
  by_cases h : a + k < n
  · have hb := hT.2.2 (a + k) h
    have hle : ¬ n ≤ a + k := by omega
    rw [if_pos h]
    simp (disch := (first | omega | assumption)) only [f_M_here, zg_12, gi_12, gp_12_0, ai_92, zbs, nI_add, pk_mul, znI_add1, znI_sub1, znI_subm, zle_nI, zlt_nI, zeq_nI, zle_0, zeq_0, zlt_0, zeq_m, zeq_1, zge_0, zbt0, zbt1, zB_0, zB_1, zB_b, zbool_0, zbool_1, ↓reduceIte, h4, h5, hle, ai_92, hb]
  · have hle : n ≤ a + k := by omega
    rw [if_neg h]
    simp (disch := (first | omega | assumption)) only [f_M_here, zg_12, gi_12, gp_12_0, ai_92, zbs, nI_add, pk_mul, znI_add1, znI_sub1, znI_subm, zle_nI, zlt_nI, zeq_nI, zle_0, zeq_0, zlt_0, zeq_m, zeq_1, zge_0, zbt0, zbt1, zB_0, zB_1, zB_b, zbool_0, zbool_1, ↓reduceIte, h4, h5, hle]
theorem yhv_letter (hT : yTq I B n) (q : Nat) : f_M_isLetter (yhv B n q) = some (zB (decide (q < n) && yltr (B q))) := by
  unfold yhv
  by_cases h : q < n
  · rw [if_pos h, ym_letter _ (hT.2.1 q)]; simp [h]
  · rw [if_neg h, ym_letter1]; simp [h]
theorem yhv_digit (hT : yTq I B n) (q : Nat) : f_M_isDigit (yhv B n q) = some (zB (decide (q < n) && ydig (B q))) := by
  unfold yhv
  by_cases h : q < n
  · rw [if_pos h, ym_digit _ (hT.2.1 q)]; simp [h]
  · rw [if_neg h, ym_digit1]; simp [h]
theorem yhv_in {q : Nat} (h : q < n) : yhv B n q = nI (B q) := if_pos h
/-- the state within a token: at a, with its place -/
def yMs (I : Nat → Nat → Int32) (n a : Nat) : Prop := I 91 5 = nI n ∧ I 91 4 = nI a
theorem ywk_b (w : List Nat) : 3 ≤ ywk w ∧ ywk w ≤ 26 := by
  have : ∀ (L : List (List Nat)) (c : Nat), 3 ≤ c → c + L.length ≤ 27 → 3 ≤ yfw w L c ∧ yfw w L c ≤ 26 := by
    intro L
    induction L with
    | nil => intro c _ _; show 3 ≤ 3 ∧ 3 ≤ 26; decide
    | cons a L ih =>
      intro c h1 h2
      simp at h2
      unfold yfw
      split
      · omega
      · exact ih (c + 1) (by omega) (by omega)
  exact this yWL 4 (by decide) (by decide)
theorem m_232 {a k : Nat} {kd : Nat} (hs : yMs I n a) (h6 : I 91 6 = nI (yso kd)) (hkd : kd < 100) : f_M_token_232 (zs I J (zPt t u i f s x)) 91 (nI k) = some (zs (if kd = 1 then I else zup I 91 4 (nI (a + k))) J (zPt t u i f s x)) := by
  by_cases h1 : kd = 1
  · subst h1
    have e : I 91 6 = 3 := h6
    rw [if_pos rfl]
    simp (disch := (first | omega | assumption)) only [f_M_token_232, gi_12, si_12, eq3, zbs, nI_add, pk_mul, znI_add1, znI_sub1, znI_subm, zle_nI, zlt_nI, zeq_nI, zle_0, zeq_0, zlt_0, zeq_m, zeq_1, zge_0, zbt0, zbt1, zB_0, zB_1, zB_b, zbool_0, zbool_1, ↓reduceIte, e]
  · rw [if_neg h1]
    have e : ¬ yso kd = 3 := by
      unfold yso
      rw [if_neg h1]
      split
      · decide
      · split
        · decide
        · split
          · decide
          · omega
    have e2 : yso kd < 100 := by
      unfold yso
      rw [if_neg h1]; split; decide; split; decide; split; decide; exact hkd
    simp (disch := (first | omega | assumption)) only [f_M_token_232, gi_12, si_12, eq3, zbs, nI_add, pk_mul, znI_add1, znI_sub1, znI_subm, zle_nI, zlt_nI, zeq_nI, zle_0, zeq_0, zlt_0, zeq_m, zeq_1, zge_0, zbt0, zbt1, zB_0, zB_1, zB_b, zbool_0, zbool_1, ↓reduceIte, h6, hs.2, e]
theorem m_word {a : Nat} (hT : yTq I B n) (hs : yMs I n a) (h7 : I 91 7 = nI a) (hj : J 91 9 = 0) (han : a < n) (hl : yltr (B a) = true) : ∃ I' J', f_M_token_78L zfu (zs I J (zPt t u i f s x)) 91 0 = some (zs I' J' (zPt t u i f s x)) ∧ yfm I J I' J' ∧ yMt I' J' n (ytkA B n a) := by
  have hn := hT.1
  have heq : ytkA B n a = ⟨if 8 < ysp yltr B n n a - a then 1 else ywk (ywd B a (ysp yltr B n n a)), a, 0, ywd B a (ysp yltr B n n a), ysp yltr B n n a⟩ := by
    unfold ytkA
    rw [if_pos han, if_pos hl]
  have loop := zwhl (fun fuel (q : (Nat → Nat → Int64) × Nat) => f_M_token_78L fuel (zs I q.1 (zPt t u i f s x)) 91 (nI q.2)) (fun q => n - (a + q.2)) (fun q => (∀ b, b ≠ 91 → q.1 b = J b) ∧ a + q.2 ≤ n ∧ (∀ k, a ≤ k → k < a + q.2 → yltr (B k) = true) ∧ (q.2 ≤ 8 → q.1 91 9 = nJ (ybs 256 (ywd B a (a + q.2))))) (fun r => ∃ I' J', r = some (zs I' J' (zPt t u i f s x)) ∧ yfm I J I' J' ∧ yMt I' J' n (ytkA B n a)) ?_ n (J, 0) zfu (Nat.sub_le _ _) ⟨fun _ _ => rfl, Nat.le_of_lt han, fun k (h1 : a ≤ k) (h2 : k < a) => by omega, fun _ => by
      show J 91 9 = nJ (ybs 256 (ywd B a a))
      rw [ywd_0, hj]; rfl⟩ (zfu_lt (by omega))
  · exact loop
  · rintro m ⟨J1, k⟩ ⟨f1, hkn, hin, hjk⟩
    simp only at f1 hkn hin hjk
    show (∃ I' J', f_M_token_78L (m + 1) _ _ _ = _ ∧ _) ∨ ∃ s', _ ∧ _ ∧ f_M_token_78L (m + 1) _ _ _ = _
    rw [f_M_token_78L]
    have hh := g_M_here (J := J1) (t := t) (u := u) (i := i) (f := f) (s := s) (x := x) hT hs.2 hs.1 (a := a) (k := k) (by omega) (by omega)
    have hlk := yhv_letter hT (a + k)
    by_cases hq : a + k < n ∧ yltr (B (a + k)) = true
    · right
      rw [show (decide (a + k < n) && yltr (B (a + k))) = true by simp [hq.1, hq.2]] at hlk
      have hlb := yltr_b hq.2
      rw [yhv_in hq.1] at hlk hh
      by_cases h8 : 8 ≤ k
      · refine ⟨(J1, k + 1), ⟨f1, by simp only; omega, fun j h1 h2 => ?_, fun h => by simp only at h; omega⟩, by simp only; omega, ?_⟩
        · simp only at h2
          by_cases hj : j = a + k
          · rw [hj]; exact hq.2
          · exact hin j h1 (by omega)
        · simp (disch := (first | omega | assumption)) only [f_M_token_78, gj_12, sj_12, ge8, zbs, nI_add, pk_mul, znI_add1, znI_sub1, znI_subm, zle_nI, zlt_nI, zeq_nI, zle_0, zeq_0, zlt_0, zeq_m, zeq_1, zge_0, zbt0, zbt1, zB_0, zB_1, zB_b, zbool_0, zbool_1, ↓reduceIte, hh, hlk, h8, Bool.true_eq_false]
      · have hc : (nI (B (a + k))).toInt64 = nJ (B (a + k)) := nI_64 (by omega)
        have hJ := nJ_shl (ybs 256 (ywd B a (a + k))) (hT.2.1 (a + k))
        refine ⟨(zup J1 91 9 (nJ (ybs 256 (ywd B a (a + k)) * 256 + B (a + k))), k + 1), ⟨fun b hb => ?_, by simp only; omega, fun j h1 h2 => ?_, fun _ => ?_⟩, by simp only; omega, ?_⟩
        · simp only; rw [zup_ne _ _ _ hb]; exact f1 b hb
        · simp only at h2
          by_cases hj : j = a + k
          · rw [hj]; exact hq.2
          · exact hin j h1 (by omega)
        · simp only
          rw [zup_s, show a + (k + 1) = (a + k) + 1 by omega, ywd_snoc B (by omega), ybs_snoc]
        · simp (disch := (first | omega | assumption)) only [f_M_token_78, gj_12, sj_12, ge8, zbs, nI_add, pk_mul, znI_add1, znI_sub1, znI_subm, zle_nI, zlt_nI, zeq_nI, zle_0, zeq_0, zlt_0, zeq_m, zeq_1, zge_0, zbt0, zbt1, zB_0, zB_1, zB_b, zbool_0, zbool_1, ↓reduceIte, hh, hlk, h8, hjk (by omega), hc, hJ, Bool.true_eq_false]
    · left
      rw [show (decide (a + k < n) && yltr (B (a + k))) = false by
        by_cases h : a + k < n
        · simp [h]; simpa [h] using hq
        · simp [h]] at hlk
      have he : ysp yltr B n n a = a + k := ysp_eq n a (by omega) hkn (by omega) hin (fun h => by simpa [h] using hq)
      rw [heq, he]
      have hak : a + k - a = k := by omega
      rw [hak]
      have hkk := ywk_b (ywd B a (a + k))
      have f0 : yfm I J I J1 := ⟨zfr_refl _ _, f1⟩
      have fin : ∀ kd : Nat, kd = (if 8 < k then 1 else ywk (ywd B a (a + k))) → f_M_token_119 (zs I J1 (zPt t u i f s x)) 91 (nI k) = some (zs (if kd = 1 then zup I 91 6 (nI (yso kd)) else zup (zup I 91 6 (nI (yso kd))) 91 4 (nI (a + k))) J1 (zPt t u i f s x)) := by
        intro kd hkd
        by_cases h8 : k ≤ 8
        · rw [if_neg (by omega)] at hkd
          have e1 : (1 : Int32) = nI (yso kd) := by
            unfold yso
            rw [if_neg (by omega), if_neg (by omega)]
            by_cases h2 : kd = 2
            · omega
            · rw [if_neg h2, if_pos (by omega)]; rfl
          have := m_232 (I := zup I 91 6 (nI (yso kd))) (J := J1) (t := t) (u := u) (i := i) (f := f) (s := s) (x := x) (n := n) (a := a) (k := k) (kd := kd) ⟨(zup_k _ _ (by decide)).trans hs.1, (zup_k _ _ (by decide)).trans hs.2⟩ (zup_s _ _ _ _) (by omega)
          simp (disch := (first | omega | assumption)) only [f_M_token_119, le8, zbs, nI_add, pk_mul, znI_add1, znI_sub1, znI_subm, zle_nI, zlt_nI, zeq_nI, zle_0, zeq_0, zlt_0, zeq_m, zeq_1, zge_0, zbt0, zbt1, zB_0, zB_1, zB_b, zbool_0, zbool_1, ↓reduceIte, h8, f_M_token_131, si_12, e1]
          exact this
        · rw [if_pos (by omega)] at hkd
          subst hkd
          have := m_232 (I := zup I 91 6 (nI (yso 1))) (J := J1) (t := t) (u := u) (i := i) (f := f) (s := s) (x := x) (n := n) (a := a) (k := k) (kd := 1) ⟨(zup_k _ _ (by decide)).trans hs.1, (zup_k _ _ (by decide)).trans hs.2⟩ (zup_s _ _ _ _) (by omega)
          simp (disch := (first | omega | assumption)) only [f_M_token_119, le8, zbs, nI_add, pk_mul, znI_add1, znI_sub1, znI_subm, zle_nI, zlt_nI, zeq_nI, zle_0, zeq_0, zlt_0, zeq_m, zeq_1, zge_0, zbt0, zbt1, zB_0, zB_1, zB_b, zbool_0, zbool_1, ↓reduceIte, h8, f_M_token_131, si_12]
          exact this
      have fin := fin _ rfl
      refine ⟨if (if 8 < k then 1 else ywk (ywd B a (a + k))) = 1 then zup I 91 6 (nI (yso (if 8 < k then 1 else ywk (ywd B a (a + k))))) else zup (zup I 91 6 (nI (yso (if 8 < k then 1 else ywk (ywd B a (a + k)))))) 91 4 (nI (a + k)), J1, ?_, ?_, ?_⟩
      · simp (disch := (first | omega | assumption)) only [f_M_token_78, gj_12, sj_12, ge8, zbs, nI_add, pk_mul, znI_add1, znI_sub1, znI_subm, zle_nI, zlt_nI, zeq_nI, zle_0, zeq_0, zlt_0, zeq_m, zeq_1, zge_0, zbt0, zbt1, zB_0, zB_1, zB_b, zbool_0, zbool_1, ↓reduceIte, hh, hlk]
        exact fin
      · exact yfm_ite (yfm_I (k := 6) f0 rfl) (yfm_I (k := 4) (yfm_I (k := 6) f0 rfl) rfl)
      · by_cases h8 : 8 < k
        · rw [if_pos h8, if_pos rfl]
          refine ⟨zup_s _ _ _ _, ?_, (fun h => by cases h), (fun (h : 3 ≤ 1) => by omega), (fun h => absurd rfl h), ?_⟩
          · rw [zup_k _ _ (by decide)]; exact h7
          · rw [zup_k _ _ (by decide)]; exact hs.1
        · rw [if_neg h8, if_neg (by omega)]
          refine ⟨?_, ?_, (fun h => by simp only at h; omega), (fun _ _ => hjk (by omega)), (fun _ => zup_s _ _ _ _), ?_⟩
          · rw [zup_k _ _ (by decide), zup_s]
          · rw [zup_k _ _ (by decide), zup_k _ _ (by decide)]; exact h7
          · rw [zup_k _ _ (by decide), zup_k _ _ (by decide)]; exact hs.1
theorem m_number {a : Nat} (hT : yTq I B n) (hs : yMs I n a) (h7 : I 91 7 = nI a) (hj : I 91 8 = 0) (han : a < n) (hnl : yltr (B a) = false) (hl : ydig (B a) = true) : ∃ I' J', f_M_token_144L zfu (zs I J (zPt t u i f s x)) 91 0 = some (zs I' J' (zPt t u i f s x)) ∧ yfm I J I' J' ∧ yMt I' J' n (ytkA B n a) := by
  have hn := hT.1
  have heq : ytkA B n a = ⟨if 4 < ysp ydig B n n a - a ∨ (ysp ydig B n n a < n ∧ yltr (B (ysp ydig B n n a)) = true) then 1 else 2, a, ybs 10 ((ywd B a (ysp ydig B n n a)).map (fun c => c - 48)), [], ysp ydig B n n a⟩ := by
    unfold ytkA
    rw [if_pos han, if_neg (by rw [hnl]; decide), if_pos hl]
  have loop := zwhl (fun fuel (q : (Nat → Nat → Int32) × Nat) => f_M_token_144L fuel (zs q.1 J (zPt t u i f s x)) 91 (nI q.2)) (fun q => n - (a + q.2)) (fun q => yfm I J q.1 J ∧ yMs q.1 n a ∧ q.1 91 7 = nI a ∧ a + q.2 ≤ n ∧ (∀ k, a ≤ k → k < a + q.2 → ydig (B k) = true) ∧ (q.2 ≤ 4 → q.1 91 8 = nI (ybs 10 ((ywd B a (a + q.2)).map (fun c => c - 48))))) (fun r => ∃ I' J', r = some (zs I' J' (zPt t u i f s x)) ∧ yfm I J I' J' ∧ yMt I' J' n (ytkA B n a)) ?_ n (I, 0) zfu (Nat.sub_le _ _) ⟨yfm_refl _ _, hs, h7, Nat.le_of_lt han, fun k (h1 : a ≤ k) (h2 : k < a) => by omega, fun _ => hj.trans (yi0 B a)⟩ (zfu_lt (by omega))
  · exact loop
  · rintro m ⟨I1, k⟩ ⟨f1, s1, p1, hkn, hin, hjk⟩
    simp only at f1 s1 p1 hkn hin hjk
    show (∃ I' J', f_M_token_144L (m + 1) _ _ _ = _ ∧ _) ∨ ∃ s', _ ∧ _ ∧ f_M_token_144L (m + 1) _ _ _ = _
    rw [f_M_token_144L]
    have hh := g_M_here (J := J) (t := t) (u := u) (i := i) (f := f) (s := s) (x := x) (yTq_fm hT f1) s1.2 s1.1 (a := a) (k := k) (by omega) (by omega)
    have hlk := yhv_digit hT (a + k)
    have hll := yhv_letter hT (a + k)
    by_cases hq : a + k < n ∧ ydig (B (a + k)) = true
    · right
      rw [show (decide (a + k < n) && ydig (B (a + k))) = true by simp [hq.1, hq.2]] at hlk
      have hlb := ydig_b hq.2
      rw [yhv_in hq.1] at hlk hh
      by_cases h8 : 4 ≤ k
      · refine ⟨(I1, k + 1), ⟨f1, s1, p1, by simp only; omega, fun j h1 h2 => ?_, fun h => by simp only at h; omega⟩, by simp only; omega, ?_⟩
        · simp only at h2
          by_cases hj : j = a + k
          · rw [hj]; exact hq.2
          · exact hin j h1 (by omega)
        · simp (disch := (first | omega | assumption)) only [f_M_token_144, gi_12, si_12, ge4, ml10, zbs, nI_add, pk_mul, znI_add1, znI_sub1, znI_subm, zle_nI, zlt_nI, zeq_nI, zle_0, zeq_0, zlt_0, zeq_m, zeq_1, zge_0, zbt0, zbt1, zB_0, zB_1, zB_b, zbool_0, zbool_1, ↓reduceIte, hh, hlk, h8, Bool.true_eq_false]
      · have hJ : 10 * nI (ybs 10 ((ywd B a (a + k)).map (fun c => c - 48))) + nI (B (a + k)) - 48 = nI (ybs 10 ((ywd B a (a + (k + 1))).map (fun c => c - 48))) := by
          rw [show a + (k + 1) = a + k + 1 by omega, ywd_snoc B (by omega), List.map_append]
          show 10 * nI _ + nI (B (a + k)) - 48 = nI (ybs 10 (_ ++ [B (a + k) - 48]))
          rw [ybs_snoc, ml10, nI_add, show (48 : Int32) = nI 48 from rfl, pk_sub (by omega)]
          congr 1
          omega
        refine ⟨(zup I1 91 8 (nI (ybs 10 ((ywd B a (a + (k + 1))).map (fun c => c - 48)))), k + 1), ⟨yfm_I (k := 8) f1 rfl, ⟨(zup_k I1 (a := 91) (k := 8) (j := 5) (nI (ybs 10 ((ywd B a (a + (k + 1))).map (fun c => c - 48)))) (by decide)).trans s1.1, (zup_k I1 (a := 91) (k := 8) (j := 4) (nI (ybs 10 ((ywd B a (a + (k + 1))).map (fun c => c - 48)))) (by decide)).trans s1.2⟩, (zup_k I1 (a := 91) (k := 8) (j := 7) (nI (ybs 10 ((ywd B a (a + (k + 1))).map (fun c => c - 48)))) (by decide)).trans p1, by simp only; omega, fun j h1 h2 => ?_, fun _ => zup_s I1 91 8 (nI (ybs 10 ((ywd B a (a + (k + 1))).map (fun c => c - 48))))⟩, by simp only; omega, ?_⟩
        · simp only at h2
          by_cases hj : j = a + k
          · rw [hj]; exact hq.2
          · exact hin j h1 (by omega)
        · rw [← hJ]
          have h8' := hjk (by omega)
          simp (disch := (first | omega | assumption)) only [f_M_token_144, hh, hlk, zbs, zB_0, Bool.true_eq_false, ↓reduceIte, ge4, h8, gi_12, h8', si_12, znI_add1]
    · left
      rw [show (decide (a + k < n) && ydig (B (a + k))) = false by
        by_cases h : a + k < n
        · simp [h]; simpa [h] using hq
        · simp [h]] at hlk
      have he : ysp ydig B n n a = a + k := ysp_eq n a (by omega) hkn (by omega) hin (fun h => by simpa [h] using hq)
      rw [heq, he]
      have hak : a + k - a = k := by omega
      rw [hak]
      have fin : ∀ kd : Nat, kd = (if 4 < k ∨ (a + k < n ∧ yltr (B (a + k)) = true) then 1 else 2) → f_M_token_186 (zs I1 J (zPt t u i f s x)) 91 (nI k) = some (zs (if kd = 1 then zup I1 91 6 (nI (yso kd)) else zup (zup I1 91 6 (nI (yso kd))) 91 4 (nI (a + k))) J (zPt t u i f s x)) := by
        intro kd hkd
        have h208 : ∀ kd, (kd = 1 ∨ kd = 2) → f_M_token_208 (zs I1 J (zPt t u i f s x)) 91 (nI k) (nI (yso kd)) 91 = some (zs (if kd = 1 then zup I1 91 6 (nI (yso kd)) else zup (zup I1 91 6 (nI (yso kd))) 91 4 (nI (a + k))) J (zPt t u i f s x)) := by
          intro kd hkd
          have := m_232 (I := zup I1 91 6 (nI (yso kd))) (J := J) (t := t) (u := u) (i := i) (f := f) (s := s) (x := x) (n := n) (a := a) (k := k) (kd := kd) ⟨(zup_k _ _ (by decide)).trans s1.1, (zup_k _ _ (by decide)).trans s1.2⟩ (zup_s _ _ _ _) (by omega)
          simp (disch := (first | omega | assumption)) only [f_M_token_208, si_12, zbs, nI_add, pk_mul, znI_add1, znI_sub1, znI_subm, zle_nI, zlt_nI, zeq_nI, zle_0, zeq_0, zlt_0, zeq_m, zeq_1, zge_0, zbt0, zbt1, zB_0, zB_1, zB_b, zbool_0, zbool_1, ↓reduceIte]
          exact this
        have h203 : f_M_token_203 (zs I1 J (zPt t u i f s x)) 91 (nI k) 91 = _ := h208 1 (Or.inl rfl)
        by_cases h4 : 4 < k
        · rw [if_pos (Or.inl h4)] at hkd
          subst hkd
          simp (disch := (first | omega | assumption)) only [f_M_token_186, gt4, zbs, nI_add, pk_mul, znI_add1, znI_sub1, znI_subm, zle_nI, zlt_nI, zeq_nI, zle_0, zeq_0, zlt_0, zeq_m, zeq_1, zge_0, zbt0, zbt1, zB_0, zB_1, zB_b, zbool_0, zbool_1, ↓reduceIte, h4]
          exact h203
        · by_cases hle : a + k < n ∧ yltr (B (a + k)) = true
          · rw [if_pos (Or.inr hle)] at hkd
            subst hkd
            rw [show (decide (a + k < n) && yltr (B (a + k))) = true by simp [hle.1, hle.2]] at hll
            simp (disch := (first | omega | assumption)) only [f_M_token_186, gt4, zbs, nI_add, pk_mul, znI_add1, znI_sub1, znI_subm, zle_nI, zlt_nI, zeq_nI, zle_0, zeq_0, zlt_0, zeq_m, zeq_1, zge_0, zbt0, zbt1, zB_0, zB_1, zB_b, zbool_0, zbool_1, ↓reduceIte, h4, hh, hll, Bool.true_eq_false]
            exact h203
          · rw [if_neg (by rintro (h | h); exact h4 h; exact hle h)] at hkd
            subst hkd
            rw [show (decide (a + k < n) && yltr (B (a + k))) = false by
              by_cases h : a + k < n
              · simp [h]; simpa [h] using hle
              · simp [h]] at hll
            have h2 := h208 2 (Or.inr rfl)
            simp (disch := (first | omega | assumption)) only [f_M_token_186, gt4, zbs, nI_add, pk_mul, znI_add1, znI_sub1, znI_subm, zle_nI, zlt_nI, zeq_nI, zle_0, zeq_0, zlt_0, zeq_m, zeq_1, zge_0, zbt0, zbt1, zB_0, zB_1, zB_b, zbool_0, zbool_1, ↓reduceIte, h4, hh, hll]
            exact h2
      have fin := fin _ rfl
      refine ⟨if (if 4 < k ∨ (a + k < n ∧ yltr (B (a + k)) = true) then 1 else 2) = 1 then zup I1 91 6 (nI (yso (if 4 < k ∨ (a + k < n ∧ yltr (B (a + k)) = true) then 1 else 2))) else zup (zup I1 91 6 (nI (yso (if 4 < k ∨ (a + k < n ∧ yltr (B (a + k)) = true) then 1 else 2)))) 91 4 (nI (a + k)), J, ?_, ?_, ?_⟩
      · simp (disch := (first | omega | assumption)) only [f_M_token_144, gi_12, si_12, ge4, ml10, zbs, nI_add, pk_mul, znI_add1, znI_sub1, znI_subm, zle_nI, zlt_nI, zeq_nI, zle_0, zeq_0, zlt_0, zeq_m, zeq_1, zge_0, zbt0, zbt1, zB_0, zB_1, zB_b, zbool_0, zbool_1, ↓reduceIte, hh, hlk]
        exact fin
      · exact yfm_ite (yfm_I (k := 6) f1 rfl) (yfm_I (k := 4) (yfm_I (k := 6) f1 rfl) rfl)
      · by_cases h8 : 4 < k ∨ (a + k < n ∧ yltr (B (a + k)) = true)
        · rw [if_pos h8, if_pos rfl]
          refine ⟨zup_s _ _ _ _, ?_, (fun h => by cases h), (fun (h : 3 ≤ 1) => by omega), (fun h => absurd rfl h), ?_⟩
          · rw [zup_k _ _ (by decide)]; exact p1
          · rw [zup_k _ _ (by decide)]; exact s1.1
        · rw [if_neg h8, if_neg (by decide)]
          refine ⟨?_, ?_, (fun _ => ?_), (fun (h : 3 ≤ 2) => by omega), (fun _ => zup_s _ _ _ _), ?_⟩
          · rw [zup_k _ _ (by decide), zup_s]
          · rw [zup_k _ _ (by decide), zup_k _ _ (by decide)]; exact p1
          · rw [zup_k _ _ (by decide), zup_k _ _ (by decide)]; exact hjk (by omega)
          · rw [zup_k _ _ (by decide), zup_k _ _ (by decide)]; exact s1.1
theorem m_33 {a : Nat} (hT : yTq I B n) (hs : yMs I n a) (han : a ≤ n) : ∃ I' J', f_M_token_33 (zs I J (zPt t u i f s x)) 91 = some (zs I' J' (zPt t u i f s x)) ∧ yfm I J I' J' ∧ yMt I' J' n (ytkA B n a) := by
  have hn := hT.1
  have f1 : yfm I J (zup (zup I 91 7 (nI a)) 91 8 0) (zup J 91 9 0) := yfm_J (yfm_I (yfm_I (yfm_refl _ _) (by decide)) (by decide))
  have s1 : yMs (zup (zup I 91 7 (nI a)) 91 8 0) n a := ⟨(zup_k _ _ (by decide)).trans ((zup_k _ _ (by decide)).trans hs.1), (zup_k _ _ (by decide)).trans ((zup_k _ _ (by decide)).trans hs.2)⟩
  have p1 : zup (zup I 91 7 (nI a)) 91 8 0 91 7 = nI a := (zup_k _ _ (by decide)).trans (zup_s _ _ _ _)
  have hT0 : yTq (zup I 91 7 (nI a)) B n := yTq_fm hT (yfm_I (J := J) (yfm_refl _ _) (by decide))
  have hh := g_M_here (I := zup I 91 7 (nI a)) (J := J) (t := t) (u := u) (i := i) (f := f) (s := s) (x := x) hT0 (a := a) (k := 0) ((zup_k _ _ (by decide)).trans hs.2) ((zup_k _ _ (by decide)).trans hs.1) (by omega) (by omega)
  have hT1 := yTq_fm hT f1
  rw [Nat.add_zero] at hh
  by_cases hlt : a < n
  · have l1 := ym_letter (B a) (hT.2.1 a)
    have l2 := ym_digit (B a) (hT.2.1 a)
    have l3 := ym_sign (B a) (hT.2.1 a)
    have hb := hT.2.1 a
    rw [yhv_in hlt] at hh
    have hh : f_M_here (zs (zup I 91 7 (nI a)) J (zPt t u i f s x)) 91 0 = some (nI (B a)) := hh
    cases hq : yltr (B a) with
    | true =>
      obtain ⟨I', J', e1, e2, e3⟩ := m_word (J := zup J 91 9 0) (t := t) (u := u) (i := i) (f := f) (s := s) (x := x) hT1 s1 p1 (zup_s _ _ _ _) hlt hq
      refine ⟨I', J', ?_, yfm_trans f1 e2, e3⟩
      rw [hq] at l1
      simp (disch := (first | omega | assumption)) only [f_M_token_33, gi_12, si_12, sj_12, zbs, nI_add, pk_mul, znI_add1, znI_sub1, znI_subm, zle_nI, zlt_nI, zeq_nI, zle_0, zeq_0, zlt_0, zeq_m, zeq_1, zge_0, zbt0, zbt1, zB_0, zB_1, zB_b, zbool_0, zbool_1, ↓reduceIte, hs.2, hh, l1, e1, Bool.true_eq_false]
    | false =>
      cases hd : ydig (B a) with
      | true =>
        obtain ⟨I', J', e1, e2, e3⟩ := m_number (J := zup J 91 9 0) (t := t) (u := u) (i := i) (f := f) (s := s) (x := x) hT1 s1 p1 (zup_s _ _ _ _) hlt hq hd
        refine ⟨I', J', ?_, yfm_trans f1 e2, e3⟩
        rw [hq] at l1
        rw [hd] at l2
        simp (disch := (first | omega | assumption)) only [f_M_token_33, gi_12, si_12, sj_12, zbs, nI_add, pk_mul, znI_add1, znI_sub1, znI_subm, zle_nI, zlt_nI, zeq_nI, zle_0, zeq_0, zlt_0, zeq_m, zeq_1, zge_0, zbt0, zbt1, zB_0, zB_1, zB_b, zbool_0, zbool_1, ↓reduceIte, hs.2, hh, l1, l2, e1, Bool.true_eq_false]
      | false =>
        have heq : ytkA B n a = ⟨if ysgn (B a) = true then B a else 1, a, 0, [], a + 1⟩ := by
          unfold ytkA
          rw [if_pos hlt, if_neg (by rw [hq]; decide), if_neg (by rw [hd]; decide)]
        rw [hq] at l1
        rw [hd] at l2
        have fin : ∀ (w : Nat) (k6 : Int32), k6 = nI (yso w) → w ≠ 2 → ¬ (3 ≤ w ∧ w ≤ 26) → w < 100 → ∃ I' J', f_M_token_229 (zs (zup (zup I 91 7 (nI a)) 91 8 0) (zup J 91 9 0) (zPt t u i f s x)) 91 1 k6 91 = some (zs I' J' (zPt t u i f s x)) ∧ yfm I J I' J' ∧ yMt I' J' n ⟨w, a, 0, [], a + 1⟩ := by
          intro w k6 hk hw2 hw3 hw
          have := m_232 (I := zup (zup (zup I 91 7 (nI a)) 91 8 0) 91 6 k6) (J := zup J 91 9 0) (t := t) (u := u) (i := i) (f := f) (s := s) (x := x) (n := n) (a := a) (k := 1) (kd := w) ⟨(zup_k _ _ (by decide)).trans s1.1, (zup_k _ _ (by decide)).trans s1.2⟩ ((zup_s _ _ _ _).trans hk) hw
          refine ⟨if w = 1 then zup (zup (zup I 91 7 (nI a)) 91 8 0) 91 6 k6 else zup (zup (zup (zup I 91 7 (nI a)) 91 8 0) 91 6 k6) 91 4 (nI (a + 1)), zup J 91 9 0, ?_, ?_, ?_⟩
          · simp (disch := (first | omega | assumption)) only [f_M_token_229, si_12, zbs, nI_add, pk_mul, znI_add1, znI_sub1, znI_subm, zle_nI, zlt_nI, zeq_nI, zle_0, zeq_0, zlt_0, zeq_m, zeq_1, zge_0, zbt0, zbt1, zB_0, zB_1, zB_b, zbool_0, zbool_1, ↓reduceIte]
            exact this
          · split
            · exact yfm_I (k := 6) f1 rfl
            · exact yfm_I (k := 4) (yfm_I (k := 6) f1 rfl) rfl
          · by_cases h1 : w = 1
            · rw [if_pos h1]
              refine ⟨(zup_s _ _ _ _).trans hk, (zup_k _ _ (by decide)).trans p1, (fun h => absurd h hw2), (fun h h' => absurd ⟨h, h'⟩ hw3), (fun h => absurd h1 h), (zup_k _ _ (by decide)).trans s1.1⟩
            · rw [if_neg h1]
              refine ⟨(zup_k _ _ (by decide)).trans ((zup_s _ _ _ _).trans hk), (zup_k _ _ (by decide)).trans ((zup_k _ _ (by decide)).trans p1), (fun h => absurd h hw2), (fun h h' => absurd ⟨h, h'⟩ hw3), (fun _ => zup_s _ _ _ _), (zup_k _ _ (by decide)).trans ((zup_k _ _ (by decide)).trans s1.1)⟩
        cases hsg : ysgn (B a) with
        | false =>
          rw [hsg] at l3
          obtain ⟨I', J', e1, e2⟩ := fin 1 3 rfl (by decide) (by decide) (by decide)
          refine ⟨I', J', ?_, by rw [heq, hsg]; exact e2⟩
          simp (disch := (first | omega | assumption)) only [f_M_token_33, gi_12, si_12, sj_12, zbs, nI_add, pk_mul, znI_add1, znI_sub1, znI_subm, zle_nI, zlt_nI, zeq_nI, zle_0, zeq_0, zlt_0, zeq_m, zeq_1, zge_0, zbt0, zbt1, zB_0, zB_1, zB_b, zbool_0, zbool_1, ↓reduceIte, hs.2, hh, l1, l2, l3, e1]
        | true =>
          rw [hsg] at l3
          have hsb := ysgn_b hsg
          obtain ⟨I', J', e1, e2⟩ := fin (B a) (nI (B a)) (by unfold yso; rw [if_neg (by omega), if_neg (by omega), if_neg (by omega), if_neg (by omega)]) (by omega) (by omega) (by omega)
          refine ⟨I', J', ?_, by rw [heq, hsg]; exact e2⟩
          simp (disch := (first | omega | assumption)) only [f_M_token_33, gi_12, si_12, sj_12, zbs, nI_add, pk_mul, znI_add1, znI_sub1, znI_subm, zle_nI, zlt_nI, zeq_nI, zle_0, zeq_0, zlt_0, zeq_m, zeq_1, zge_0, zbt0, zbt1, zB_0, zB_1, zB_b, zbool_0, zbool_1, ↓reduceIte, hs.2, hh, l1, l2, l3, e1, Bool.true_eq_false]
  · have hae : a = n := by omega
    subst hae
    have heq : ytkA B a a = ⟨0, a, 0, [], a⟩ := by
      unfold ytkA
      rw [if_neg hlt]
    have hh : f_M_here (zs (zup I 91 7 (nI a)) J (zPt t u i f s x)) 91 0 = some (-1) := by rw [show (0 : Int32) = nI 0 from rfl, hh]; unfold yhv; rw [if_neg hlt]
    have n0 : ¬ (0 : Int32) ≤ -1 := by decide
    have := m_232 (I := zup (zup (zup I 91 7 (nI a)) 91 8 0) 91 6 0) (J := zup J 91 9 0) (t := t) (u := u) (i := i) (f := f) (s := s) (x := x) (n := a) (a := a) (k := 0) (kd := 0) ⟨(zup_k _ _ (by decide)).trans s1.1, (zup_k _ _ (by decide)).trans s1.2⟩ (zup_s _ _ _ _) (by decide)
    rw [if_neg (by decide)] at this
    refine ⟨_, _, ?_, yfm_J (yfm_I (yfm_I (yfm_I (yfm_I (yfm_refl _ _) (k := 7) (v := nI a) (by decide)) (k := 8) (v := 0) (by decide)) (k := 6) (v := 0) (by decide)) (k := 4) (v := nI (a + 0)) (by decide)) (k := 9) (v := 0), ?_⟩
    · simp (disch := (first | omega | assumption)) only [f_M_token_33, gi_12, si_12, sj_12, zbs, nI_add, pk_mul, znI_add1, znI_sub1, znI_subm, zle_nI, zlt_nI, zeq_nI, zle_0, zeq_0, zlt_0, zeq_m, zeq_1, zge_0, zbt0, zbt1, zB_0, zB_1, zB_b, zbool_0, zbool_1, ↓reduceIte, hs.2, hh, n0]
      exact this
    · rw [heq]
      refine ⟨(zup_k _ _ (by decide)).trans (zup_s _ _ _ _), (zup_k _ _ (by decide)).trans ((zup_k _ _ (by decide)).trans p1), (fun h => by cases h), (fun (h : 3 ≤ 0) => by omega), (fun _ => zup_s _ _ _ _), (zup_k _ _ (by decide)).trans ((zup_k _ _ (by decide)).trans s1.1)⟩
/-- the next token -/
theorem m_token {p : Nat} (hT : yTq I B n) (hs : yMs I n p) (hp : p ≤ n) : ∃ I' J', f_M_token (zs I J (zPt t u i f s x)) 91 = some (zs I' J' (zPt t u i f s x)) ∧ yfm I J I' J' ∧ yMt I' J' n (ytok B n p) := by
  have hn := hT.1
  have loop := zwhl (fun fuel (q : (Nat → Nat → Int32) × Nat) => f_M_token_0L fuel (zs q.1 J (zPt t u i f s x)) 91) (fun q => n - q.2) (fun q => yfm I J q.1 J ∧ yMs q.1 n q.2 ∧ p ≤ q.2 ∧ q.2 ≤ n ∧ (∀ k, p ≤ k → k < q.2 → yblk (B k) = true)) (fun r => ∃ I' J', r = some (zs I' J' (zPt t u i f s x)) ∧ yfm I J I' J' ∧ yMt I' J' n (ytok B n p)) ?_ n (I, p) zfu (Nat.sub_le _ _) ⟨yfm_refl _ _, hs, Nat.le_refl _, hp, fun k (h1 : p ≤ k) (h2 : k < p) => by omega⟩ (zfu_lt (by omega))
  · obtain ⟨I', J', e1, e2⟩ := loop
    refine ⟨I', J', ?_, e2⟩
    have e1 : f_M_token_0L zfu (zs I J (zPt t u i f s x)) 91 = _ := e1
    simp (disch := (first | omega | assumption)) only [f_M_token, zg_12, zbs, nI_add, pk_mul, znI_add1, znI_sub1, znI_subm, zle_nI, zlt_nI, zeq_nI, zle_0, zeq_0, zlt_0, zeq_m, zeq_1, zge_0, zbt0, zbt1, zB_0, zB_1, zB_b, zbool_0, zbool_1, ↓reduceIte, e1]
  · rintro m ⟨I1, k⟩ ⟨f1, s1, hpk, hkn, hin⟩
    simp only at f1 s1 hpk hkn hin
    show (∃ I' J', f_M_token_0L (m + 1) _ _ = _ ∧ _) ∨ ∃ s', _ ∧ _ ∧ f_M_token_0L (m + 1) _ _ = _
    rw [f_M_token_0L]
    have hh := g_M_here (J := J) (t := t) (u := u) (i := i) (f := f) (s := s) (x := x) (yTq_fm hT f1) s1.2 s1.1 (a := k) (k := 0) (by omega) (by omega)
    rw [Nat.add_zero] at hh
    have hh : f_M_here (zs I1 J (zPt t u i f s x)) 91 0 = some (yhv B n k) := hh
    by_cases hq : k < n ∧ yblk (B k) = true
    · right
      refine ⟨(zup I1 91 4 (nI (k + 1)), k + 1), ⟨yfm_I (k := 4) f1 rfl, ⟨(zup_k I1 (a := 91) (k := 4) (j := 5) (nI (k + 1)) (by decide)).trans s1.1, zup_s I1 91 4 (nI (k + 1))⟩, by simp only; omega, by simp only; omega, fun j h1 h2 => ?_⟩, by simp only; omega, ?_⟩
      · simp only at h2
        by_cases hj : j = k
        · rw [hj]; exact hq.2
        · exact hin j h1 (by omega)
      · rw [yhv_in hq.1] at hh
        have hb : B k = 32 ∨ B k = 10 := by simpa [yblk] using hq.2
        have k20 : f_M_token_20 (f_M_token_0L m) (zs I1 J (zPt t u i f s x)) 91 = f_M_token_0L m (zs (zup I1 91 4 (nI (k + 1))) J (zPt t u i f s x)) 91 := by simp (disch := (first | omega | assumption)) only [f_M_token_20, gi_12, si_12, zbs, nI_add, pk_mul, znI_add1, znI_sub1, znI_subm, zle_nI, zlt_nI, zeq_nI, zle_0, zeq_0, zlt_0, zeq_m, zeq_1, zge_0, zbt0, zbt1, zB_0, zB_1, zB_b, zbool_0, zbool_1, ↓reduceIte, s1.2]
        rcases hb with hb | hb
        · rw [hb] at hh
          rw [f_M_token_0, hh]
          simp only [zbs]
          rw [if_pos (show nI 32 = (32 : Int32) from rfl)]
          exact k20
        · rw [hb] at hh
          rw [f_M_token_0, hh]
          simp only [zbs]
          rw [if_neg (by decide), if_pos (show nI 10 = (10 : Int32) from rfl)]
          exact k20
    · left
      have hend : k < n → yblk (B k) = false := fun h => by simpa [h] using hq
      have he : ysp yblk B n n p = k := ysp_eq n p hpk hkn (by omega) hin hend
      obtain ⟨I', J', e1, e2, e3⟩ := m_33 (J := J) (t := t) (u := u) (i := i) (f := f) (s := s) (x := x) (yTq_fm hT f1) s1 hkn
      refine ⟨I', J', ?_, yfm_trans f1 e2, by rw [ytok, he]; exact e3⟩
      have n32 : ¬ yhv B n k = 32 ∧ ¬ yhv B n k = 10 := by
        unfold yhv
        by_cases h : k < n
        · rw [if_pos h]
          have hb := hT.2.1 k
          have h2 : ¬ B k = 32 ∧ ¬ B k = 10 := by simpa [yblk] using hend h
          rw [eq32 (by omega), eq10 (by omega)]
          exact h2
        · rw [if_neg h]; decide
      rw [f_M_token_0, hh]
      simp only [zbs]
      rw [if_neg n32.1, if_neg n32.2]
      exact e1
end ZTok
