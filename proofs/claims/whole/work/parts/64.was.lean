/-! was -/
/-- what is left, in both -/
def zLf (I : Nat → Nat → Int32) (nb : Nat) (S : List Nat) : Prop := I 0 16 = nI S.length ∧ I 91 71 = nI S.length ∧ S.length ≤ 10 ∧ S.Nodup ∧ ∀ k b, S[k]? = some b → I 74 k = nI b ∧ I 124 k = nI b ∧ b < nb
theorem zLf_fr {I I' : Nat → Nat → Int32} {nb : Nat} {S : List Nat} (h : zLf I nb S) (hf : zfr zSg I I') : zLf I' nb S := by
  unfold zLf
  rw [hf 0 16 rfl, hf 91 71 rfl, zfr_row hf 74 (fun _ => rfl), zfr_row hf 124 (fun _ => rfl)]
  exact h
/-- L begins with S -/
def zbg (L S : List Nat) : Bool := (List.range S.length).all (fun k => L[k]? == S[k]?)
theorem zbg_iff {L S : List Nat} : zbg L S = true ↔ ∀ k, k < S.length → L[k]? = S[k]? := by
  unfold zbg
  rw [List.all_eq_true]
  constructor
  · intro h k hk
    have := h k (List.mem_range.mpr hk)
    exact eq_of_beq this
  · intro h k hk
    rw [h k (List.mem_range.mp hk)]
    exact beq_self_eq_true _
theorem zbg_no {L S : List Nat} {k : Nat} (hk : k < S.length) (h : L[k]? ≠ S[k]?) : zbg L S = false := by
  cases hq : zbg L S with
  | false => rfl
  | true => exact absurd (zbg_iff.mp hq k hk) h
section ZWas
variable {I : Nat → Nat → Int32} {J : Nat → Nat → Int64} {t u i f s x : Nat} {nt nb nr q sh md om im : Nat} {LW BW : List Int32}
theorem g_S_beginsWith {L S : List Nat} (hL : zLx I L) (hLl : L.length ≤ 10) (hLb : ∀ b, b ∈ L → b < 10) (hnb : nb ≤ 10) (hS : zLf I nb S) : f_S_beginsWith (zs I J (zPt t u i f s x)) 47 74 (nI S.length) = some (zB (zbg L S)) := by
  obtain ⟨h16, -, hc, -, hSk⟩ := hS
  by_cases hle : S.length ≤ L.length
  · have h := zforW (fun fuel (_ : Unit) k => f_S_beginsWith_12L fuel (zs I J (zPt t u i f s x)) 47 74 (nI S.length) (nI k)) S.length (fun k _ => ∀ j, j < k → L[j]? = S[j]?) (fun r => r = some (zB (zbg L S)))
      (fun m k _ hk hi => by
        have hle2 : ¬ S.length ≤ k := by omega
        obtain ⟨b, hb⟩ : ∃ b, L[k]? = some b := ⟨L[k]'(by omega), List.getElem?_eq_getElem (by omega)⟩
        obtain ⟨c, hc⟩ : ∃ c, S[k]? = some c := ⟨S[k]'(by omega), List.getElem?_eq_getElem (by omega)⟩
        have e1 := hL.2 k b hb
        obtain ⟨e2, -, hcb⟩ := hSk k c hc
        have hb10 := hLb b (List.mem_of_getElem? hb)
        show f_S_beginsWith_12L (m + 1) _ _ _ _ _ = _ ∨ ∃ s', _ ∧ f_S_beginsWith_12L (m + 1) _ _ _ _ _ = _
        rw [f_S_beginsWith_12L]
        by_cases hbc : b = c
        · right
          refine ⟨(), fun j hj => ?_, ?_⟩
          · by_cases hjk : j = k
            · subst hjk; rw [hb, hc, hbc]
            · exact hi j (by omega)
          · simp (disch := (first | omega | assumption)) only [f_S_beginsWith_12, gp_8_5, ai_50, zbs, nI_add, pk_mul, znI_add1, znI_sub1, znI_subm, zle_nI, zlt_nI, zeq_nI, zle_0, zeq_0, zlt_0, zeq_m, zeq_1, zge_0, zbt0, zbt1, zB_0, zB_1, zB_b, zbool_0, zbool_1, ↓reduceIte, hle2, e1, e2, hbc, ai_74]
        · left
          rw [zbg_no hk (by rw [hb, hc]; exact fun h => hbc (Option.some.inj h))]
          simp (disch := (first | omega | assumption)) only [f_S_beginsWith_12, gp_8_5, ai_50, zbs, nI_add, pk_mul, znI_add1, znI_sub1, znI_subm, zle_nI, zlt_nI, zeq_nI, zle_0, zeq_0, zlt_0, zeq_m, zeq_1, zge_0, zbt0, zbt1, zB_0, zB_1, zB_b, zbool_0, zbool_1, ↓reduceIte, hle2, e1, e2, hbc, ai_74]
          rfl)
      (fun m _ hi => by
        show f_S_beginsWith_12L (m + 1) _ _ _ _ _ = _
        rw [f_S_beginsWith_12L, zbg_iff.mpr hi]
        simp (disch := (first | omega | assumption)) only [f_S_beginsWith_12, gp_8_5, ai_50, zbs, nI_add, pk_mul, znI_add1, znI_sub1, znI_subm, zle_nI, zlt_nI, zeq_nI, zle_0, zeq_0, zlt_0, zeq_m, zeq_1, zge_0, zbt0, zbt1, zB_0, zB_1, zB_b, zbool_0, zbool_1, ↓reduceIte, Nat.le_refl]
        rfl) S.length 0 () zfu (by omega) (fun j hj => by omega) (zfu_lt (by omega))
    have h : f_S_beginsWith_12L zfu (zs I J (zPt t u i f s x)) 47 74 (nI S.length) 0 = some (zB (zbg L S)) := h
    simp (disch := (first | omega | assumption)) only [f_S_beginsWith, zg_8, gi_8, zbs, nI_add, pk_mul, znI_add1, znI_sub1, znI_subm, zle_nI, zlt_nI, zeq_nI, zle_0, zeq_0, zlt_0, zeq_m, zeq_1, zge_0, zbt0, zbt1, zB_0, zB_1, zB_b, zbool_0, zbool_1, ↓reduceIte, hL.1, hle, h]
  · have : zbg L S = false := zbg_no (k := L.length) (by omega) (by
      rw [List.getElem?_eq_none (Nat.le_refl _), List.getElem?_eq_getElem (by omega)]
      exact fun h => by cases h)
    rw [this]
    simp (disch := (first | omega | assumption)) only [f_S_beginsWith, zg_8, gi_8, zbs, nI_add, pk_mul, znI_add1, znI_sub1, znI_subm, zle_nI, zlt_nI, zeq_nI, zle_0, zeq_0, zlt_0, zeq_m, zeq_1, zge_0, zbt0, zbt1, zB_0, zB_1, zB_b, zbool_0, zbool_1, ↓reduceIte, hL.1, hle]
    rfl
def zwf (B : Nat → Bool) (k : Nat) (p : Nat × Int32 × Int32) : Nat × Int32 × Int32 := if B k = true then (p.1 + 1, p.2.1 &&& nI k, p.2.2 ||| nI k) else p
theorem zwf_0 (B : Nat → Bool) (a : Int32) : ∀ d, (zrn (zwf B) d 0 (0, a, 0)).1 ≤ d ∧ ((zrn (zwf B) d 0 (0, a, 0)).1 = 0 → (zrn (zwf B) d 0 (0, a, 0)).2.2 = 0) := by
  intro d
  induction d with
  | zero => exact ⟨Nat.le_refl _, fun _ => rfl⟩
  | succ d ih =>
    rw [zrn_succ]
    unfold zwf
    split
    · refine ⟨?_, fun h => ?_⟩
      · show _ + 1 ≤ d + 1
        have := ih.1
        unfold zwf at this
        omega
      · exact absurd h (Nat.succ_ne_zero _)
    · refine ⟨?_, ih.2⟩
      have := ih.1
      unfold zwf at this
      omega
theorem x_wasL (hC : zCo I t nt nb nr q sh md om im LW BW) {S : List Nat} (hLf : zLf I nb S) (w : Int32) {I1 : Nat → Nat → Int32} (hf1 : zfr zSg I I1) (hS : zSh I1 t nb nr q (zhm nb om)) (hK : ∀ r b, r < nr → b < nb → zKx I1 r b = zKy I nt LW r b) (a : Int32) :
    ∃ I2, zfr zSg I I2 ∧ f_W_was_46L zfu (zs I1 J (zPt t u i f t x)) 0 w 0 a 0 0 = f_W_was_108 (zs I2 J (zPt t u i f t x)) w (nI (zrn (zwf (fun set => zbg (zL I nt nb nr q om LW set) S)) (2 ^ nr) 0 (0, a, 0)).1) (zrn (zwf (fun set => zbg (zL I nt nb nr q om LW set) S)) (2 ^ nr) 0 (0, a, 0)).2.1 (zrn (zwf (fun set => zbg (zL I nt nb nr q om LW set) S)) (2 ^ nr) 0 (0, a, 0)).2.2 := by
  have ht := hC.1
  have hnb := hS.2.1
  have hnr := hS.2.2.2.1
  have hpw : 2 ^ nr ≤ 64 := Nat.le_trans (Nat.pow_le_pow_right (by decide) hnr) (by decide)
  obtain ⟨Q, ⟨h1, -, -, h2⟩, h3⟩ := zfor (fun fuel (q : (Nat → Nat → Int32) × (Nat × Int32 × Int32)) k => f_W_was_46L fuel (zs q.1 J (zPt t u i f t x)) 0 w (nI q.2.1) q.2.2.1 q.2.2.2 (nI k)) (2 ^ nr)
    (fun k q' => zfr zSg I q'.1 ∧ zSh q'.1 t nb nr q (zhm nb om) ∧ (∀ r b, r < nr → b < nb → zKx q'.1 r b = zKy I nt LW r b) ∧ q'.2 = zrn (zwf (fun set => zbg (zL I nt nb nr q om LW set) S)) k 0 (0, a, 0))
    (fun q => f_W_was_108 (zs q.1 J (zPt t u i f t x)) w (nI q.2.1) q.2.2.1 q.2.2.2)
    (fun m k Q hk hi => by
      obtain ⟨I3, n, al, an⟩ := Q
      obtain ⟨h1, hS3, hK3, h2⟩ := hi
      dsimp only at h1 hS3 hK3 h2
      obtain ⟨I4, c1, c2, c3⟩ := q_lay (J := J) (t := t) (u := u) (i := i) (f := f) (x := x) ht hS3 hK3 hk
      have f4 : zfr zSg I I4 := zfr_trans h1 (zfr_g c2 zSg_xls)
      have hO := zL_Od (I := I) (nt := nt) (nr := nr) (q := q) (om := om) (LW := LW) hnb k
      have hL4 := zLf_fr hLf f4
      have hb := g_S_beginsWith (J := J) (t := t) (u := u) (i := i) (f := f) (s := t) (x := x) c3 (zL_len hnb k) (fun b hb => by have := ((hO.2.2 b).mp hb).1; omega) hnb hL4
      have hle : ¬ 2 ^ nr ≤ k := by omega
      refine ⟨(I4, zwf (fun set => zbg (zL I nt nb nr q om LW set) S) k (n, al, an)), ⟨f4, zSh_ls ht hS3 c2, by rw [zKx_ls c2]; exact hK3, ?_⟩, ?_⟩
      · show _ = zrn _ (k + 1) 0 (0, a, 0)
        rw [zrn_succ, ← h2, Nat.zero_add]
      · show f_W_was_46L (m + 1) _ _ _ _ _ _ _ = _
        rw [f_W_was_46L]
        unfold zwf
        cases hq : zbg (zL I nt nb nr q om LW k) S with
        | false =>
          rw [hq] at hb
          simp (disch := (first | omega | assumption)) only [f_W_was_46, gi_10, gi_11, gp_11_2, gp_11_9, gp_11_15, zbs, nI_add, pk_mul, znI_add1, znI_sub1, znI_subm, zle_nI, zlt_nI, zeq_nI, zle_0, zeq_0, zlt_0, zeq_m, zeq_1, zge_0, zbt0, zbt1, zB_0, zB_1, zB_b, zbool_0, zbool_1, ↓reduceIte, hS3.2.2.1, zshl1 nr (by omega), hle, c1, hL4.1, hb, hq, Bool.false_eq_true]
        | true =>
          rw [hq] at hb
          simp (disch := (first | omega | assumption)) only [f_W_was_46, gi_10, gi_11, gp_11_2, gp_11_9, gp_11_15, zbs, nI_add, pk_mul, znI_add1, znI_sub1, znI_subm, zle_nI, zlt_nI, zeq_nI, zle_0, zeq_0, zlt_0, zeq_m, zeq_1, zge_0, zbt0, zbt1, zB_0, zB_1, zB_b, zbool_0, zbool_1, ↓reduceIte, hS3.2.2.1, zshl1 nr (by omega), hle, c1, hL4.1, hb, hq, Bool.true_eq_false])
    (fun m Q hi => by
      show f_W_was_46L (m + 1) _ _ _ _ _ _ _ = _
      rw [f_W_was_46L]
      simp (disch := (first | omega | assumption)) only [f_W_was_46, gi_10, gi_11, gp_11_2, gp_11_9, gp_11_15, zbs, nI_add, pk_mul, znI_add1, znI_sub1, znI_subm, zle_nI, zlt_nI, zeq_nI, zle_0, zeq_0, zlt_0, zeq_m, zeq_1, zge_0, zbt0, zbt1, zB_0, zB_1, zB_b, zbool_0, zbool_1, ↓reduceIte, hi.2.1.2.2.1, zshl1 nr (by omega), Nat.le_refl]) (2 ^ nr) 0 (I1, (0, a, 0)) zfu (by omega) ⟨hf1, hS, hK, rfl⟩ (zfu_lt (by omega))
  refine ⟨Q.1, h1, ?_⟩
  rw [← h2]
  exact h3
theorem m_wasL (hC : zCo I t nt nb nr q sh md om im LW BW) {S : List Nat} (hLf : zLf I nb S) (w : Int32) {I1 : Nat → Nat → Int32} (hf1 : zfr zSg I I1) (hK : ∀ r b, r < nr → b < nb → zKm I1 r b = zKy I nt LW r b) (a : Int32) :
    ∃ I2, zfr zSg I I2 ∧ f_M_was_32L zfu (zs I1 J (zPt t u i f s x)) 91 w 0 a 0 0 = f_M_was_128 (zs I2 J (zPt t u i f s x)) w (nI (zrn (zwf (fun set => zbg (zL I nt nb nr q om LW set) S)) (2 ^ nr) 0 (0, a, 0)).1) (zrn (zwf (fun set => zbg (zL I nt nb nr q om LW set) S)) (2 ^ nr) 0 (0, a, 0)).2.1 (zrn (zwf (fun set => zbg (zL I nt nb nr q om LW set) S)) (2 ^ nr) 0 (0, a, 0)).2.2 := by
  have hnb := hC.2.1.1.2.1.2
  have hnr := hC.2.1.1.2.2.1.2
  have hpw : 2 ^ nr ≤ 64 := Nat.le_trans (Nat.pow_le_pow_right (by decide) hnr) (by decide)
  have n10 : ¬ (1 : Int32) = 0 := by decide
  obtain ⟨Q, ⟨h1, -, h2⟩, h3⟩ := zfor (fun fuel (q : (Nat → Nat → Int32) × (Nat × Int32 × Int32)) k => f_M_was_32L fuel (zs q.1 J (zPt t u i f s x)) 91 w (nI q.2.1) q.2.2.1 q.2.2.2 (nI k)) (2 ^ nr)
    (fun k q' => zfr zSg I q'.1 ∧ (∀ r b, r < nr → b < nb → zKm q'.1 r b = zKy I nt LW r b) ∧ q'.2 = zrn (zwf (fun set => zbg (zL I nt nb nr q om LW set) S)) k 0 (0, a, 0))
    (fun q => f_M_was_128 (zs q.1 J (zPt t u i f s x)) w (nI q.2.1) q.2.2.1 q.2.2.2)
    (fun m k Q hk hi => by
      obtain ⟨I3, n, al, an⟩ := Q
      obtain ⟨h1, hK3, h2⟩ := hi
      dsimp only at h1 hK3 h2
      have hC3 := zCo_fr hC h1
      obtain ⟨I4, c1, c2, c3⟩ := q_layOrder (J := J) (t := t) (u := u) (i := i) (f := f) (s := s) (x := x) hC3 hK3 hk
      have f4 : zfr zSg I I4 := zfr_trans h1 (zfr_g c2 zSg_ls)
      have hO := zL_Od (I := I) (nt := nt) (nr := nr) (q := q) (om := om) (LW := LW) hnb k
      have hlen := zL_len (I := I) (nt := nt) (nr := nr) (q := q) (om := om) (LW := LW) hnb k
      have hL4 := zLf_fr hLf f4
      obtain ⟨-, e71, hc10, hnd, hSk⟩ := hL4
      have hle : ¬ 2 ^ nr ≤ k := by omega
      -- whether it begins so
      have hin := zforF (fun fuel (bb : Bool) j => f_M_was_55L (f_M_was_32L m) fuel (zs I4 J (zPt t u i f s x)) 91 w (nI n) al an (nI k) (zB bb) (nI j)) S.length (fun j bb => bb && ((zL I nt nb nr q om LW k)[j]? == S[j]?)) (fun _ _ => True) (fun bb => f_M_was_99 (f_M_was_32L m) (zs I4 J (zPt t u i f s x)) 91 w (nI n) al an (nI k) (zB bb))
        (fun m' j bb hj _ => by
          have hle2 : ¬ S.length ≤ j := by omega
          obtain ⟨c, hc⟩ : ∃ c, S[j]? = some c := ⟨S[j]'(by omega), List.getElem?_eq_getElem (by omega)⟩
          obtain ⟨-, e2, hcb⟩ := hSk j c hc
          show f_M_was_55L _ (m' + 1) _ _ _ _ _ _ _ _ _ = _
          rw [f_M_was_55L]
          cases bb with
          | false =>
            simp (disch := (first | omega | assumption)) only [f_M_was_55, gi_12, gp_12_53, gp_12_70, ai_124, ai_115, zbs, nI_add, pk_mul, znI_add1, znI_sub1, znI_subm, zle_nI, zlt_nI, zeq_nI, zle_0, zeq_0, zlt_0, zeq_m, zeq_1, zge_0, zbt0, zbt1, zB_0, zB_1, zB_b, zbool_0, zbool_1, ↓reduceIte, e71, hle2, Bool.false_and]
            rfl
          | true =>
            rw [hc]
            by_cases hm : (zL I nt nb nr q om LW k)[j]? = some c
            · have e3 := (c3.2.1 j c hm).2
              have : ((zL I nt nb nr q om LW k)[j]? == some c) = true := by rw [hm]; exact beq_self_eq_true _
              rw [this]
              simp (disch := (first | omega | assumption)) only [f_M_was_55, gi_12, gp_12_53, gp_12_70, ai_124, ai_115, zbs, nI_add, pk_mul, znI_add1, znI_sub1, znI_subm, zle_nI, zlt_nI, zeq_nI, zle_0, zeq_0, zlt_0, zeq_m, zeq_1, zge_0, zbt0, zbt1, zB_0, zB_1, zB_b, zbool_0, zbool_1, ↓reduceIte, e71, hle2, e2, e3, Bool.true_eq_false, Bool.true_and]
              rfl
            · have hbq : ((zL I nt nb nr q om LW k)[j]? == some c) = false := by
                cases hq : ((zL I nt nb nr q om LW k)[j]? == some c) with
                | false => rfl
                | true => exact absurd (eq_of_beq hq) hm
              rw [hbq]
              have e3 : ∃ v, I4 115 c = v ∧ ¬ v = nI j := by
                by_cases hmem : c ∈ zL I nt nb nr q om LW k
                · obtain ⟨k', hk'⟩ := List.getElem?_of_mem hmem
                  refine ⟨_, (c3.2.1 k' c hk').2, fun h => ?_⟩
                  have hk2 := (List.getElem?_eq_some_iff.mp hk').1
                  rw [nI_eq (by omega) (by omega)] at h
                  subst h
                  exact hm hk'
                · refine ⟨_, c3.2.2 c (by omega) hmem, fun h => ?_⟩
                  exact znI_ne_m1 (show j < 2 ^ 31 by omega) h.symm
              obtain ⟨v, e4, e5⟩ := e3
              simp (disch := (first | omega | assumption)) only [f_M_was_55, gi_12, gp_12_53, gp_12_70, ai_124, ai_115, zbs, nI_add, pk_mul, znI_add1, znI_sub1, znI_subm, zle_nI, zlt_nI, zeq_nI, zle_0, zeq_0, zlt_0, zeq_m, zeq_1, zge_0, zbt0, zbt1, zB_0, zB_1, zB_b, zbool_0, zbool_1, ↓reduceIte, e71, hle2, e2, e4, e5, Bool.true_eq_false, Bool.true_and]
              rfl) (fun _ _ _ _ => trivial)
        (fun m' bb _ => by
          show f_M_was_55L _ (m' + 1) _ _ _ _ _ _ _ _ _ = _
          rw [f_M_was_55L]
          simp (disch := (first | omega | assumption)) only [f_M_was_55, gi_12, gp_12_53, gp_12_70, ai_124, ai_115, zbs, nI_add, pk_mul, znI_add1, znI_sub1, znI_subm, zle_nI, zlt_nI, zeq_nI, zle_0, zeq_0, zlt_0, zeq_m, zeq_1, zge_0, zbt0, zbt1, zB_0, zB_1, zB_b, zbool_0, zbool_1, ↓reduceIte, e71, Nat.le_refl]) S.length 0 true zfu (by omega) trivial (zfu_lt (by omega))
      have hall : ∀ d, d ≤ S.length → zrn (fun j bb => bb && ((zL I nt nb nr q om LW k)[j]? == S[j]?)) d 0 true = (List.range d).all (fun j => (zL I nt nb nr q om LW k)[j]? == S[j]?) := by
        intro d
        induction d with
        | zero => intro _; rfl
        | succ d ih =>
          intro hd
          rw [zrn_succ, ih (by omega), List.range_succ, List.all_append, Nat.zero_add]
          simp
      rw [hall S.length (Nat.le_refl _)] at hin
      have hin : f_M_was_55L (f_M_was_32L m) zfu (zs I4 J (zPt t u i f s x)) 91 w (nI n) al an (nI k) 1 0 = f_M_was_99 (f_M_was_32L m) (zs I4 J (zPt t u i f s x)) 91 w (nI n) al an (nI k) (zB (zbg (zL I nt nb nr q om LW k) S)) := hin
      refine ⟨(I4, zwf (fun set => zbg (zL I nt nb nr q om LW set) S) k (n, al, an)), ⟨f4, by rw [zKm_ls c2]; exact hK3, ?_⟩, ?_⟩
      · show _ = zrn _ (k + 1) 0 (0, a, 0)
        rw [zrn_succ, ← h2, Nat.zero_add]
      · show f_M_was_32L (m + 1) _ _ _ _ _ _ _ = _
        rw [f_M_was_32L]
        unfold zwf
        cases hq : zbg (zL I nt nb nr q om LW k) S with
        | false =>
          rw [hq] at hin
          simp (disch := (first | omega | assumption)) only [f_M_was_32, f_M_was_99, gi_12, zbs, nI_add, pk_mul, znI_add1, znI_sub1, znI_subm, zle_nI, zlt_nI, zeq_nI, zle_0, zeq_0, zlt_0, zeq_m, zeq_1, zge_0, zbt0, zbt1, zB_0, zB_1, zB_b, zbool_0, zbool_1, ↓reduceIte, hC3.2.1.1.2.2.1.1, zshl1 nr (by omega), hle, c1, hin, hq, Bool.false_eq_true]
        | true =>
          rw [hq] at hin
          simp (disch := (first | omega | assumption)) only [f_M_was_32, f_M_was_99, gi_12, zbs, nI_add, pk_mul, znI_add1, znI_sub1, znI_subm, zle_nI, zlt_nI, zeq_nI, zle_0, zeq_0, zlt_0, zeq_m, zeq_1, zge_0, zbt0, zbt1, zB_0, zB_1, zB_b, zbool_0, zbool_1, ↓reduceIte, hC3.2.1.1.2.2.1.1, zshl1 nr (by omega), hle, c1, hin, hq, Bool.true_eq_false])
    (fun m Q hi => by
      have hC3 := zCo_fr hC hi.1
      show f_M_was_32L (m + 1) _ _ _ _ _ _ _ = _
      rw [f_M_was_32L]
      simp (disch := (first | omega | assumption)) only [f_M_was_32, gi_12, zbs, nI_add, pk_mul, znI_add1, znI_sub1, znI_subm, zle_nI, zlt_nI, zeq_nI, zle_0, zeq_0, zlt_0, zeq_m, zeq_1, zge_0, zbt0, zbt1, zB_0, zB_1, zB_b, zbool_0, zbool_1, ↓reduceIte, hC3.2.1.1.2.2.1.1, zshl1 nr (by omega), Nat.le_refl]) (2 ^ nr) 0 (I1, (0, a, 0)) zfu (by omega) ⟨hf1, hK, rfl⟩ (zfu_lt (by omega))
  refine ⟨Q.1, h1, ?_⟩
  rw [← h2]
  exact h3
theorem g_M_isIn2 (w : Int32) : f_M_isIn w 0 2 = some (zB (zlt w 3)) := g_M_isIn w (n := 3) (by decide)
theorem q_was (hC : zCo I t nt nb nr q sh md om im LW BW) {S : List Nat} (hLf : zLf I nb S) (w : Int32) : zOK2 I J t u i f s x (fun σ => f_W_was σ 0 w) (fun σ => f_M_was σ 91 w) := by
  have hC2 := hC
  obtain ⟨ht, ⟨hM, hX, -, hsh, -⟩, hN, -, ho, him, -⟩ := hC
  have hnb := hM.2.1.2
  have hnr := hM.2.2.1.2
  have m4 := g_M_isIn2 w
  have n10 : ¬ (1 : Int32) = 0 := by decide
  have n20 : ¬ (2 : Int32) = 0 := by decide
  have n21 : ¬ (2 : Int32) = 1 := by decide
  rcases zlt_cases w (n := 3) (by decide) with ⟨hw, k, hk, rfl⟩ | hw
  · rw [hw] at m4
    obtain ⟨I1, a1, a2, -, a4, a3⟩ := q_open (J := J) (t := t) (u := u) (i := i) (f := f) (s := s) (x := x) hC2
    obtain ⟨I2, f2, c1⟩ := x_wasL (J := J) (t := t) (u := u) (i := i) (f := f) (x := x) hC2 hLf (nI k) a2 a4 a3 (nI (2 ^ nr) - 1)
    have hC3 := zCo_fr hC2 f2
    obtain ⟨I3, b1, b2, -, b3⟩ := q_layAll (J := J) (t := t) (u := u) (i := i) (f := f) (s := t) (x := x) hC3
    rw [zKy_fr f2] at b3
    have hC4 := zCo_fr hC3 b2
    obtain ⟨I4, d2, d1⟩ := m_wasL (J := J) (t := t) (u := u) (i := i) (f := f) (s := t) (x := x) hC2 hLf (nI k) (zfr_trans f2 b2) b3 (nI (2 ^ nr) - 1)
    have hz := zwf_0 (fun set => zbg (zL I nt nb nr q om LW set) S) (nI (2 ^ nr) - 1) (2 ^ nr)
    have hpw : 2 ^ nr ≤ 64 := Nat.le_trans (Nat.pow_le_pow_right (by decide) hnr) (by decide)
    generalize zrn (zwf (fun set => zbg (zL I nt nb nr q om LW set) S)) (2 ^ nr) 0 (0, (nI (2 ^ nr) - 1, (0 : Int32))) = R at c1 d1 hz
    obtain ⟨n, al, an⟩ := R
    dsimp only at c1 d1 hz
    have hx : ∃ v, f_W_was_108 (zs I2 J (zPt t u i f t x)) (nI k) (nI n) al an = some (v, (zs I2 J (zPt t u i f t x))) ∧ f_M_was_128 (zs I4 J (zPt t u i f t x)) (nI k) (nI n) al an = some (v, (zs I4 J (zPt t u i f t x))) := by
      have hn := hz.1
      by_cases h0 : n = 0
      · have ha := hz.2 h0
        subst h0
        subst ha
        rcases (show k = 0 ∨ k = 1 ∨ k = 2 by omega) with rfl | rfl | rfl
        · exact ⟨0, by simp (disch := (first | omega | assumption)) only [f_W_was_108, zbs, nI_add, pk_mul, znI_add1, znI_sub1, znI_subm, zle_nI, zlt_nI, zeq_nI, zle_0, zeq_0, zlt_0, zeq_m, zeq_1, zge_0, zbt0, zbt1, zB_0, zB_1, zB_b, zbool_0, zbool_1, ↓reduceIte]; rfl, by simp (disch := (first | omega | assumption)) only [f_M_was_128, zbs, nI_add, pk_mul, znI_add1, znI_sub1, znI_subm, zle_nI, zlt_nI, zeq_nI, zle_0, zeq_0, zlt_0, zeq_m, zeq_1, zge_0, zbt0, zbt1, zB_0, zB_1, zB_b, zbool_0, zbool_1, ↓reduceIte]; rfl⟩
        · exact ⟨0, by simp (disch := (first | omega | assumption)) only [f_W_was_108, zbs, nI_add, pk_mul, znI_add1, znI_sub1, znI_subm, zle_nI, zlt_nI, zeq_nI, zle_0, zeq_0, zlt_0, zeq_m, zeq_1, zge_0, zbt0, zbt1, zB_0, zB_1, zB_b, zbool_0, zbool_1, ↓reduceIte, Nat.one_ne_zero], by simp (disch := (first | omega | assumption)) only [f_M_was_128, zbs, nI_add, pk_mul, znI_add1, znI_sub1, znI_subm, zle_nI, zlt_nI, zeq_nI, zle_0, zeq_0, zlt_0, zeq_m, zeq_1, zge_0, zbt0, zbt1, zB_0, zB_1, zB_b, zbool_0, zbool_1, ↓reduceIte, Nat.one_ne_zero]⟩
        · exact ⟨0, by simp (disch := (first | omega | assumption)) only [f_W_was_108, zbs, nI_add, pk_mul, znI_add1, znI_sub1, znI_subm, zle_nI, zlt_nI, zeq_nI, zle_0, zeq_0, zlt_0, zeq_m, zeq_1, zge_0, zbt0, zbt1, zB_0, zB_1, zB_b, zbool_0, zbool_1, ↓reduceIte]; rfl, by simp (disch := (first | omega | assumption)) only [f_M_was_128, zbs, nI_add, pk_mul, znI_add1, znI_sub1, znI_subm, zle_nI, zlt_nI, zeq_nI, zle_0, zeq_0, zlt_0, zeq_m, zeq_1, zge_0, zbt0, zbt1, zB_0, zB_1, zB_b, zbool_0, zbool_1, ↓reduceIte]; rfl⟩
      · rcases (show k = 0 ∨ k = 1 ∨ k = 2 by omega) with rfl | rfl | rfl
        · exact ⟨nI n, by simp (disch := (first | omega | assumption)) only [f_W_was_108, zbs, nI_add, pk_mul, znI_add1, znI_sub1, znI_subm, zle_nI, zlt_nI, zeq_nI, zle_0, zeq_0, zlt_0, zeq_m, zeq_1, zge_0, zbt0, zbt1, zB_0, zB_1, zB_b, zbool_0, zbool_1, ↓reduceIte], by simp (disch := (first | omega | assumption)) only [f_M_was_128, zbs, nI_add, pk_mul, znI_add1, znI_sub1, znI_subm, zle_nI, zlt_nI, zeq_nI, zle_0, zeq_0, zlt_0, zeq_m, zeq_1, zge_0, zbt0, zbt1, zB_0, zB_1, zB_b, zbool_0, zbool_1, ↓reduceIte]⟩
        · exact ⟨al, by simp (disch := (first | omega | assumption)) only [f_W_was_108, zbs, nI_add, pk_mul, znI_add1, znI_sub1, znI_subm, zle_nI, zlt_nI, zeq_nI, zle_0, zeq_0, zlt_0, zeq_m, zeq_1, zge_0, zbt0, zbt1, zB_0, zB_1, zB_b, zbool_0, zbool_1, ↓reduceIte, Nat.one_ne_zero, h0], by simp (disch := (first | omega | assumption)) only [f_M_was_128, zbs, nI_add, pk_mul, znI_add1, znI_sub1, znI_subm, zle_nI, zlt_nI, zeq_nI, zle_0, zeq_0, zlt_0, zeq_m, zeq_1, zge_0, zbt0, zbt1, zB_0, zB_1, zB_b, zbool_0, zbool_1, ↓reduceIte, Nat.one_ne_zero, h0]⟩
        · exact ⟨an, by simp (disch := (first | omega | assumption)) only [f_W_was_108, zbs, nI_add, pk_mul, znI_add1, znI_sub1, znI_subm, zle_nI, zlt_nI, zeq_nI, zle_0, zeq_0, zlt_0, zeq_m, zeq_1, zge_0, zbt0, zbt1, zB_0, zB_1, zB_b, zbool_0, zbool_1, ↓reduceIte, h0]; rfl, by simp (disch := (first | omega | assumption)) only [f_M_was_128, zbs, nI_add, pk_mul, znI_add1, znI_sub1, znI_subm, zle_nI, zlt_nI, zeq_nI, zle_0, zeq_0, zlt_0, zeq_m, zeq_1, zge_0, zbt0, zbt1, zB_0, zB_1, zB_b, zbool_0, zbool_1, ↓reduceIte, h0]; rfl⟩
    obtain ⟨v, v1, v2⟩ := hx
    have x5 : I1 t 2 = nI nr := a4.2.2.1
    have y5 : I3 91 43 = nI nr := hC4.2.1.1.2.2.1.1
    have hk2 : k ≤ 2 := by omega
    refine ⟨v, I2, J, t, I4, J, ?_, ?_, d2, Or.inr rfl⟩
    · show f_W_was _ 0 _ = _
      simp (disch := (first | omega | assumption)) only [f_W_was, zg_11, gi_10, gp_11_9, gp_11_2, gp_11_5, le2, zbs, nI_add, pk_mul, znI_add1, znI_sub1, znI_subm, zle_nI, zlt_nI, zeq_nI, zle_0, zeq_0, zlt_0, zeq_m, zeq_1, zge_0, zbt0, zbt1, zB_0, zB_1, zB_b, zbool_0, zbool_1, ↓reduceIte, a1, x5, hk2, zshl1 nr (by omega)]
      exact c1.trans v1
    · show f_M_was _ 91 _ = _
      simp (disch := (first | omega | assumption)) only [f_M_was, zg_12, gi_12, zbs, nI_add, pk_mul, znI_add1, znI_sub1, znI_subm, zle_nI, zlt_nI, zeq_nI, zle_0, zeq_0, zlt_0, zeq_m, zeq_1, zge_0, zbt0, zbt1, zB_0, zB_1, zB_b, zbool_0, zbool_1, ↓reduceIte, m4, b1, y5, zshl1 nr (by omega), Bool.true_eq_false]
      exact d1.trans v2
  · rw [hw] at m4
    refine ⟨-1, I, J, s, I, J, ?_, ?_, zfr_refl _ _, Or.inl rfl⟩
    · show f_W_was _ 0 _ = _
      by_cases h0 : w < 0
      · simp (disch := (first | omega | assumption)) only [f_W_was, zg_11, gi_10, gp_11_9, gp_11_2, gp_11_5, le2, zbs, nI_add, pk_mul, znI_add1, znI_sub1, znI_subm, zle_nI, zlt_nI, zeq_nI, zle_0, zeq_0, zlt_0, zeq_m, zeq_1, zge_0, zbt0, zbt1, zB_0, zB_1, zB_b, zbool_0, zbool_1, ↓reduceIte, h0]
      · have h2 : ¬ w ≤ 2 := fun h => by
          obtain ⟨k, hk, rfl⟩ := nI_of h0
          rw [le2 hk] at h
          rw [zlt_t (show k < 3 by omega) (by decide)] at hw
          cases hw
        simp (disch := (first | omega | assumption)) only [f_W_was, zg_11, gi_10, gp_11_9, gp_11_2, gp_11_5, le2, zbs, nI_add, pk_mul, znI_add1, znI_sub1, znI_subm, zle_nI, zlt_nI, zeq_nI, zle_0, zeq_0, zlt_0, zeq_m, zeq_1, zge_0, zbt0, zbt1, zB_0, zB_1, zB_b, zbool_0, zbool_1, ↓reduceIte, h0, h2]
    · show f_M_was _ 91 _ = _
      simp (disch := (first | omega | assumption)) only [f_M_was, zg_12, gi_12, zbs, nI_add, pk_mul, znI_add1, znI_sub1, znI_subm, zle_nI, zlt_nI, zeq_nI, zle_0, zeq_0, zlt_0, zeq_m, zeq_1, zge_0, zbt0, zbt1, zB_0, zB_1, zB_b, zbool_0, zbool_1, ↓reduceIte, m4]
end ZWas
