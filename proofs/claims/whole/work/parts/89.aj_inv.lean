/-! the text, pure: what holds -/
section ZInvT
variable {B : Nat → Nat} {n : Nat}
theorem ybd_ok {α β : Type} {r : yRs α} {k : α → yRs β} {b : β} (h : r.bd k = .ok b) : ∃ a, r = .ok a ∧ k a = .ok b := by
  cases r with
  | error cp_ => obtain ⟨c, pl⟩ := cp_; cases h
  | ok a => exact ⟨a, rfl, h⟩
theorem ytake_ok {k p p' : Nat} (hk : k ≠ 0) (hp : p ≤ n) (h : ytake (ytok B n) k p = .ok p') : p' ≤ n ∧ p < p' := by
  unfold ytake at h
  split at h
  · rename_i h1
    cases h
    have := ytok_b (B := B) hp
    exact ⟨this.2.1, (this.2.2.1 (by omega)).1⟩
  · cases h
theorem ynew_ok {L : List (List Nat)} {p : Nat} {a : List Nat × Nat} (hp : p ≤ n) (h : ynew (ytok B n) L p = .ok a) : a.2 ≤ n ∧ p < a.2 ∧ yLt a.1 ∧ ¬ a.1 ∈ L := by
  unfold ynew at h
  split at h
  · rename_i h1
    split at h
    · cases h
    · rename_i h2
      cases h
      have := ytok_b (B := B) hp
      exact ⟨this.2.1, (this.2.2.1 (by omega)).1, (this.2.2.2.2.2 (by omega) (by omega)).2, h2⟩
  · cases h
theorem yidx_lt {w : List Nat} : ∀ (L : List (List Nat)) (c k : Nat), yidx w L c = some k → c ≤ k ∧ k < c + L.length := by
  intro L
  induction L with
  | nil => intro c k h; cases h
  | cons a L ih =>
    intro c k h
    unfold yidx at h
    split at h
    · cases h; simp
    · have := ih (c + 1) k h
      simp
      omega
theorem ytop_ok {L : List (List Nat)} {g p : Nat} {a : Nat × Nat} (hp : p ≤ n) (h : ytop (ytok B n) L g p = .ok a) : a.2 ≤ n ∧ p < a.2 ∧ a.1 < L.length ∧ g.testBit a.1 = false := by
  unfold ytop at h
  split at h
  · rename_i h1
    cases hx : yidx (ytok B n p).2.2.2.1 L 0 with
    | none => rw [hx] at h; cases h
    | some k =>
      rw [hx] at h
      simp only at h
      split at h
      · cases h
      · rename_i h2
        cases h
        have := ytok_b (B := B) hp
        have h3 := yidx_lt L 0 k hx
        exact ⟨this.2.1, (this.2.2.1 (by omega)).1, by simp only; omega, by simpa using h2⟩
  · cases h
theorem ynum_ok' {lo hi p : Nat} {a : Nat × Nat} (hp : p ≤ n) (h : ynum (ytok B n) lo hi p = .ok a) : a.2 ≤ n ∧ p < a.2 ∧ lo ≤ a.1 ∧ a.1 ≤ hi := by
  unfold ynum at h
  split at h
  · rename_i h1
    split at h
    · cases h
    · rename_i h2
      cases h
      have := ytok_b (B := B) hp
      exact ⟨this.2.1, (this.2.2.1 (by omega)).1, by simp only; omega, by simp only; omega⟩
  · cases h
theorem y9 : ∀ k, k ≤ 9 → (-9 ≤ -nI k ∧ -nI k ≤ 9) ∧ (-9 ≤ nI k ∧ nI k ≤ 9) := by decide +kernel
theorem ysgd2_ok {bl : Bool} {fr p : Nat} {a : Int32 × Nat} (hp : p ≤ n) (h : ysgd2 (ytok B n) bl fr p = .ok a) : a.2 ≤ n ∧ p < a.2 ∧ -9 ≤ a.1 ∧ a.1 ≤ 9 := by
  unfold ysgd2 at h
  split at h
  · rename_i h1
    split at h
    · cases h
    · rename_i h2
      cases h
      have := ytok_b (B := B) hp
      have h9 := y9 (ytok B n p).2.2.1 (by omega)
      refine ⟨this.2.1, (this.2.2.1 (by omega)).1, ?_⟩
      cases bl with
      | true => exact h9.1
      | false => exact h9.2
  · cases h
theorem ysgd_ok {p : Nat} {a : Int32 × Nat} (hp : p ≤ n) (h : ysgd (ytok B n) p = .ok a) : a.2 ≤ n ∧ p < a.2 ∧ -9 ≤ a.1 ∧ a.1 ≤ 9 := by
  unfold ysgd at h
  split at h
  · rename_i h1
    have := ytok_b (B := B) hp
    have h2 := ysgd2_ok this.2.1 h
    have := (this.2.2.1 (by omega)).1
    exact ⟨h2.1, by omega, h2.2.2⟩
  · exact ysgd2_ok hp h
theorem ybl_ok {L : List (List Nat)} {b : Nat} : ∀ (d g : Nat) (W : Nat → Int32) (p : Nat) (a : (Nat → Int32) × Nat), p ≤ n → ybl (ytok B n) L b d g W p = .ok a → a.2 ≤ n ∧ p ≤ a.2 := by
  intro d
  induction d with
  | zero => intro g W p a hp h; cases h; exact ⟨hp, Nat.le_refl _⟩
  | succ d ih =>
    intro g W p a hp h
    unfold ybl at h
    split at h
    · obtain ⟨x, h1, h⟩ := ybd_ok h
      obtain ⟨v, h2, h⟩ := ybd_ok h
      have e1 := ytop_ok hp h1
      have e2 := ynum_ok' e1.1 h2
      have e3 := ih _ _ _ _ e2.1 h
      exact ⟨e3.1, by omega⟩
    · cases h; exact ⟨hp, Nat.le_refl _⟩
theorem yup9 {wa : Nat → Int32} {k : Nat} {v : Int32} (h : ∀ k, -9 ≤ wa k ∧ wa k ≤ 9) (hv : -9 ≤ v ∧ v ≤ 9) : ∀ j, -9 ≤ va_up wa k v j ∧ va_up wa k v j ≤ 9 := by
  intro j
  unfold va_up
  split
  · exact hv
  · exact h j
theorem yrl_ok {L : List (List Nat)} {r : Nat} : ∀ (d gw go : Nat) (wa ou : Nat → Int32) (p : Nat) (a : (Nat → Int32) × (Nat → Int32) × Nat), p ≤ n → (∀ k, -9 ≤ wa k ∧ wa k ≤ 9) → yrl (ytok B n) L r d gw go wa ou p = .ok a → a.2.2 ≤ n ∧ p ≤ a.2.2 ∧ ∀ k, -9 ≤ a.1 k ∧ a.1 k ≤ 9 := by
  intro d
  induction d with
  | zero => intro gw go wa ou p a hp hw h; cases h; exact ⟨hp, Nat.le_refl _, hw⟩
  | succ d ih =>
    intro gw go wa ou p a hp hw h
    unfold yrl at h
    have hb := ytok_b (B := B) hp
    split at h
    · rename_i h13
      obtain ⟨x, h1, h⟩ := ybd_ok h
      obtain ⟨v, h2, h⟩ := ybd_ok h
      have e1 := ytop_ok hb.2.1 h1
      have e2 := ysgd_ok e1.1 h2
      have e3 := ih _ _ _ _ _ _ e2.1 (yup9 hw e2.2.2) h
      have := (hb.2.2.1 (by omega)).1
      exact ⟨e3.1, by omega, e3.2.2⟩
    · split at h
      · rename_i h13
        obtain ⟨x, h1, h⟩ := ybd_ok h
        obtain ⟨v, h2, h⟩ := ybd_ok h
        have e1 := ytop_ok hb.2.1 h1
        have e2 := ynum_ok' e1.1 h2
        have e3 := ih _ _ _ _ _ _ e2.1 hw h
        have := (hb.2.2.1 (by omega)).1
        exact ⟨e3.1, by omega, e3.2.2⟩
      · cases h; exact ⟨hp, Nat.le_refl _, hw⟩
theorem yform_ok {p : Nat} {r : yFr} (hp : p ≤ n) (h : (ylv (ytok B n) 7).1 p 0 = .ok r) : r.2.1 ≤ n ∧ 0 < r.2.2 ∧ r.2.2 ≤ 30 ∧ r.1.length ≤ 269 ∧ zval r.1 0 := by
  obtain ⟨a1, a2, a3, a4, a5⟩ := (ywf_lv (ytok_hn B n) 7).1 p 0 r hp h
  refine ⟨a4, a1, a2, by omega, ?_⟩
  have := a5 [] 0 (by omega) rfl
  simpa using this
theorem ytok_ge {p : Nat} (hp : p ≤ n) : p ≤ (ytok B n p).2.2.2.2 := by
  by_cases h : (ytok B n p).1 = 0
  · unfold ytok at h ⊢
    have h0 := ysp_ge (q := yblk) (B := B) (n := n) n p
    have h1 := ysp_le (q := yblk) (B := B) (n := n) n p hp
    generalize ysp yblk B n n p = a at h h0 h1
    unfold ytkA at h ⊢
    by_cases han : a < n
    · rw [if_pos han] at h ⊢
      by_cases hl : yltr (B a) = true
      · rw [if_pos hl] at h ⊢
        exact Nat.le_trans h0 (ysp_ge _ _)
      · rw [if_neg hl] at h ⊢
        by_cases hd : ydig (B a) = true
        · rw [if_pos hd] at h ⊢
          exact Nat.le_trans h0 (ysp_ge _ _)
        · rw [if_neg hd] at h ⊢
          exact Nat.le_trans h0 (Nat.le_succ a)
    · rw [if_neg han] at h ⊢
      exact hp
  · exact Nat.le_of_lt ((ytok_b hp).2.2.1 h).1
def yMo (B : Nat → Nat) (n : Nat) (X : yFo) : Prop := ∀ p un r, p ≤ n → X p un = .ok r → p ≤ r.2.1 ∧ r.2.1 ≤ n
theorem ymo_U {re : Option yFo} (hre : ∀ e, re = some e → yMo B n e) : yMo B n (yfU (ytok B n) re) := by
  intro p un r hp h
  have h1 := ytok_ge (B := B) hp
  have h2 := (ytok_b (B := B) hp).2.1
  unfold yfU at h
  split at h
  · split at h
    · cases re with
      | none => cases h
      | some e =>
        simp only at h
        cases hx : e (ytok B n p).2.2.2.2 (un + 1) with
        | error cp_ => obtain ⟨c, pl⟩ := cp_; rw [hx] at h; cases h
        | ok r1 =>
          rw [hx] at h
          simp only at h
          have h3 := hre e rfl _ _ _ h2 hx
          split at h
          · cases h
            have h4 := ytok_ge (B := B) h3.2
            have h5 := (ytok_b (B := B) h3.2).2.1
            exact ⟨by simp only; omega, h5⟩
          · cases h
    · split at h
      · cases h; exact ⟨h1, h2⟩
      · split at h
        · cases h; exact ⟨h1, h2⟩
        · cases h
  · cases h
theorem ymo_L {item : yFo} {op : Nat → Bool} {mk : Nat → Int32} (hi : yMo B n item) : ∀ d, yMo B n (yfL (ytok B n) item op mk d) := by
  intro d
  induction d with
  | zero => intro p un r hp h; cases h; exact ⟨Nat.le_refl _, hp⟩
  | succ d ih =>
    intro p un r hp h
    have h1 := ytok_ge (B := B) hp
    have h2 := (ytok_b (B := B) hp).2.1
    unfold yfL at h
    split at h
    · cases hx : item (ytok B n p).2.2.2.2 un with
      | error cp_ => obtain ⟨c, pl⟩ := cp_; rw [hx] at h; cases h
      | ok r1 =>
        rw [hx] at h
        simp only at h
        have h3 := hi _ _ _ h2 hx
        cases hy : yfL (ytok B n) item op mk d r1.2.1 r1.2.2 with
        | error cp_ => obtain ⟨c, pl⟩ := cp_; rw [hy] at h; cases h
        | ok r2 =>
          rw [hy] at h
          cases h
          have h4 := ih _ _ _ h3.2 hy
          exact ⟨by simp only; omega, h4.2⟩
    · cases h; exact ⟨Nat.le_refl _, hp⟩
theorem ymo_C {item : yFo} {op : Nat → Bool} {mk : Nat → Int32} (hi : yMo B n item) : yMo B n (yfC (ytok B n) item op mk) := by
  intro p un r hp h
  unfold yfC at h
  cases hx : item p un with
  | error cp_ => obtain ⟨c, pl⟩ := cp_; rw [hx] at h; cases h
  | ok r1 =>
    rw [hx] at h
    simp only at h
    have h3 := hi _ _ _ hp hx
    cases hy : yfL (ytok B n) item op mk 30 r1.2.1 r1.2.2 with
    | error cp_ => obtain ⟨c, pl⟩ := cp_; rw [hy] at h; cases h
    | ok r2 =>
      rw [hy] at h
      cases h
      have h4 := ymo_L hi 30 _ _ _ h3.2 hy
      exact ⟨by simp only; omega, h4.2⟩
theorem ymo_1 {re rs : Option yFo} (hre : ∀ e, re = some e → yMo B n e) (hrs : ∀ e, rs = some e → yMo B n e) : yMo B n (yf1 (ytok B n) re rs) := by
  have hS : yMo B n (yfS (ytok B n) re) := ymo_C (ymo_C (ymo_U hre))
  intro p un r hp h
  have h1 := ytok_ge (B := B) hp
  have h2 := (ytok_b (B := B) hp).2.1
  unfold yf1 at h
  split at h
  · cases rs with
    | none => cases h
    | some e =>
      simp only at h
      cases hx : e (ytok B n p).2.2.2.2 un with
      | error cp_ => obtain ⟨c, pl⟩ := cp_; rw [hx] at h; cases h
      | ok r1 =>
        rw [hx] at h
        cases h
        have h3 := hrs e rfl _ _ _ h2 hx
        exact ⟨by simp only; omega, h3.2⟩
  · cases hx : yfS (ytok B n) re p un with
    | error cp_ => obtain ⟨c, pl⟩ := cp_; rw [hx] at h; cases h
    | ok r1 =>
      rw [hx] at h
      simp only at h
      have h3 := hS _ _ _ hp hx
      split at h
      · have h4 := ytok_ge (B := B) h3.2
        have h5 := (ytok_b (B := B) h3.2).2.1
        cases hy : yfS (ytok B n) re (ytok B n r1.2.1).2.2.2.2 r1.2.2 with
        | error cp_ => obtain ⟨c, pl⟩ := cp_; rw [hy] at h; cases h
        | ok r2 =>
          rw [hy] at h
          cases h
          have h6 := hS _ _ _ h5 hy
          exact ⟨by simp only; omega, h6.2⟩
      · cases h; exact h3
theorem ymo_lv : ∀ w, yMo B n (ylv (ytok B n) w).1 ∧ yMo B n (ylv (ytok B n) w).2 := by
  intro w
  induction w with
  | zero =>
    have h1 : yMo B n (yf1 (ytok B n) none none) := ymo_1 (fun e h => by cases h) (fun e h => by cases h)
    exact ⟨ymo_C (ymo_C h1), h1⟩
  | succ w ih =>
    have h1 : yMo B n (yf1 (ytok B n) (some (ylv (ytok B n) w).1) (some (ylv (ytok B n) w).2)) := ymo_1 (fun e h => by cases h; exact ih.1) (fun e h => by cases h; exact ih.2)
    exact ⟨ymo_C (ymo_C h1), h1⟩
theorem y32 : ∀ o, o < 32 → (o ||| 1 < 32 ∧ o ||| 2 < 32 ∧ o ||| 4 < 32 ∧ o ||| 8 < 32 ∧ o ||| 16 < 32) ∧ (o ||| 1).testBit 0 = true ∧ (o ||| 1).testBit 1 = o.testBit 1 ∧ (o ||| 2).testBit 0 = o.testBit 0 ∧ (o ||| 2).testBit 1 = true ∧ (o ||| 4).testBit 0 = o.testBit 0 ∧ (o ||| 4).testBit 1 = o.testBit 1 ∧ (o ||| 8).testBit 0 = o.testBit 0 ∧ (o ||| 8).testBit 1 = o.testBit 1 ∧ (o ||| 16).testBit 0 = o.testBit 0 ∧ (o ||| 16).testBit 1 = o.testBit 1 := by decide +kernel
theorem yapp_lt {L : List (List Nat)} {w : List Nat} (h : ∀ w ∈ L, yLt w) (hw : yLt w) : ∀ v ∈ L ++ [w], yLt v := by
  intro v hv
  rcases List.mem_append.mp hv with h1 | h1
  · exact h v h1
  · simp at h1; rw [h1]; exact hw
theorem yapp_nd {L : List (List Nat)} {w : List Nat} (h : L.Nodup) (hw : ¬ w ∈ L) : (L ++ [w]).Nodup := by
  rw [List.nodup_append]
  refine ⟨h, by simp, ?_⟩
  intro a ha b hb
  simp at hb
  rw [hb]
  intro e
  rw [e] at ha
  exact hw ha
theorem yod_up {od : Nat → Int32} {k v : Nat} (h : ∀ k, ∃ o, o ≤ 100 ∧ od k = nI o) (hv : v ≤ 100) : ∀ j, ∃ o, o ≤ 100 ∧ va_up od k (nI v) j = nI o := by
  intro j
  unfold va_up
  split
  · exact ⟨v, hv, rfl⟩
  · exact h j
theorem yline1_ok {s s' : yPs} (hi : yPi n s) (h : yline1 (ytok B n) s = .ok s') : yPi n s' ∧ s.1 ≤ s'.1 := by
  obtain ⟨i1, i2, i3, i4, i5, i6, i7, i8, i9, i10, i11, i12, i13, i14, i15, i16, i17, i18, i19, i20, i21⟩ := hi
  have g1 := ytok_ge (B := B) i1
  have g2 := (ytok_b (B := B) i1).2.1
  have o := y32 s.2.2.2.2.2.2.2.2.2.2.2.1 i8
  unfold yline1 at h
  split at h
  · split at h
    · obtain ⟨a, h1, h⟩ := ybd_ok h
      cases h
      have e := ynew_ok g2 h1
      exact ⟨⟨e.1, by simp only [List.length_append, List.length_singleton]; omega, i3, i4, yapp_lt i5 e.2.2.1, i6, i7, i8, i9, i10, i11, i12, i13, i14, i15, i16, i17, i18, yapp_nd i19 e.2.2.2, i20, i21⟩, by simp only; omega⟩
    · cases h
  · split at h
    · obtain ⟨a, h1, h⟩ := ybd_ok h
      obtain ⟨v, h2, h⟩ := ybd_ok h
      cases h
      have e := ynew_ok g2 h1
      have e2 := ybl_ok _ _ _ _ _ e.1 h2
      exact ⟨⟨e2.1, i2, by simp only [List.length_append, List.length_singleton]; omega, i4, i5, yapp_lt i6 e.2.2.1, i7, i8, i9, i10, i11, i12, i13, i14, i15, i16, i17, i18, i19, yapp_nd i20 e.2.2.2, i21⟩, by simp only; omega⟩
    · cases h
  · split at h
    · obtain ⟨a, h1, h⟩ := ybd_ok h
      obtain ⟨p2, h2, h⟩ := ybd_ok h
      obtain ⟨od, h3, h⟩ := ybd_ok h
      obtain ⟨v, h4, h⟩ := ybd_ok h
      cases h
      have e := ynew_ok g2 h1
      have e2 := ytake_ok (by decide) e.1 h2
      have e3 := ynum_ok' e2.1 h3
      have e4 := yrl_ok _ _ _ _ _ _ _ e3.1 i12 h4
      exact ⟨⟨e4.1, i2, i3, by simp only [List.length_append, List.length_singleton]; omega, i5, i6, yapp_lt i7 e.2.2.1, i8, i9, i10, i11, e4.2.2, yod_up i13 e3.2.2.2, i14, i15, i16, i17, i18, i19, i20, yapp_nd i21 e.2.2.2⟩, by simp only; omega⟩
    · cases h
  · split at h
    · rename_i hb
      obtain ⟨r, h1, h⟩ := ybd_ok h
      cases h
      have e := yform_ok g2 h1
      have e2 := (ymo_lv (B := B) (n := n) 7).1 _ _ _ g2 h1
      have hl := i16.mpr hb
      refine ⟨⟨e.1, i2, i3, i4, i5, i6, i7, o.1.1, i9, i10, i11, i12, i13, fun M hM => ?_, i15, ?_, ?_, ⟨?_, ?_, ?_, ?_⟩, i19, i20, i21⟩, by simp only; omega⟩
      · cases hM; exact ⟨e.2.2.2.2, e.2.2.2.1⟩
      · simp only; rw [o.2.1]; simp
      · simp only; rw [o.2.2.1]; exact i17
      · simp only; have := i18.2.1 hl; omega
      · simp
      · simp only; intro hbn; have := i18.2.2.2 hl hbn; omega
      · simp
    · cases h
  · split at h
    · rename_i hb
      obtain ⟨r, h1, h⟩ := ybd_ok h
      cases h
      have e := yform_ok g2 h1
      have e2 := (ymo_lv (B := B) (n := n) 7).1 _ _ _ g2 h1
      have hl := i17.mpr hb
      refine ⟨⟨e.1, i2, i3, i4, i5, i6, i7, o.1.2.1, i9, i10, i11, i12, i13, i14, fun M hM => ?_, ?_, ?_, ⟨?_, ?_, ?_, ?_⟩, i19, i20, i21⟩, by simp only; omega⟩
      · cases hM; exact ⟨e.2.2.2.2, e.2.2.2.1⟩
      · simp only; rw [o.2.2.2.1]; exact i16
      · simp only; rw [o.2.2.2.2.1]; simp
      · simp only; have := i18.2.2.1 hl; omega
      · simp only; intro hbn; have := i18.2.2.2 hbn hl; omega
      · simp
      · simp
    · cases h
  · split at h
    · split at h
      · rename_i hb hq
        cases h
        have g3 := ytok_ge (B := B) g2
        exact ⟨⟨(ytok_b g2).2.1, i2, i3, i4, i5, i6, i7, o.1.2.2.1, by simp only; omega, i10, i11, i12, i13, i14, i15, by simp only; rw [o.2.2.2.2.2.1]; exact i16, by simp only; rw [o.2.2.2.2.2.2.1]; exact i17, i18, i19, i20, i21⟩, by simp only; omega⟩
      · cases h
    · cases h
  · split at h
    · obtain ⟨v, h1, h⟩ := ybd_ok h
      cases h
      have e := ynum_ok' g2 h1
      exact ⟨⟨e.1, i2, i3, i4, i5, i6, i7, o.1.2.2.2.1, i9, e.2.2, i11, i12, i13, i14, i15, by simp only; rw [o.2.2.2.2.2.2.2.1]; exact i16, by simp only; rw [o.2.2.2.2.2.2.2.2.1]; exact i17, i18, i19, i20, i21⟩, by simp only; omega⟩
    · cases h
  · split at h
    · obtain ⟨v, h1, h⟩ := ybd_ok h
      cases h
      have e := ynum_ok' g2 h1
      exact ⟨⟨e.1, i2, i3, i4, i5, i6, i7, o.1.2.2.2.2, i9, i10, e.2.2.2, i12, i13, i14, i15, by simp only; rw [o.2.2.2.2.2.2.2.2.2.1]; exact i16, by simp only; rw [o.2.2.2.2.2.2.2.2.2.2]; exact i17, i18, i19, i20, i21⟩, by simp only; omega⟩
    · cases h
  · cases h
theorem yline_ok {s s' : yPs} (hi : yPi n s) (h : yline (ytok B n) s = .ok s') : yPi n s' ∧ s.1 < s'.1 := by
  unfold yline at h
  obtain ⟨s1, h1, h⟩ := ybd_ok h
  obtain ⟨p, h2, h⟩ := ybd_ok h
  cases h
  obtain ⟨e1, e2⟩ := yline1_ok hi h1
  have e3 := ytake_ok (by decide) e1.1 h2
  refine ⟨⟨e3.1, e1.2⟩, ?_⟩
  simp only
  omega
theorem yps0_ok : yPi n yps0 := by
  refine ⟨Nat.zero_le _, by decide, by decide, by decide, by simp [yps0], by simp [yps0], by simp [yps0], by decide, by decide, by decide, by decide, (fun k => ?_), (fun k => ⟨0, by decide, rfl⟩), (fun M h => by cases h), (fun M h => by cases h), by decide, by decide, by decide, by decide, by decide, by decide⟩
  show -9 ≤ (0 : Int32) ∧ (0 : Int32) ≤ 9
  decide
end ZInvT
