/-! the law answers 1 -/
theorem zP0_none {a k : Nat} (h : 100 ≤ k ∨ a ∉ zrows) : zP0 a k = none := by
  unfold zP0
  split
  all_goals first | rfl | exact absurd h (by decide)
theorem zPt_none {a k : Nat} (h : 100 ≤ k ∨ a ∉ zrows) : zPt 2 13 13 18 2 26 a k = none := by
  have hn : ∀ b j, b ∈ zrows → j < 100 → ¬ (a = b ∧ k = j) := fun b j hb hj e => by
    rw [e.1, e.2] at h
    rcases h with h | h
    · omega
    · exact h hb
  unfold zPt
  rw [if_neg (hn 0 2 (by decide) (by decide)), if_neg (hn 0 3 (by decide) (by decide)), if_neg (hn 24 6 (by decide) (by decide)), if_neg (hn 24 7 (by decide) (by decide)), if_neg (hn 47 0 (by decide) (by decide)), if_neg (hn 25 4 (by decide) (by decide))]
  exact zP0_none h
theorem zrows_ok : ∀ a, a < 134 → a ∉ zrows → zLAY[a]?.map (fun q => decide (q.1 ≠ 0 ∧ q.1 ≠ 5)) = some true := by decide +kernel
theorem zP_all {σ : zSt} (hl : σ.1 = zLAY) (hb : zbdP σ) (hc : zchP σ.2.2.2 = true) : σ.2.2.2 = zPt 2 13 13 18 2 26 := by
  funext a k
  by_cases h : a ∈ zrows ∧ k < 100
  · unfold zchP at hc
    have h1 := List.all_eq_true.mp hc a h.1
    have h2 := List.all_eq_true.mp h1 k (List.mem_range.mpr h.2)
    exact eq_of_beq h2
  · have h' : 100 ≤ k ∨ a ∉ zrows := by
      by_cases h1 : a ∈ zrows
      · left
        have : ¬ k < 100 := fun h2 => h ⟨h1, h2⟩
        omega
      · exact Or.inr h1
    rw [zPt_none h']
    refine hb a k (h'.imp id (fun h1 q hq => ?_))
    rw [hl] at hq
    have ha : a < 134 := (List.getElem?_eq_some_iff.mp hq).1
    have h2 := zrows_ok a ha h1
    rw [hq] at h2
    exact of_decide_eq_true (Option.some.inj h2)
theorem zIs0 {I : Nat → Nat → Int32} {J : Nat → Nat → Int64} (hI : zchI I = true) : zIs (zs I J (zPt 2 13 13 18 2 26)) := by
  unfold zchI at hI
  simp only [Bool.and_eq_true] at hI
  obtain ⟨⟨⟨⟨h111, h31⟩, h32⟩, h33⟩, hc⟩ := hI
  have r111 : ∀ k, k < 92 → I 111 k = if 24 ≤ k ∧ k < 30 then -1 else 0 := fun k hk => eq_of_beq (List.all_eq_true.mp h111 k (List.mem_range.mpr hk))
  have r31 : ∀ k, k < 24 → I 31 k = 0 := fun k hk => eq_of_beq (List.all_eq_true.mp h31 k (List.mem_range.mpr hk))
  have r32 : ∀ k, k < 6 → I 32 k = -1 := fun k hk => eq_of_beq (List.all_eq_true.mp h32 k (List.mem_range.mpr hk))
  have r33 : ∀ k, k < 60 → I 33 k = 0 := fun k hk => eq_of_beq (List.all_eq_true.mp h33 k (List.mem_range.mpr hk))
  have c : ∀ a k v, (a, k, v) ∈ _ → I a k = v := fun a k v hm => eq_of_beq (List.all_eq_true.mp hc (a, k, v) hm)
  have a1 : ∀ k, k < 24 → I 111 k = 0 := fun k hk => by rw [r111 k (by omega), if_neg (by omega)]
  have a2 : ∀ k, k < 6 → I 111 (24 + k) = -1 := fun k hk => by rw [r111 _ (by omega), if_pos (by omega)]
  have a3 : I 111 30 = 0 := by rw [r111 30 (by omega), if_neg (by omega)]
  have a4 : I 111 31 = 0 := by rw [r111 31 (by omega), if_neg (by omega)]
  have a5 : ∀ k, k < 60 → I 111 (32 + k) = 0 := fun k hk => by rw [r111 _ (by omega), if_neg (by omega)]
  have hRow : zRow (I 111) 0 0 0 := by
    refine ⟨⟨fun k hk => ?_, fun k hk => Or.inl (a2 k hk), ⟨0, by decide, a3⟩, ⟨0, by decide, a4⟩⟩, fun k hk => ⟨0, by decide, a5 k hk⟩⟩
    rw [a1 k hk]
    exact ⟨by decide, by decide⟩
  have hNow : zNow I 30 (I 111) := ⟨fun k hk => (r31 k hk).trans (a1 k hk).symm, fun k hk => (r32 k hk).trans (a2 k hk).symm, (c 30 3 0 (by simp)).trans a3.symm, (c 30 4 0 (by simp)).trans a4.symm, fun k hk => (r33 k hk).trans (a5 k hk).symm⟩
  refine zIs_mk (t := 2) (u := 13) (nt := 0) (nb := 0) (nr := 0) (q := 0) (sh := 5) (md := 3) (om := 0) (im := 0) (LW := [-1]) (BW := [-3]) ⟨Or.inl ⟨rfl, rfl⟩, ⟨Or.inl rfl, ?_, hNow, hRow.1, ⟨a4, by decide⟩, ⟨a3, by decide⟩, c 51 2 0 (by simp), c 51 3 0 (by simp)⟩, hRow, zTp_0 (c 0 1 0 (by simp)) (c 91 1 0 (by simp)), ⟨(c 24 0 0 (by simp)).trans (c 91 2 0 (by simp)).symm, (c 24 1 (-1) (by simp)).trans (c 91 3 (-1) (by simp)).symm⟩, fun g hg => ?_, fun b hb => Or.inl ?_, ⟨0, 0, 0, fun _ => I 111, ⟨by decide, by decide⟩, ⟨c 41 0 0 (by simp), c 41 1 0 (by simp), c 41 2 0 (by simp), c 91 56 0 (by simp), c 91 57 0 (by simp)⟩, fun j _ => hRow, fun k _ => rfl, fun j hj => by omega, fun j q1 q2 => by omega, fun j hj => by omega⟩, ⟨[], c 0 16 0 (by simp), c 91 71 0 (by simp), by decide, List.nodup_nil, fun k b hk => by cases hk⟩, ⟨[], ⟨c 0 18 0 (by simp), fun k v hk => by cases hk⟩, ⟨c 91 59 0 (by simp), fun k v hk => by cases hk⟩, by decide⟩, 0, 0, ⟨c 68 0 0 (by simp), c 91 78 0 (by simp), by decide⟩, ⟨c 68 1 0 (by simp), c 91 79 0 (by simp), by decide⟩, fun l hl => by omega⟩
  · refine ⟨⟨⟨c 91 41 0 (by simp), by decide⟩, ⟨c 91 42 0 (by simp), by decide⟩, ⟨c 91 43 0 (by simp), by decide⟩, zval_l1, Or.inl ⟨c 91 47 0 (by simp), rfl⟩⟩, ⟨⟨c 2 0 0 (by simp), by decide⟩, ⟨c 2 1 0 (by simp), by decide⟩, ⟨c 2 2 0 (by simp), by decide⟩, zval_l1, by decide, c 7 2 1 (by simp), fun k hk => ?_⟩, ⟨c 91 44 0 (by simp), c 2 3 0 (by simp), by decide⟩, ⟨c 91 45 5 (by simp), c 2 4 5 (by simp), by decide, by decide⟩, ⟨c 91 46 3 (by simp), c 2 5 3 (by simp), by decide⟩, (c 2 6 0 (by simp)).trans (c 91 22 0 (by simp)).symm, fun b k hb => by omega, fun r k hr => by omega, fun r hr => by omega, zval_l3, by decide, c 10 2 1 (by simp), fun k hk => ?_, Or.inl ⟨c 91 48 0 (by simp), rfl⟩⟩
    · have : k = 0 := by simp at hk; exact hk
      subst this
      exact congrArg some (c 8 0 (-1) (by simp)).symm
    · have : k = 0 := by simp at hk; exact hk
      subst this
      exact congrArg some (c 11 0 (-3) (by simp)).symm
  · have : g = 0 ∨ g = 1 := by omega
    rcases this with rfl | rfl
    · exact ⟨0, by decide, c 96 0 0 (by simp)⟩
    · exact ⟨0, by decide, c 96 1 0 (by simp)⟩
  · have : b = 0 ∨ b = 1 ∨ b = 2 := by omega
    rcases this with rfl | rfl | rfl
    · exact ⟨c 132 0 0 (by simp), c 76 5 0 (by simp)⟩
    · exact ⟨c 132 1 0 (by simp), c 81 5 0 (by simp)⟩
    · exact ⟨c 132 2 0 (by simp), c 86 5 0 (by simp)⟩
theorem zlaw_true (xs : Nat → Int32) {L : Nat} (hL : L ≤ 3072) : ∃ σ' : zSt, f_Q_law xs L zσ0 = some (1, σ') := by
  have h1 := zinit_I
  have h2 := zinit_P
  cases hz : zinit with
  | none => rw [hz] at h1; cases h1
  | some σ6 =>
    rw [hz] at h1 h2
    simp only [Bool.and_eq_true] at h1
    unfold zinit at hz
    obtain ⟨σ3, e3, e6⟩ := Option.bind_eq_some_iff.mp hz
    by_cases hlen : σ3.1.length = 91
    · rw [if_pos hlen] at e6
      have b0 : zbdP zσ0 := fun _ _ _ => rfl
      have b3 : zbdP σ3 := zHh_Wi (zbdP_new _ b0) σ3 e3
      have b6 : zbdP σ6 := zHh_Mi (zbdP_new _ b3) σ6 e6
      have hl : σ6.1 = zLAY := of_decide_eq_true h1.1
      have hP := zP_all hl b6 h2
      have hs : zIs σ6 := by
        obtain ⟨lay, I, J, P⟩ := σ6
        have hl : lay = zLAY := hl
        have hP : P = zPt 2 13 13 18 2 26 := hP
        subst hl
        subst hP
        exact zIs0 h1.2
      have := law_loop (xs := xs) hL 512 zfu 0 σ6 (by omega) (zfu_lt (by decide)) (by omega) hs
      obtain ⟨σ', h⟩ := this
      have h : f_Q_law_18L xs L zfu σ6 0 91 0 = some (1, σ') := h
      refine ⟨σ', ?_⟩
      rw [f_Q_law, zbs, zbs, show zσ0.1.length = 0 from rfl, e3, zbs, zbs, zbs, hlen, e6, zbs, h]
    · rw [if_neg hlen] at e6; cases e6
