/-! formulas: both ways come to the same -/
section ZSim
variable {T : Nat → yTk}
theorem yer_S {α : Type} (τ : yTk) {s : yMc} (h : ymst T s = yerS τ) : ∃ c pl, (yer τ : yRs α) = .error (c, pl) ∧ yRun T s (.error (c, pl)) := ⟨_, _, rfl, .er h⟩
theorem ysim_er {X : yFo} {p un : Nat} {s : yMc} {Q : yFr → Prop} (τ : yTk) (hX : X p un = yer τ) (h : ymst T s = yerS τ) : match X p un with
  | .error (c, pl) => yRun T s (.error (c, pl))
  | .ok r => Q r := by
  rw [hX]
  exact .er h
theorem yopP_3 {k : Nat} (h : yopP k = true) : k = 42 ∨ k = 47 ∨ k = 37 := by simpa [yopP, or_assoc] using h
theorem yopS_2 {k : Nat} (h : yopS k = true) : k = 43 ∨ k = 45 := by simpa [yopS] using h
theorem yopR_3 {k : Nat} (h : yopR k = true) : k = 60 ∨ k = 62 ∨ k = 61 := by simpa [yopR, or_assoc] using h
theorem yopA_1 {k : Nat} (h : yopA k = true) : k = 19 := by simpa [yopA] using h
theorem yopO_1 {k : Nat} (h : yopO k = true) : k = 18 := by simpa [yopO] using h
/-- a sign of level l is met, what stands is closed down to l, it waits -/
theorem ysign {p un l : Nat} {Q S : List Nat} {M : List Int32} (h0 : ¬ ysc (T p).1 = 0) (hl : ytgt (ysc (T p).1) = l) (hr : l = 4 → yhr (Q ++ S) = false) (h41 : ¬ (T p).1 = 41) (hQ : ∀ q ∈ Q, q ≠ 20 ∧ l ≤ ytgt q) (hS : ypre l S) :
    ymst T ⟨false, p, Q ++ S, M, un⟩ = .inl ⟨true, (T p).2.2.2.2, ysc (T p).1 :: S, M ++ Q.map ymkc, un⟩ := by
  unfold ymst
  simp only [Bool.false_eq_true, if_false]
  rw [if_neg (by rintro ⟨h, _⟩; exact h41 h), if_pos ⟨h0, by rintro ⟨h, h2⟩; rw [hl] at h; rw [hr h] at h2; cases h2⟩, hl, ycl_app Q S M hQ, ycl_stop hS]
/-- level l's loop; op's signs have tightness l -/
theorem ysim_L {item : yFo} {op : Nat → Bool} {mk : Nat → Int32} {a i l w : Nat} {c : Bool} (hi : ySim T item a i w c) (hc : c = true → 4 ≤ l) (hla : l < a) (hil : l ≤ i) (hop : ∀ k, op k = true → ¬ ysc k = 0 ∧ ytgt (ysc k) = l ∧ ¬ k = 41 ∧ ¬ ysc k = 20 ∧ ¬ ysc k = 21 ∧ ymkc (ysc k) = mk k) (h4 : ¬ l = 4) (hst : ∀ Q Q' k, ystp i Q k → op k = false → ystp l (Q ++ Q') k) :
    ∀ (d p un : Nat) (S Q Q0 : List Nat) (M : List Int32), Q = Q0 → ypre l S → ydp S + w = 7 → un ≤ 30 → 31 ≤ un + d → (∀ q ∈ Q, q ≠ 20 ∧ l ≤ ytgt q) → (∃ Qa Qb, Q = Qa ++ Qb ∧ ystp i Qa (T p).1) → match yfL T item op mk d p un with
      | .error (c, pl) => yRun T ⟨false, p, Q ++ S, M, un⟩ (.error (c, pl))
      | .ok r => ∃ Q' M1, yRch T ⟨false, p, Q ++ S, M, un⟩ ⟨false, r.2.1, Q' ++ S, M1, r.2.2⟩ ∧ (∀ q ∈ Q', q ≠ 20 ∧ l ≤ ytgt q) ∧ M1 ++ Q'.map ymkc = M ++ Q.map ymkc ++ r.1 ∧ un ≤ r.2.2 ∧ r.2.2 ≤ 30 ∧ ystp l Q' (T r.2.1).1 := by
  intro d
  induction d with
  | zero => intro p un S Q Q0 M _ hS hw hu hd; omega
  | succ d ih =>
    intro p un S Q Q0 M hQ0 hS hw hu hd hQ hstQ
    unfold yfL
    cases hk : op (T p).1 with
    | false =>
      simp only [Bool.false_eq_true, if_false]
      obtain ⟨Qa, Qb, rfl, hs⟩ := hstQ
      exact ⟨Qa ++ Qb, M, yRch_refl _, hQ, by simp, Nat.le_refl _, hu, hst _ _ _ hs hk⟩
    | true =>
      simp only [if_true]
      obtain ⟨o1, o2, o3, o4, o5, o6⟩ := hop _ hk
      have st := ysign (T := T) (p := p) (un := un) (M := M) o1 o2 (fun h => absurd h h4) o3 hQ hS
      have hp2 : ypre a (ysc (T p).1 :: S) := Or.inr (by rw [o2]; exact hla)
      have hw2 : ydp (ysc (T p).1 :: S) + w = 7 := by
        have : ydp (ysc (T p).1 :: S) = ydp S := if_neg (by rintro (h | h); exact o4 h; exact o5 h)
        rw [this]; exact hw
      have it := hi (T p).2.2.2.2 un (ysc (T p).1 :: S) (M ++ Q.map ymkc) hp2 hw2 hu (fun hcc => by
        rintro ⟨_, h⟩
        have := hc hcc
        simp [ymn, o4] at h
        omega)
      cases hx : item (T p).2.2.2.2 un with
      | error cp_ =>
        obtain ⟨c, pl⟩ := cp_
        rw [hx] at it
        exact .go st it
      | ok r =>
        rw [hx] at it
        obtain ⟨Q1, M1, r1, r2, r3, r4, r5, r6⟩ := it
        have nx := ih r.2.1 r.2.2 S (Q1 ++ [ysc (T p).1]) _ M1 rfl hS hw r5 (by have : un < r.2.2 := r4; omega) (by
          intro q hq
          rcases List.mem_append.mp hq with h | h
          · exact ⟨(r2 q h).1, Nat.le_trans hil (r2 q h).2⟩
          · simp at h
            subst h
            exact ⟨o4, by rw [o2]; exact Nat.le_refl _⟩) ⟨Q1, [ysc (T p).1], rfl, r6⟩
        have e1 : Q1 ++ [ysc (T p).1] ++ S = Q1 ++ ysc (T p).1 :: S := by simp
        rw [e1] at nx
        simp only []
        cases hy : yfL T item op mk d r.2.1 r.2.2 with
        | error cp_ =>
          obtain ⟨c, pl⟩ := cp_
          rw [hy] at nx
          exact .go st (r1 _ nx)
        | ok r' =>
          rw [hy] at nx
          obtain ⟨Q2, M2, s1, s2, s3, s4, s5, s6⟩ := nx
          refine ⟨Q2, M2, yRch_trans (yRch_step st) (yRch_trans r1 s1), s2, ?_, ?_, s5, s6⟩
          · have r3' : M1 ++ List.map ymkc Q1 = M ++ List.map ymkc Q ++ r.1 := r3
            rw [s3, List.map_append, ← List.append_assoc, r3']
            simp [o6]
          · have : un < r.2.2 := r4
            exact Nat.le_trans (by omega) s4
theorem ysim_C {item : yFo} {op : Nat → Bool} {mk : Nat → Int32} {a i l w : Nat} {c : Bool} (hi : ySim T item a i w c) (hc : c = true → 4 ≤ l) (hla : l < a) (hil : l ≤ i) (hop : ∀ k, op k = true → ¬ ysc k = 0 ∧ ytgt (ysc k) = l ∧ ¬ k = 41 ∧ ¬ ysc k = 20 ∧ ¬ ysc k = 21 ∧ ymkc (ysc k) = mk k) (h4 : ¬ l = 4) (hst : ∀ Q Q' k, ystp i Q k → op k = false → ystp l (Q ++ Q') k) : ySim T (yfC T item op mk) l l w c := by
  intro p un S M hS hw hu hnn
  have it := hi p un S M (ypre_mono (Nat.le_of_lt hla) hS) hw hu hnn
  unfold yfC
  cases hx : item p un with
  | error cp_ =>
    obtain ⟨c, pl⟩ := cp_
    rw [hx] at it
    exact it
  | ok r =>
    rw [hx] at it
    obtain ⟨Q1, M1, r1, r2, r3, r4, r5, r6⟩ := it
    have r4' : un < r.2.2 := r4
    have nx := ysim_L hi hc hla hil hop h4 hst 30 r.2.1 r.2.2 S Q1 _ M1 rfl hS hw r5 (by omega) (fun q hq => ⟨(r2 q hq).1, Nat.le_trans hil (r2 q hq).2⟩) ⟨Q1, [], by simp, r6⟩
    simp only []
    cases hy : yfL T item op mk 30 r.2.1 r.2.2 with
    | error cp_ =>
      obtain ⟨c, pl⟩ := cp_
      rw [hy] at nx
      exact r1 _ nx
    | ok r' =>
      rw [hy] at nx
      obtain ⟨Q2, M2, s1, s2, s3, s4, s5, s6⟩ := nx
      refine ⟨Q2, M2, yRch_trans r1 s1, s2, ?_, Nat.lt_of_lt_of_le r4' s4, s5, s6⟩
      have r3' : M1 ++ List.map ymkc Q1 = M ++ r.1 := r3
      rw [s3, r3']
      simp
/-- behind an either within a bracket, or at the end, only ) or the end can come -/
theorem ystp_end {Q S : List Nat} {p : Nat} (hs : ystp 1 Q (T p).1) : ¬ (¬ ysc (T p).1 = 0 ∧ ¬ (ytgt (ysc (T p).1) = 4 ∧ yhr (Q ++ S) = true)) := by
  rintro ⟨h0, h1⟩
  obtain ⟨a1, a2, a3, a4, a5⟩ := hs
  have a1 := a1 (by decide)
  have a2 := a2 (by decide)
  have a3 := a3 (by decide)
  have a4 := a4 (by decide)
  have a5 := a5 (by decide)
  by_cases hr : yopR (T p).1 = true
  · obtain ⟨a, r, b, rfl, q1, q2, q3⟩ := a3 hr
    apply h1
    refine ⟨?_, ?_⟩
    · rcases yopR_3 hr with h | h | h <;> rw [h] <;> rfl
    · rw [List.append_assoc, yhr_app q1]
      show yhr (r :: (b ++ S)) = true
      rw [yhr, if_neg q2, if_pos (by omega)]
      simp [q3]
  · apply h0
    have b3 : yopR (T p).1 = false := by simpa using hr
    simp [yopP] at a1
    simp [yopS] at a2
    simp [yopA] at a4
    simp [yopO] at a5
    simp [yopR] at b3
    unfold ysc
    rw [if_neg a4, if_neg a5, if_neg (by omega)]
theorem ysim_U {re : Option yFo} {w : Nat} (hre : match re with
    | none => w = 0
    | some e => ∃ w', w = w' + 1 ∧ ySim T e 1 1 w' false) : ySim T (yfU T re) 7 7 w true := by
  intro p un S M _ hw hu hnn
  have hnn := hnn rfl
  by_cases h30 : un < 30
  · by_cases h40 : (T p).1 = 40
    · cases re with
      | none =>
        have hw0 : w = 0 := hre
        refine ysim_er (T p) (by unfold yfU; rw [if_pos h30, if_pos h40]) ?_
        unfold ymst
        simp only [if_true]
        rw [if_neg hnn, if_pos h40, if_neg (by omega)]
      | some e =>
        obtain ⟨w', rfl, he⟩ := hre
        have hX : yfU T (some e) p un = match e (T p).2.2.2.2 (un + 1) with
         | .error (c, l) => .error (c, l)
         | .ok r => if (T r.2.1).1 = 41 then .ok (r.1, (T r.2.1).2.2.2.2, r.2.2) else yer (T r.2.1) := by
          unfold yfU; rw [if_pos h30, if_pos h40]; rfl
        have st : ymst T ⟨true, p, S, M, un⟩ = .inl ⟨true, (T p).2.2.2.2, 20 :: S, M, un + 1⟩ := by
          unfold ymst
          simp only [if_true]
          rw [if_neg hnn, if_pos h40, if_pos ⟨h30, by omega⟩]
        have hd : ydp (20 :: S) = ydp S + 1 := rfl
        have it := he (T p).2.2.2.2 (un + 1) (20 :: S) M (Or.inl rfl) (by rw [hd]; omega) (by omega) (fun h => by cases h)
        rw [hX]
        cases hx : e (T p).2.2.2.2 (un + 1) with
        | error cp_ =>
          obtain ⟨c, pl⟩ := cp_
          rw [hx] at it
          exact .go st it
        | ok r =>
          rw [hx] at it
          obtain ⟨Q1, M1, r1, r2, r3, r4, r5, r6⟩ := it
          simp only []
          by_cases h41 : (T r.2.1).1 = 41
          · rw [if_pos h41]
            refine ⟨[], M ++ r.1, yRch_trans (yRch_step st) (yRch_trans r1 (yRch_step ?_)), by simp, by simp, ?_, r5, ?_⟩
            · unfold ymst
              simp only [Bool.false_eq_true, if_false]
              have r3' : M1 ++ List.map ymkc Q1 = M ++ r.1 := r3
              rw [if_pos ⟨h41, by simp⟩, ycl_20 (fun q hq => (r2 q hq).1), r3']
              rfl
            · have r4' : un + 1 < r.2.2 := r4
              show un < r.2.2
              omega
            · exact ⟨fun h => by omega, fun h => by omega, fun h => by omega, fun h => by omega, fun h => by omega⟩
          · rw [if_neg h41]
            refine .go st (r1 _ (.er ?_))
            unfold ymst
            simp only [Bool.false_eq_true, if_false]
            rw [if_neg (by rintro ⟨h, _⟩; exact h41 h), if_neg (ystp_end r6), if_pos (by simp)]
            rfl
    · by_cases h2 : (T p).1 = 2
      · have hX : yfU T re p un = .ok ([nI (T p).2.2.1], (T p).2.2.2.2, un + 1) := by
          unfold yfU; rw [if_pos h30, if_neg h40, if_pos h2]
        rw [hX]
        refine ⟨[], M ++ [nI (T p).2.2.1], yRch_step ?_, by simp, by simp, Nat.lt_succ_self un, h30, ⟨fun h => by omega, fun h => by omega, fun h => by omega, fun h => by omega, fun h => by omega⟩⟩
        unfold ymst
        simp only [if_true]
        rw [if_neg hnn, if_neg h40, if_pos ⟨h2, h30⟩]
        rfl
      · by_cases h3 : 21 ≤ (T p).1 ∧ (T p).1 ≤ 26
        · have hX : yfU T re p un = .ok ([(-1) - nI ((T p).1 - 21)], (T p).2.2.2.2, un + 1) := by
            unfold yfU; rw [if_pos h30, if_neg h40, if_neg h2, if_pos h3]
          rw [hX]
          refine ⟨[], M ++ [(-1) - nI ((T p).1 - 21)], yRch_step ?_, by simp, by simp, Nat.lt_succ_self un, h30, ⟨fun h => by omega, fun h => by omega, fun h => by omega, fun h => by omega, fun h => by omega⟩⟩
          unfold ymst
          simp only [if_true]
          rw [if_neg hnn, if_neg h40, if_neg (by rintro ⟨h, _⟩; exact h2 h), if_pos ⟨h3, h30⟩]
          rfl
        · refine ysim_er (T p) (by unfold yfU; rw [if_pos h30, if_neg h40, if_neg h2, if_neg h3]) ?_
          unfold ymst
          simp only [if_true]
          rw [if_neg hnn, if_neg h40, if_neg (by rintro ⟨h, _⟩; exact h2 h), if_neg (by rintro ⟨h, _⟩; exact h3 h)]
  · refine ysim_er (T p) (by unfold yfU; rw [if_neg h30]) ?_
    unfold ymst
    simp only [if_true]
    rw [if_neg hnn]
    split
    · rw [if_neg (by omega)]
    · rw [if_neg (by omega), if_neg (by omega)]
theorem ysim_P {re : Option yFo} {w : Nat} (hre : match re with
    | none => w = 0
    | some e => ∃ w', w = w' + 1 ∧ ySim T e 1 1 w' false) : ySim T (yfP T re) 6 6 w true :=
  ysim_C (ysim_U hre) (fun _ => by decide) (by decide) (by decide) (fun k hk => by
    rcases yopP_3 hk with rfl | rfl | rfl <;> decide) (by decide) (fun Q Q' k _ h => ⟨fun _ => h, fun h => by omega, fun h => by omega, fun h => by omega, fun h => by omega⟩)
theorem ysim_S {re : Option yFo} {w : Nat} (hre : match re with
    | none => w = 0
    | some e => ∃ w', w = w' + 1 ∧ ySim T e 1 1 w' false) : ySim T (yfS T re) 5 5 w true :=
  ysim_C (ysim_P hre) (fun _ => by decide) (by decide) (by decide) (fun k hk => by
    rcases yopS_2 hk with rfl | rfl <;> decide) (by decide) (fun Q Q' k h1 h => ⟨fun _ => h1.1 (by decide), fun _ => h, fun h => by omega, fun h => by omega, fun h => by omega⟩)
theorem ysim_1 {re rs : Option yFo} {w : Nat} (hre : match re with
    | none => w = 0
    | some e => ∃ w', w = w' + 1 ∧ ySim T e 1 1 w' false) (hrs : match rs with
    | none => w = 0
    | some e => ∃ w', w = w' + 1 ∧ ySim T e 4 3 w' false) : ySim T (yf1 T re rs) 4 3 w false := by
  intro p un S M hS hw hu _
  by_cases h20 : (T p).1 = 20
  · cases rs with
    | none =>
      have hw0 : w = 0 := hrs
      refine ysim_er (T p) (by unfold yf1; rw [if_pos h20]) ?_
      unfold ymst
      simp only [if_true]
      rw [if_pos ⟨h20, ymn_pre hS⟩, if_neg (by omega)]
    | some e =>
      obtain ⟨w', rfl, he⟩ := hrs
      have hX : yf1 T re (some e) p un = match e (T p).2.2.2.2 un with
       | .error (c, l) => .error (c, l)
       | .ok r => .ok (r.1 ++ [-13], r.2) := by
        unfold yf1; rw [if_pos h20]; rfl
      have st : ymst T ⟨true, p, S, M, un⟩ = .inl ⟨true, (T p).2.2.2.2, 21 :: S, M, un⟩ := by
        unfold ymst
        simp only [if_true]
        rw [if_pos ⟨h20, ymn_pre hS⟩, if_pos (by omega)]
      have hd : ydp (21 :: S) = ydp S + 1 := rfl
      have it := he (T p).2.2.2.2 un (21 :: S) M (Or.inr (by decide)) (by rw [hd]; omega) hu (fun h => by cases h)
      rw [hX]
      cases hx : e (T p).2.2.2.2 un with
      | error cp_ =>
        obtain ⟨c, pl⟩ := cp_
        rw [hx] at it
        exact .go st it
      | ok r =>
        rw [hx] at it
        obtain ⟨Q1, M1, r1, r2, r3, r4, r5, r6⟩ := it
        refine ⟨Q1 ++ [21], M1, yRch_trans (yRch_step st) ?_, ?_, ?_, r4, r5, r6.1, r6.2.1, fun h hr => ?_, r6.2.2.2.1, r6.2.2.2.2⟩
        · have e1 : Q1 ++ [21] ++ S = Q1 ++ 21 :: S := by simp
          rw [e1]
          exact r1
        · intro q hq
          rcases List.mem_append.mp hq with h | h
          · exact r2 q h
          · simp at h
            subst h
            decide
        · have r3' : M1 ++ List.map ymkc Q1 = M ++ r.1 := r3
          rw [List.map_append, ← List.append_assoc, r3']
          simp [ymkc]
        · obtain ⟨a, q, b, e1, e2, e3⟩ := r6.2.2.1 h hr
          exact ⟨a, q, b ++ [21], by rw [e1]; simp, e2, e3⟩
  · have hnn : ¬ ((T p).1 = 20 ∧ ymn S = true) := by rintro ⟨h, _⟩; exact h20 h
    have it := ysim_S hre p un S M (ypre_mono (by decide) hS) hw hu (fun _ => hnn)
    unfold yf1
    rw [if_neg h20]
    cases hx : yfS T re p un with
    | error cp_ =>
      obtain ⟨c, pl⟩ := cp_
      rw [hx] at it
      exact it
    | ok r =>
      rw [hx] at it
      obtain ⟨Q1, M1, r1, r2, r3, r4, r5, r6⟩ := it
      have r3' : M1 ++ List.map ymkc Q1 = M ++ r.1 := r3
      have r4' : un < r.2.2 := r4
      simp only []
      cases hr : yopR (T r.2.1).1 with
      | false =>
        simp only [Bool.false_eq_true, if_false]
        exact ⟨Q1, M1, r1, fun q hq => ⟨(r2 q hq).1, Nat.le_trans (by decide) (r2 q hq).2⟩, r3, r4, r5, fun _ => r6.1 (by decide), fun _ => r6.2.1 (by decide), (fun _ h => by rw [hr] at h; cases h), fun h => by omega, fun h => by omega⟩
      | true =>
        simp only [if_true]
        have o : ¬ ysc (T r.2.1).1 = 0 ∧ ytgt (ysc (T r.2.1).1) = 4 ∧ ¬ (T r.2.1).1 = 41 ∧ ¬ ysc (T r.2.1).1 = 20 ∧ ¬ ysc (T r.2.1).1 = 21 ∧ ymkc (ysc (T r.2.1).1) = -nI (T r.2.1).1 := by
          rcases yopR_3 hr with h | h | h <;> rw [h] <;> decide
        obtain ⟨o1, o2, o3, o4, o5, o6⟩ := o
        have q5 : ∀ q ∈ Q1, q ≠ 20 ∧ 4 < ytgt q := fun q hq => ⟨(r2 q hq).1, (r2 q hq).2⟩
        have st := ysign (T := T) (p := r.2.1) (un := r.2.2) (M := M1) (Q := Q1) (S := S) o1 o2 (fun _ => by rw [yhr_app q5, yhr_pre hS]) o3 (fun q hq => ⟨(q5 q hq).1, Nat.le_of_lt (q5 q hq).2⟩) hS
        have hw2 : ydp (ysc (T r.2.1).1 :: S) + w = 7 := by
          have : ydp (ysc (T r.2.1).1 :: S) = ydp S := if_neg (by rintro (h | h); exact o4 h; exact o5 h)
          rw [this]; exact hw
        have it2 := ysim_S hre (T r.2.1).2.2.2.2 r.2.2 (ysc (T r.2.1).1 :: S) (M1 ++ Q1.map ymkc) (Or.inr (by rw [o2]; decide)) hw2 r5 (fun _ => by
          rintro ⟨_, h⟩
          simp [ymn, o4, o2] at h)
        cases hy : yfS T re (T r.2.1).2.2.2.2 r.2.2 with
        | error cp_ =>
          obtain ⟨c, pl⟩ := cp_
          rw [hy] at it2
          exact r1 _ (.go st it2)
        | ok r' =>
          rw [hy] at it2
          obtain ⟨Q2, M2, s1, s2, s3, s4, s5, s6⟩ := it2
          have s3' : M2 ++ List.map ymkc Q2 = M1 ++ List.map ymkc Q1 ++ r'.1 := s3
          have s4' : r.2.2 < r'.2.2 := s4
          refine ⟨Q2 ++ [ysc (T r.2.1).1], M2, yRch_trans r1 (yRch_trans (yRch_step st) ?_), ?_, ?_, Nat.lt_trans r4' s4', s5, fun _ => s6.1 (by decide), fun _ => s6.2.1 (by decide), fun _ _ => ⟨Q2, _, [], rfl, fun q hq => ⟨(s2 q hq).1, (s2 q hq).2⟩, o4, o2⟩, fun h => by omega, fun h => by omega⟩
          · have e1 : Q2 ++ [ysc (T r.2.1).1] ++ S = Q2 ++ ysc (T r.2.1).1 :: S := by simp
            rw [e1]
            exact s1
          · intro q hq
            rcases List.mem_append.mp hq with h | h
            · exact ⟨(s2 q h).1, Nat.le_trans (by decide) (s2 q h).2⟩
            · simp at h
              subst h
              exact ⟨o4, by rw [o2]; decide⟩
          · rw [List.map_append, ← List.append_assoc, s3', r3']
            simp [o6]
theorem ysim_B {re rs : Option yFo} {w : Nat} (h1 : ySim T (yf1 T re rs) 4 3 w false) : ySim T (yfB T re rs) 2 2 w false :=
  ysim_C h1 (fun h => by cases h) (by decide) (by decide) (fun k hk => by
    rcases yopA_1 hk with rfl; decide) (by decide) (fun Q Q' k h h2 => ⟨fun _ => h.1 (by decide), fun _ => h.2.1 (by decide), fun _ hr => by
      obtain ⟨a, r, b, e1, e2⟩ := h.2.2.1 (by decide) hr
      exact ⟨a, r, b ++ Q', by rw [e1]; simp, e2⟩, fun _ => h2, fun h => by omega⟩)
theorem ysim_E {re rs : Option yFo} {w : Nat} (h1 : ySim T (yf1 T re rs) 4 3 w false) : ySim T (yfE T re rs) 1 1 w false :=
  ysim_C (ysim_B h1) (fun h => by cases h) (by decide) (by decide) (fun k hk => by
    rcases yopO_1 hk with rfl; decide) (by decide) (fun Q Q' k h h2 => ⟨fun _ => h.1 (by decide), fun _ => h.2.1 (by decide), fun _ hr => by
      obtain ⟨a, r, b, e1, e2⟩ := h.2.2.1 (by decide) hr
      exact ⟨a, r, b ++ Q', by rw [e1]; simp, e2⟩, fun _ => h.2.2.2.1 (by decide), fun _ => h2⟩)
theorem ysim_lv : ∀ w, ySim T (ylv T w).1 1 1 w false ∧ ySim T (ylv T w).2 4 3 w false := by
  intro w
  induction w with
  | zero =>
    have h1 : ySim T (yf1 T none none) 4 3 0 false := ysim_1 rfl rfl
    exact ⟨ysim_E h1, h1⟩
  | succ w ih =>
    have h1 : ySim T (yf1 T (some (ylv T w).1) (some (ylv T w).2)) 4 3 (w + 1) false := ysim_1 ⟨w, rfl, ih.1⟩ ⟨w, rfl, ih.2⟩
    exact ⟨ysim_E h1, h1⟩
/-- a formula, either way -/
theorem yform_run (p : Nat) : yRun T ⟨true, p, [], [], 0⟩ ((ylv T 7).1 p 0) := by
  have h := (ysim_lv (T := T) 7).1 p 0 [] [] trivial rfl (by decide) (fun h => by cases h)
  cases hx : (ylv T 7).1 p 0 with
  | error cp_ =>
    obtain ⟨c, pl⟩ := cp_
    rw [hx] at h
    exact h
  | ok r =>
    rw [hx] at h
    obtain ⟨Q, M1, r1, r2, r3, r4, r5, r6⟩ := h
    refine r1 _ (.er ?_)
    have n20 : ¬ 20 ∈ Q ++ [] := fun h => by simp at h; exact (r2 _ h).1 rfl
    have r3' : M1 ++ List.map ymkc Q = [] ++ r.1 := r3
    unfold ymst
    simp only [Bool.false_eq_true, if_false]
    rw [if_neg (by rintro ⟨_, h⟩; exact n20 h), if_neg (ystp_end r6), if_neg n20, ycl_app Q [] M1 (fun q hq => ⟨(r2 q hq).1, Nat.zero_le _⟩)]
    show (Sum.inr (Except.ok (M1 ++ List.map ymkc Q, r.2.1, r.2.2)) : ySp) = _
    rw [r3']
    rfl
theorem yform_un {p : Nat} {r : yFr} (h : (ylv T 7).1 p 0 = .ok r) : 0 < r.2.2 ∧ r.2.2 ≤ 30 := by
  have h2 := (ysim_lv (T := T) 7).1 p 0 [] [] trivial rfl (by decide) (fun h => by cases h)
  rw [h] at h2
  obtain ⟨Q, M1, r1, r2, r3, r4, r5, r6⟩ := h2
  exact ⟨r4, r5⟩
end ZSim
