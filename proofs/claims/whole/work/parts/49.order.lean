/-! orders: the best of what is left, again and again; places; turns -/
/-- a stands ahead of b by v -/
def zah (v : Nat → Int32) (a b : Nat) : Prop := v b < v a ∨ (v a = v b ∧ a < b)
theorem zah_asymm {v : Nat → Int32} {a b : Nat} (h : zah v a b) (h2 : zah v b a) : False := by
  rcases h with h | ⟨h, h'⟩ <;> rcases h2 with g | ⟨g, g'⟩
  · exact Int32.lt_irrefl (Int32.lt_trans h g)
  · rw [g] at h; exact Int32.lt_irrefl h
  · rw [h] at g; exact Int32.lt_irrefl g
  · omega
theorem zah_trans {v : Nat → Int32} {a b c : Nat} (h : zah v a b) (h2 : zah v b c) : zah v a c := by
  rcases h with h | ⟨h, h'⟩ <;> rcases h2 with g | ⟨g, g'⟩
  · exact Or.inl (Int32.lt_trans g h)
  · exact Or.inl (by rw [← g]; exact h)
  · exact Or.inl (by rw [h]; exact g)
  · exact Or.inr ⟨h.trans g, by omega⟩
theorem zah_total {v : Nat → Int32} {a b : Nat} (h : a ≠ b) : zah v a b ∨ zah v b a := by
  by_cases h1 : v b < v a
  · exact Or.inl (Or.inl h1)
  · by_cases h2 : v a < v b
    · exact Or.inr (Or.inl h2)
    · have h3 : v a = v b := Int32.le_antisymm (Int32.not_lt.mp h1) (Int32.not_lt.mp h2)
      rcases Nat.lt_or_gt_of_ne h with h4 | h4
      · exact Or.inl (Or.inr ⟨h3, h4⟩)
      · exact Or.inr (Or.inr ⟨h3.symm, h4⟩)
def zbst (ok : Nat → Bool) (v : Nat → Int32) (b : Nat) (best : Option Nat) : Option Nat := match best with
  | none => if ok b = true then some b else none
  | some c => if ok b = true ∧ v c < v b then some b else some c
def zbest (ok : Nat → Bool) (v : Nat → Int32) (n : Nat) : Option Nat := zrn (zbst ok v) n 0 none
def zoI : Option Nat → Int32
  | none => -1
  | some b => nI b
theorem zbest_spec (ok : Nat → Bool) (v : Nat → Int32) (n : Nat) : match zbest ok v n with
    | none => ∀ b, b < n → ok b = false
    | some b => b < n ∧ ok b = true ∧ ∀ c, c < n → ok c = true → c ≠ b → zah v b c := by
  have h := zrn_inv (zbst ok v) n (fun k best => match best with
    | none => ∀ b, b < k → ok b = false
    | some b => b < k ∧ ok b = true ∧ ∀ c, c < k → ok c = true → c ≠ b → zah v b c) (fun k best hk hi => by
      unfold zbst
      cases best with
      | none =>
        by_cases ho : ok k = true
        · simp only [ho, if_true]
          refine ⟨by omega, trivial, fun c hc hoc hne => ?_⟩
          rw [hi c (by omega)] at hoc
          cases hoc
        · simp only [ho, if_false]
          intro b hb
          by_cases hbk : b = k
          · subst hbk; simpa using ho
          · exact hi b (by omega)
      | some c =>
        obtain ⟨h1, h2, h3⟩ := hi
        by_cases ho : ok k = true ∧ v c < v k
        · simp only [if_pos ho]
          refine ⟨by omega, ho.1, fun d hd hod hne => ?_⟩
          by_cases hdc : d = c
          · subst hdc; exact Or.inl ho.2
          · exact zah_trans (Or.inl ho.2) (h3 d (by omega) hod hdc)
        · simp only [if_neg ho]
          refine ⟨by omega, h2, fun d hd hod hne => ?_⟩
          by_cases hdk : d = k
          · subst hdk
            have : ¬ v c < v d := fun h => ho ⟨hod, h⟩
            rcases zah_total (v := v) (show c ≠ d from fun h => hne h.symm) with h | h
            · exact h
            · rcases h with h | ⟨h, h'⟩
              · exact absurd h this
              · omega
          · exact h3 d (by omega) hod hne) n 0 none (by omega) (by intro b hb; omega)
  rw [Nat.zero_add] at h
  exact h
theorem zbest_congr {ok ok' : Nat → Bool} {v v' : Nat → Int32} {n : Nat} (h : ∀ b, b < n → ok b = ok' b) (hv : ∀ b, b < n → ok b = true → v b = v' b) : zbest ok v n = zbest ok' v' n := by
  have key : ∀ d k best, k + d ≤ n → (∀ c, best = some c → c < n ∧ ok c = true) → zrn (zbst ok v) d k best = zrn (zbst ok' v') d k best := by
    intro d
    induction d with
    | zero => intro k best _ _; rfl
    | succ d ih =>
      intro k best hk hb
      show zrn (zbst ok v) d (k + 1) (zbst ok v k best) = zrn (zbst ok' v') d (k + 1) (zbst ok' v' k best)
      have e : zbst ok v k best = zbst ok' v' k best := by
        unfold zbst
        rw [h k (by omega)]
        by_cases ho : ok' k = true
        · cases best with
          | none => rfl
          | some c =>
            obtain ⟨h1, h2⟩ := hb c rfl
            simp only [hv c h1 h2, hv k (by omega) (by rw [h k (by omega)]; exact ho)]
        · cases best with
          | none => rfl
          | some c => simp [ho]
      rw [← e]
      refine ih _ _ (by omega) (fun c hc => ?_)
      cases best with
      | none =>
        simp only [zbst] at hc
        split at hc
        · rename_i hq
          cases hc
          exact ⟨by omega, hq⟩
        · cases hc
      | some c' =>
        simp only [zbst] at hc
        split at hc
        · rename_i hq
          cases hc
          exact ⟨by omega, hq.1⟩
        · cases hc; exact hb _ rfl
  exact key n 0 none (by omega) (fun c hc => by cases hc)
/-- how many below n -/
def zct (p : Nat → Bool) (n : Nat) : Nat := (List.range n).countP p
theorem zct_succ (p : Nat → Bool) (n : Nat) : zct p (n + 1) = zct p n + (if p n = true then 1 else 0) := by
  unfold zct
  rw [List.range_succ, List.countP_append]
  by_cases h : p n = true <;> simp [h]
theorem zct_congr {p q : Nat → Bool} {n : Nat} (h : ∀ b, b < n → p b = q b) : zct p n = zct q n := by
  induction n with
  | zero => rfl
  | succ n ih => rw [zct_succ, zct_succ, ih (fun b hb => h b (by omega)), h n (by omega)]
theorem zct_le (p : Nat → Bool) (n : Nat) : zct p n ≤ n := by
  induction n with
  | zero => exact Nat.le_refl _
  | succ n ih => rw [zct_succ]; split <;> omega
theorem zct_0 {p : Nat → Bool} {n : Nat} (h : ∀ b, b < n → p b = false) : zct p n = 0 := by
  induction n with
  | zero => rfl
  | succ n ih => rw [zct_succ, ih (fun b hb => h b (by omega)), h n (by omega)]; rfl
theorem zct_pos {p : Nat → Bool} {n b : Nat} (hb : b < n) (h : p b = true) : 0 < zct p n := by
  induction n with
  | zero => omega
  | succ n ih =>
    rw [zct_succ]
    by_cases hbn : b = n
    · subst hbn; rw [h]; simp
    · have := ih (by omega); omega
/-- without one of them -/
theorem zct_out {p q : Nat → Bool} {n b : Nat} (hb : b < n) (h : p b = true) (hq : q b = false) (hc : ∀ c, c < n → c ≠ b → q c = p c) : zct p n = zct q n + 1 := by
  induction n with
  | zero => omega
  | succ n ih =>
    rw [zct_succ, zct_succ]
    by_cases hbn : b = n
    · subst hbn
      rw [h, hq, zct_congr (fun c hcn => hc c (by omega) (by omega))]
      simp
    · rw [ih (by omega) (fun c hcn => hc c (by omega)), hc n (by omega) (fun h => hbn h.symm)]
      omega
def zwo (ok : Nat → Bool) (b : Nat) : Nat → Bool := fun c => ok c && decide (c ≠ b)
theorem zwo_self (ok : Nat → Bool) (b : Nat) : zwo ok b b = false := by simp [zwo]
theorem zwo_ne (ok : Nat → Bool) {b c : Nat} (h : c ≠ b) : zwo ok b c = ok c := by simp [zwo, h]
theorem zct_wo {ok : Nat → Bool} {n b : Nat} (hb : b < n) (h : ok b = true) : zct ok n = zct (zwo ok b) n + 1 :=
  zct_out hb h (zwo_self _ _) (fun c _ hne => zwo_ne _ hne)
/-- picked again and again -/
def zgo (pick : Nat → (Nat → Bool) → Option Nat) (nxt : Nat → Nat) : Nat → Nat → (Nat → Bool) → List Nat
  | 0, _, _ => []
  | d + 1, c, ok => match pick c ok with
    | none => []
    | some b => b :: zgo pick nxt d (nxt c) (zwo ok b)
def zsel (v : Nat → Int32) (n d : Nat) (ok : Nat → Bool) : List Nat := zgo (fun _ ok => zbest ok v n) (fun c => c) d 0 ok
theorem zsel_succ (v : Nat → Int32) (n d : Nat) (ok : Nat → Bool) : zsel v n (d + 1) ok = match zbest ok v n with
    | none => []
    | some b => b :: zsel v n d (zwo ok b) := rfl
/-- how many stand ahead of b -/
noncomputable def zpl (ok : Nat → Bool) (v : Nat → Int32) (n b : Nat) : Nat := zct (fun o => decide (o ≠ b) && ok o && (v b < v o || (v o == v b && decide (o < b)))) n
theorem zah_b (v : Nat → Int32) (o b : Nat) : (decide (v b < v o) || (v o == v b && decide (o < b))) = true ↔ zah v o b := by
  unfold zah
  simp
theorem zsel_at {v : Nat → Int32} {n : Nat} : ∀ (d : Nat) (ok : Nat → Bool) (b : Nat), zct ok n ≤ d → b < n → ok b = true → (zsel v n d ok)[zpl ok v n b]? = some b := by
  intro d
  induction d with
  | zero =>
    intro ok b hd hb ho
    have := zct_pos hb ho
    omega
  | succ d ih =>
    intro ok b hd hb ho
    have hs := zbest_spec ok v n
    rw [zsel_succ]
    cases hz : zbest ok v n with
    | none => rw [hz] at hs; rw [hs b hb] at ho; cases ho
    | some b0 =>
      rw [hz] at hs
      obtain ⟨h1, h2, h3⟩ := hs
      by_cases hbb : b = b0
      · subst hbb
        have : zpl ok v n b = 0 := zct_0 (fun o hon => by
          by_cases hob : o = b
          · simp [hob]
          · cases hoo : ok o with
            | false => simp
            | true =>
              have h4 := h3 o hon hoo hob
              have h5 : ¬ ((decide (v b < v o) || (v o == v b && decide (o < b))) = true) := fun h => zah_asymm h4 ((zah_b v o b).mp h)
              simp only [Bool.not_eq_true] at h5
              rw [h5]
              simp)
        rw [this]
        rfl
      · have h4 := h3 b hb ho hbb
        have : zpl ok v n b = zpl (zwo ok b0) v n b + 1 := zct_out (b := b0) h1 (by
            have h5 := (zah_b v b0 b).mpr h4
            rw [h5]
            simp [h2]
            exact fun h => hbb h.symm) (by simp [zwo_self]) (fun c hc hne => by rw [zwo_ne _ hne])
        rw [this]
        show (zsel v n d (zwo ok b0))[zpl (zwo ok b0) v n b]? = some b
        refine ih _ _ ?_ hb (by rw [zwo_ne _ hbb]; exact ho)
        have := zct_wo h1 h2
        omega
/-- an order of what is ok, below n -/
def zOd (L : List Nat) (ok : Nat → Bool) (n : Nat) : Prop := L.Nodup ∧ L.length = zct ok n ∧ ∀ b, b ∈ L ↔ (b < n ∧ ok b = true)
theorem zOd_nil {ok : Nat → Bool} {n : Nat} (h : ∀ b, b < n → ok b = false) : zOd [] ok n := by
  refine ⟨List.nodup_nil, (zct_0 h).symm, fun b => ⟨fun hb => (by cases hb), fun ⟨h1, h2⟩ => ?_⟩⟩
  rw [h b h1] at h2
  cases h2
theorem zOd_cons {L : List Nat} {ok : Nat → Bool} {n b : Nat} (hb : b < n) (ho : ok b = true) (h : zOd L (zwo ok b) n) : zOd (b :: L) ok n := by
  obtain ⟨h1, h2, h3⟩ := h
  refine ⟨List.nodup_cons.mpr ⟨fun hm => ?_, h1⟩, ?_, fun c => ?_⟩
  · have := ((h3 b).mp hm).2
    rw [zwo_self] at this
    cases this
  · rw [List.length_cons, h2, zct_wo hb ho]
  · rw [List.mem_cons, h3 c]
    by_cases hc : c = b
    · subst hc; simp [hb, ho]
    · simp [hc, zwo_ne _ hc]
theorem zgo_Od {pick : Nat → (Nat → Bool) → Option Nat} {nxt : Nat → Nat} {n : Nat} (hp : ∀ c ok, match pick c ok with
    | none => ∀ b, b < n → ok b = false
    | some b => b < n ∧ ok b = true) : ∀ (d c : Nat) (ok : Nat → Bool), zct ok n ≤ d → zOd (zgo pick nxt d c ok) ok n := by
  intro d
  induction d with
  | zero =>
    intro c ok hd
    refine zOd_nil (fun b hb => ?_)
    cases ho : ok b with
    | false => rfl
    | true => have := zct_pos hb ho; omega
  | succ d ih =>
    intro c ok hd
    have hs := hp c ok
    unfold zgo
    cases hz : pick c ok with
    | none => rw [hz] at hs; exact zOd_nil hs
    | some b =>
      rw [hz] at hs
      have := zct_wo hs.1 hs.2
      exact zOd_cons hs.1 hs.2 (ih _ _ (by omega))
theorem zgo_congr {pick : Nat → (Nat → Bool) → Option Nat} {nxt : Nat → Nat} {n : Nat} (hp : ∀ c ok ok', (∀ b, b < n → ok b = ok' b) → pick c ok = pick c ok') : ∀ (d c : Nat) (ok ok' : Nat → Bool), (∀ b, b < n → ok b = ok' b) → zgo pick nxt d c ok = zgo pick nxt d c ok' := by
  intro d
  induction d with
  | zero => intro c ok ok' h; rfl
  | succ d ih =>
    intro c ok ok' h
    unfold zgo
    rw [hp c ok ok' h]
    cases pick c ok' with
    | none => rfl
    | some b =>
      show b :: _ = b :: _
      rw [ih (nxt c) (zwo ok b) (zwo ok' b) (fun c hc => by unfold zwo; rw [h c hc])]
theorem zbest_pick (ok : Nat → Bool) (v : Nat → Int32) (n : Nat) : match zbest ok v n with
    | none => ∀ b, b < n → ok b = false
    | some b => b < n ∧ ok b = true := by
  have := zbest_spec ok v n
  cases hz : zbest ok v n with
  | none => rw [hz] at this; exact this
  | some b => rw [hz] at this; exact ⟨this.1, this.2.1⟩
theorem zsel_Od {v : Nat → Int32} {n : Nat} (d : Nat) (ok : Nat → Bool) (h : zct ok n ≤ d) : zOd (zsel v n d ok) ok n := zgo_Od (fun _ ok => zbest_pick ok v n) d 0 ok h
/-- the next one of a set from c on, round and round -/
def znx (set : Nat) : Nat → Nat → Nat
  | 0, c => c % 6
  | d + 1, c => if set.testBit (c % 6) = true then c % 6 else znx set d (c + 1)
def ztp (K : Nat → Nat → Int32) (n set : Nat) : Nat → (Nat → Bool) → Option Nat := fun c ok => zbest ok (K (znx set 6 c)) n
def ztn (set : Nat) : Nat → Nat := fun c => znx set 6 c + 1
def ztu (K : Nat → Nat → Int32) (n set : Nat) : Nat → Nat → (Nat → Bool) → List Nat := zgo (ztp K n set) (ztn set)
theorem ztu_Od {K : Nat → Nat → Int32} {n set : Nat} (d c : Nat) (ok : Nat → Bool) (h : zct ok n ≤ d) : zOd (ztu K n set d c ok) ok n := zgo_Od (fun c ok => zbest_pick ok _ n) d c ok h
/-- two keys joined by a quarrel -/
def zcb (q : Nat) (a b : Int32) : Int32 := if q = 0 then a + b else if q = 1 then (if b < a then b else a) else (if a < b then b else a)
def zjt (K : Nat → Nat → Int32) (q set b : Nat) (r : Nat) (p : Bool × Int32) : Bool × Int32 := if set.testBit r = true then (true, if p.1 = true then zcb q p.2 (K r b) else K r b) else p
def zjoint (K : Nat → Nat → Int32) (q set nr b : Nat) : Int32 := (zrn (zjt K q set b) nr 0 (false, 0)).2
/-- the order of a party -/
def zord (K : Nat → Nat → Int32) (q nr nb : Nat) (ok : Nat → Bool) (set : Nat) : List Nat := if q = 3 ∧ set ≠ 0 then ztu K nb set 10 0 ok else zsel (zjoint K q set nr) nb 10 ok
theorem zord_Od {K : Nat → Nat → Int32} {q nr nb : Nat} {ok : Nat → Bool} {set : Nat} (hn : nb ≤ 10) : zOd (zord K q nr nb ok set) ok nb := by
  have h := zct_le ok nb
  unfold zord
  split
  · exact ztu_Od 10 0 ok (by omega)
  · exact zsel_Od 10 ok (by omega)
