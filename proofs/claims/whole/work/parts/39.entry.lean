/-! THE CLAIM OUT OF ONE WALK OF THE LAW'S BODY. Your part is whole_start (and what it stands on); all else here is the same for every law, but numbers. -/
def R_law : String := "WantShelvesLaw"
def lw_P (b : Addr) (xs : List Int32) (args : Array Value) (s : State) : Prop := args = #[.ref b] ∧ s.IntsAt b xs ∧ xs.length ≤ 3072 ∧ (Jvm.Cond.and given_1 narrow_1).before args s = true
def lw_Q (_ : Array Value) (s : State) (o : Outcome) (t : State) : Prop := o = .returned (some (.int 1)) ∧ Framed s o t [] 600000 7302250
def lw_Z (below : List Frame) (a : Array Value) (s : State) : State → Prop := fun t => ∃ o, t.status = .running ∧ Ended t below o ∧ lw_Q a s o t
/-- the law's own end, with 1 on the stack, nothing written that was there before, its room as the claim has it -/
theorem lw_ret {p : Program} {l : Launch} {e : Env} {s : State} {m : MethodId} {below : List Frame} {meth : Method} {c : Code} {b : Nat} (hx : p.tables.exec = Jvm.exec) (hb : c.code = code) (hr : meth.sig.returnType = ret) (hlocks : meth.locks = false) {pc : Nat} {H : Heap} {ls : Array Slot} (hdg : decode code pc = .ok (.ireturn, 1)) : W p l e room_1 s m #[Value.ref b] below meth c H [] 600000 7302250 (lw_Z below #[Value.ref b] s) (F0 m pc ls [.int 1]) := by
  intro T hT X
  obtain ⟨fs, hret, hrun, hended, hW, hframe⟩ := X.leave (v := some (.int 1)) (hlocks := hlocks) (fun h => by rw [hr] at h; cases h)
  have hmeth' : T.vm.method? m = some meth := X.method'
  refine ⟨T.setFrames fs, ?_, .returned (some (.int 1)), hrun, hended, rfl, ⟨_, rfl⟩, hW, hframe⟩
  jvm_step X.here [X.here.top, hx, hb, hdg, hmeth', hr, ret, narrow_b1]
  (try refine ⟨rfl, ?_⟩); (try refine ⟨rfl, ?_⟩)
  first | (intro acts; rw [hret _ acts rfl rfl rfl]) | rw [hret _ _ rfl rfl rfl]
  exact Steps.refl _
/-- what holds at the law's entry: the machine, the code, the tables' words (any of lw_tbl by 'hts w (by decide +kernel)'), the script of L ints xs at the cell b, what the Statement gives of the start (any of its parts by flat_of_before) -/
def lw_At (p : Program) (s : State) (m : MethodId) (meth : Method) (c : Code) (b L : Nat) (xs : Nat → Int32) : Prop :=
  p.tables.exec = Jvm.exec ∧ c.code = code ∧ meth.sig.returnType = ret ∧ c.maxLocals = 4 ∧ s.vm.findClass R_law = some m.cls ∧ (∀ w ∈ lw_tbl, w.before #[Value.ref b] s = true) ∧ va_X b L xs s s.heap ∧ b < s.heap.size ∧ meth.locks = false ∧ (Jvm.Cond.and given_1 narrow_1).before #[Value.ref b] s = true
/-! from the law's entry to the pure machine -/
def zσ0 : zSt := ([], fun _ _ => 0, fun _ _ => 0, fun _ _ => none)
theorem zfin {w : Cond} {args : Array Value} {s : State} (hg : (Jvm.Cond.and given_1 narrow_1).before args s = true) (i : Nat) (h : (flatC (Jvm.Cond.and given_1 narrow_1))[i]? = some w) : w.before args s = true := flat_of_before _ hg w (List.mem_of_getElem? h)
def ztm (i : Nat) : Term := .string "WantShelves$Scanner" (if i = 0 then 71 else 51)
theorem zel_0 : ∀ j, j < 184 → (flatC (Jvm.Cond.and given_1 narrow_1))[13 + j]? = some (Cond.eq (.elem (.field (ztm 0) "java/lang/String" "value" "[B") (.int (Int32.ofNat j))) (.int ((zsb.getD 0 []).getD j 0))) := by decide +kernel
theorem zel_1 : ∀ j, j < 11 → (flatC (Jvm.Cond.and given_1 narrow_1))[201 + j]? = some (Cond.eq (.elem (.field (ztm 1) "java/lang/String" "value" "[B") (.int (Int32.ofNat j))) (.int ((zsb.getD 1 []).getD j 0))) := by decide +kernel
theorem zstrings {args : Array Value} {s : State} (hg : (Jvm.Cond.and given_1 narrow_1).before args s = true) {A : Nat → Prop} (hA : ∀ a : Nat, a < s.heap.size → ¬ A a) : ∃ adK adV : Nat → Nat, vk_S 2 zsl zsb adK adV A s s.heap ∧ ∀ i : Nat, i < 2 → (ztm i).eval args s none [] s = some (.ref (adK i)) := by
  have two : ∀ {P : Nat → Prop}, P 0 → P 1 → ∀ i, i < 2 → P i := fun h0 h1 i hi => by
    rcases (show i = 0 ∨ i = 1 by omega) with rfl | rfl
    · exact h0
    · exact h1
  refine vk_Sof (tm := ztm) (two (by decide) (by decide)) (two (zfin hg 9 (by decide +kernel)) (zfin hg 197 (by decide +kernel))) (two (zfin hg 10 (by decide +kernel)) (zfin hg 198 (by decide +kernel)))
    (two (zfin hg 11 (by decide +kernel)) (zfin hg 199 (by decide +kernel))) (two (zfin hg 12 (by decide +kernel)) (zfin hg 200 (by decide +kernel)))
    (two (fun j hj => zfin hg _ (zel_0 j hj)) (fun j hj => zfin hg _ (zel_1 j hj))) ?_ hA
  intro i j hi hj hij
  rcases (show (i = 0 ∧ j = 1) ∨ (i = 1 ∧ j = 0) by omega) with ⟨rfl, rfl⟩ | ⟨rfl, rfl⟩
  · exact Or.inl (zfin hg 212 (by decide +kernel))
  · exact Or.inr (zfin hg 212 (by decide +kernel))
theorem zt_raw {w : Cond} (i : Nat) (h : tables_1[i]? = some w) : w ∈ lw_tbl := List.mem_append_right _ (List.mem_of_getElem? h)
theorem zclasses {args : Array Value} {s : State} (hts : ∀ w ∈ lw_tbl, w.before args s = true) : ∃ D : va_G, ∀ (c : Nat) (q : vw_C), zCl[c]? = some q → u_Kn s q.1 q.2.1 q.2.2 (D.1 c) (D.2 c) := by
  have hz : ∀ w ∈ zTB, w.before args s = true := fun w hw => hts w (List.mem_filter.mp hw).1
  have hin : ∀ f, f < 13 → (Cond.instantiable (zR f) (zN f)).before args s = true := by
    intro f hf
    match f, hf with
    | 0, _ => exact hts _ (zt_raw 269 (by decide +kernel))
    | 1, _ => exact hts _ (zt_raw 386 (by decide +kernel))
    | 2, _ => exact hts _ (zt_raw 38 (by decide +kernel))
    | 3, _ => exact hts _ (zt_raw 402 (by decide +kernel))
    | 4, _ => exact hts _ (zt_raw 227 (by decide +kernel))
    | 5, _ => exact hts _ (zt_raw 364 (by decide +kernel))
    | 6, _ => exact hts _ (zt_raw 331 (by decide +kernel))
    | 7, _ => exact hts _ (zt_raw 158 (by decide +kernel))
    | 8, _ => exact hts _ (zt_raw 302 (by decide +kernel))
    | 9, _ => exact hts _ (zt_raw 152 (by decide +kernel))
    | 10, _ => exact hts _ (zt_raw 32 (by decide +kernel))
    | 11, _ => exact hts _ (zt_raw 24 (by decide +kernel))
    | 12, _ => exact hts _ (zt_raw 1275 (by decide +kernel))
    | n + 13, h => exact absurd h (by omega)
  have h : ∀ f, ∃ q : ClassId × (Nat → Nat), f < 13 → u_Kn s (zR f) (zT f) (zN f) q.1 q.2 := by
    intro f
    by_cases hf : f < 13
    · obtain ⟨cC, iS, hk⟩ := u_known (C := zR f) (T := zT f) (N := zN f) (n := zN f) hz (zu f hf) (hin f hf)
      exact ⟨(cC, iS), fun _ => hk⟩
    · exact ⟨(0, fun _ => 0), fun h => absurd h hf⟩
  obtain ⟨g, hg⟩ := Classical.axiomOfChoice h
  refine ⟨(fun f => (g f).1, fun f => (g f).2), fun c q hq => ?_⟩
  have hc : c < 13 := by
    have := (List.getElem?_eq_some_iff.mp hq).1
    simpa [zCl] using this
  rw [zcl hc] at hq
  cases hq
  exact hg c hc
theorem zarrays {args : Array Value} {s : State} (hts : ∀ w ∈ lw_tbl, w.before args s = true) : ∃ ca : Nat → ClassId, ∀ (k : Nat) (q : ClassId × FieldType), (ztys ca)[k]? = some q → ArrOfT s q.1 q.2 ∧ va_RA s q.1 q.2 := by
  have prim : ∀ ty : FieldType, (Cond.arrayClass ty).before args s = true → (∀ C, ty ≠ .object C) → ∃ cA, ArrOfT s cA ty ∧ va_RA s cA ty := by
    intro ty h hno
    obtain ⟨cA, kA, comp, h1, h2, h3⟩ := Cond.arrayClass_spec h
    refine ⟨cA, fun n z => ⟨fun k h => (by cases h), kA, h2, comp, h3⟩, ?_⟩
    cases ty <;> first | exact h1 | exact absurd rfl (hno _)
  obtain ⟨c1, h1⟩ := prim .int (hts _ (zt_raw 54 (by decide +kernel))) (fun C h => by cases h)
  obtain ⟨c2, h2⟩ := prim .byte (hts _ (zt_raw 53 (by decide +kernel))) (fun C h => by cases h)
  obtain ⟨c3, h3⟩ := prim .boolean (hts _ (zt_raw 1530 (by decide +kernel))) (fun C h => by cases h)
  obtain ⟨c4, h4⟩ := prim .long (hts _ (zt_raw 225 (by decide +kernel))) (fun C h => by cases h)
  obtain ⟨comp, c5, kA, g1, g2, g3, g4, g5⟩ := Cond.arrayOver_spec (n := "WantShelves$Now") (hts _ (zt_raw 267 (by decide +kernel)))
  refine ⟨fun k => if k = 1 then c1 else if k = 2 then c2 else if k = 3 then c3 else if k = 4 then c4 else c5, fun k q hq => ?_⟩
  have hk : k < 5 := (List.getElem?_eq_some_iff.mp hq).1
  rcases (show k = 0 ∨ k = 1 ∨ k = 2 ∨ k = 3 ∨ k = 4 by omega) with rfl | rfl | rfl | rfl | rfl
  · cases hq; exact h1
  · cases hq; exact h2
  · cases hq; exact h3
  · cases hq; exact h4
  · cases hq
    exact ⟨fun n z => ⟨fun k h => (by cases h), kA, g3, comp, g4⟩, kA, comp, g3, g4, g1, g5⟩
theorem zstart {p : Program} {e : Env} {s : State} {m : MethodId} {below : List Frame} {meth : Method} {c : Code} (l : Launch) {b L : Nat} {xs : Nat → Int32} {σ' : zSt} (C0 : lw_At p s m meth c b L xs) (hf : f_Q_law xs L zσ0 = some (1, σ')) : W p l e room_1 s m #[Value.ref b] below meth c s.heap [] 0 0 (lw_Z below #[Value.ref b] s) (entryFrame m ([Value.ref b] : List Value).toArray 4) := by
  obtain ⟨hx, hb, hr, hml, hown, hts, hX, hbl, hlocks, hgv⟩ := id C0
  have hA : ∀ a : Nat, a < s.heap.size → ¬ (fun q : Nat => s.heap.size ≤ q) a := fun a h => Nat.not_le.mpr h
  obtain ⟨D, hD⟩ := zclasses hts
  obtain ⟨ca, hca⟩ := zarrays hts
  obtain ⟨adK, adV, hS, hK⟩ := zstrings hgv (A := fun q : Nat => s.heap.size ≤ q) hA
  have hC := va_Zof (v := .int 1) (A := fun q : Nat => s.heap.size ≤ q) (hts _ (zt_raw 557 (by decide +kernel))) (hts _ (zt_raw 17 (by decide +kernel))) (va_eqt (zfin hgv 4 (w := Cond.eq (.static "java/lang/String" "COMPACT_STRINGS" "Z") (.int 1)) (by decide +kernel))) hA
  have hF := va_Zqof (A := fun q : Nat => s.heap.size ≤ q) (hts _ (zt_raw 573 (by decide +kernel))) (hts _ (zt_raw 19 (by decide +kernel))) (zfin hgv 5 (w := Cond.isRef (.static "jdk/internal/util/Preconditions" "SIOOBE_FORMATTER" "Ljava/util/function/BiFunction;")) (by decide +kernel)) hA
  have hF2 : ∃ v : Value, v.category = 1 ∧ va_Z "jdk/internal/util/Preconditions" "SIOOBE_FORMATTER" "Ljava/util/function/BiFunction;" v (fun q : Nat => s.heap.size ≤ q) s s.heap := by
    rcases hF with h | ⟨t, h⟩
    · exact ⟨_, rfl, h⟩
    · exact ⟨_, rfl, h⟩
  obtain ⟨vF, hvF, hF⟩ := hF2
  have hl := lv_entry ([.ref b]) (n := 4) (Nat.le_of_ble_eq_true rfl)
  rw [lg_entry_eq]
  generalize (lg_sl ([.ref b]) ++ List.replicate (4 - (lg_sl ([.ref b])).length) Slot.unset).toArray = ls at hl ⊢
  have hsig : room_1.frames = 2048 ∧ room_1.locals = 84000 ∧ room_1.cells = 600000 ∧ room_1.slots = 7302250 := ⟨rfl, rfl, rfl, rfl⟩
  refine r_Q_law (X := (p, l, e, room_1, s, m, #[Value.ref b], below, meth, c, lw_Z below #[Value.ref b] s, s.heap.size, (fun j => if j = 0 then .ref b else if j = 1 then .ref (adK 0) else if j = 2 then .ref (adK 1) else if j = 3 then .ref (adV 0) else if j = 4 then .ref (adV 1) else vF), D, ca)) (σ := zσ0) ?_ ?_ ?_ hf ?_ s.heap [] ls ?_ ?_ ?_ ?_
  · refine ⟨hx, hb, hml, hown, fun w hw => hts w (List.mem_filter.mp hw).1, ⟨⟨hD, hca⟩, fun w hw => ?_, va_AO.of (hts _ (zt_raw 267 (by decide +kernel)))⟩, ⟨adK, adV, ⟨rfl, rfl, rfl, rfl, hvF⟩, hS, vk_R.of (hts _ (zt_raw 547 (by decide +kernel))) (hK 0 (by decide)), vk_R.of (hts _ (zt_raw 603 (by decide +kernel))) (hK 1 (by decide)), hC, hF⟩, Nat.le_refl _, by rw [hsig.1]; decide, by rw [hsig.2.1]; decide, hlocks, fun j => ?_⟩
    · simp only [znest, List.mem_cons, List.not_mem_nil, or_false] at hw
      rcases hw with rfl | rfl | rfl | rfl | rfl | rfl | rfl | rfl
      · exact va_Nw.of rfl (hts _ (zt_raw 39 (by decide +kernel)))
      · exact va_Nw.of rfl (hts _ (zt_raw 159 (by decide +kernel)))
      · exact va_Nw.of rfl (hts _ (zt_raw 228 (by decide +kernel)))
      · exact va_Nw.of rfl (hts _ (zt_raw 270 (by decide +kernel)))
      · exact va_Nw.of rfl (hts _ (zt_raw 332 (by decide +kernel)))
      · exact va_Nw.of rfl (hts _ (zt_raw 365 (by decide +kernel)))
      · exact va_Nw.of rfl (hts _ (zt_raw 387 (by decide +kernel)))
      · exact va_Nw.of rfl (hts _ (zt_raw 403 (by decide +kernel)))
    · dsimp only
      split
      · rfl
      split
      · rfl
      split
      · rfl
      split
      · rfl
      split
      · rfl
      exact hvF
  · exact ⟨b, rfl, hX, hbl, Nat.not_le.mpr hbl⟩
  · exact ⟨by rw [hsig.2.2.1]; decide, by rw [hsig.2.2.2]; decide⟩
  · intro H locs ls pc i hP hz hS2 hi hd
    dsimp only at hi
    subst hi
    rw [hb] at hd
    refine va_forget (fun q hq => hS2.2.2 q hq) ?_
    refine W.widen (k := 600000) (n := 7302250) (Nat.le_of_ble_eq_true rfl) (Nat.le_of_ble_eq_true rfl) ?_
    exact lw_ret hx hb hr hlocks hd
  · intro k q hk
    simp [zwd, zσ0] at hk
  · simp [zσ0]
  · exact va_S.rf
  · rw [hml]
    exact hl
