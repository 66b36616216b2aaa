/-! the pure machine: its states, the judgement zPJ over the kit's W -/
/-- layout (kind, class or length); ints; longs; references -/
abbrev zSt : Type := List (Nat × Nat) × (Nat → Nat → Int32) × (Nat → Nat → Int64) × (Nat → Nat → Option Nat)
def zro {α : Type} (f : Nat → Nat → α) (a : Nat) (r : Nat → α) : Nat → Nat → α := fun x => if x = a then r else f x
def zup {α : Type} (f : Nat → Nat → α) (a k : Nat) (v : α) : Nat → Nat → α := zro f a (va_up (f a) k v)
theorem zro_self {α : Type} (f : Nat → Nat → α) (a : Nat) (r : Nat → α) : zro f a r a = r := by simp [zro]
theorem zro_ne {α : Type} (f : Nat → Nat → α) {a x : Nat} (r : Nat → α) (h : x ≠ a) : zro f a r x = f x := by simp [zro, h]
theorem zup_ne {α : Type} (f : Nat → Nat → α) {a x : Nat} (k : Nat) (v : α) (h : x ≠ a) : zup f a k v x = f x := by simp [zup, zro, h]
theorem zup_self {α : Type} (f : Nat → Nat → α) (a k : Nat) (v : α) : zup f a k v a = va_up (f a) k v := by simp [zup, zro]
def zin (i : Int32) (n : Nat) : Bool := decide (¬ (i < 0 ∨ n ≤ i.toNatClampNeg))
theorem zin_vp {i : Int32} {n : Nat} (h : zin i n = true) : vp_in i n := by
  exact of_decide_eq_true (p := ¬ (i < 0 ∨ n ≤ i.toNatClampNeg)) h
def zok (σ : zSt) (kd a : Nat) (i : Int32) : Bool := match σ.1[a]? with
  | some q => q.1 == kd && zin i q.2
  | none => false
def znar (kd : Nat) (v : Int32) : Int32 := match kd with
  | 2 => vp_nar .byte v
  | 3 => vp_nar .boolean v
  | _ => v
def zgI (σ : zSt) (c a k : Nat) : Option Int32 := if σ.1[a]? = some (0, c) then some (σ.2.1 a k) else none
def zgJ (σ : zSt) (c a k : Nat) : Option Int64 := if σ.1[a]? = some (0, c) then some (σ.2.2.1 a k) else none
def zgP (σ : zSt) (c a k : Nat) : Option Nat := if σ.1[a]? = some (0, c) then σ.2.2.2 a k else none
def zsI (σ : zSt) (c a k : Nat) (v : Int32) : Option zSt := if σ.1[a]? = some (0, c) then some (σ.1, zup σ.2.1 a k v, σ.2.2) else none
def zsJ (σ : zSt) (c a k : Nat) (v : Int64) : Option zSt := if σ.1[a]? = some (0, c) then some (σ.1, σ.2.1, zup σ.2.2.1 a k v, σ.2.2.2) else none
def zsP (σ : zSt) (c a k : Nat) (v : Nat) : Option zSt := if σ.1[a]? = some (0, c) then some (σ.1, σ.2.1, σ.2.2.1, zup σ.2.2.2 a k (some v)) else none
def zaI (σ : zSt) (kd a : Nat) (i : Int32) : Option Int32 := if zok σ kd a i = true then some (σ.2.1 a i.toNatClampNeg) else none
def zaJ (σ : zSt) (a : Nat) (i : Int32) : Option Int64 := if zok σ 4 a i = true then some (σ.2.2.1 a i.toNatClampNeg) else none
def zaP (σ : zSt) (a : Nat) (i : Int32) : Option Nat := if zok σ 5 a i = true then σ.2.2.2 a i.toNatClampNeg else none
def zwI (σ : zSt) (kd a : Nat) (i : Int32) (v : Int32) : Option zSt := if zok σ kd a i = true then some (σ.1, zup σ.2.1 a i.toNatClampNeg (znar kd v), σ.2.2) else none
def zwJ (σ : zSt) (a : Nat) (i : Int32) (v : Int64) : Option zSt := if zok σ 4 a i = true then some (σ.1, σ.2.1, zup σ.2.2.1 a i.toNatClampNeg v, σ.2.2.2) else none
/-- a reference to an object of class c is put into an array of such -/
def zwP (σ : zSt) (c a : Nat) (i : Int32) (v : Nat) : Option zSt := if zok σ 5 a i = true ∧ σ.1[v]? = some (0, c) then some (σ.1, σ.2.1, σ.2.2.1, zup σ.2.2.2 a i.toNatClampNeg (some v)) else none
def zlen (σ : zSt) (kd a : Nat) : Option Int32 := match σ.1[a]? with
  | some q => if q.1 = kd then some (Int32.ofNat q.2) else none
  | none => none
/-- a new cell: its address, and the state with it -/
def znew (σ : zSt) (q : Nat × Nat) : zSt := (σ.1 ++ [q], zro σ.2.1 σ.1.length (fun _ => 0), zro σ.2.2.1 σ.1.length (fun _ => 0), zro σ.2.2.2 σ.1.length (fun _ => none))
/-- System.arraycopy of ints -/
def zcpy (σ : zSt) (a : Nat) (sp : Int32) (a2 : Nat) (dp n : Int32) : Option zSt := match σ.1[a]?, σ.1[a2]? with
  | some q, some q2 => if q.1 = 1 ∧ q2.1 = 1 ∧ ¬ sp < 0 ∧ ¬ dp < 0 ∧ ¬ n < 0 ∧ sp.toNatClampNeg + n.toNatClampNeg ≤ q.2 ∧ dp.toNatClampNeg + n.toNatClampNeg ≤ q2.2 then
      some (σ.1, zro σ.2.1 a2 (va_cpy (σ.2.1 a) (σ.2.1 a2) sp.toNatClampNeg dp.toNatClampNeg n.toNatClampNeg), σ.2.2) else none
  | _, _ => none
/-- a truth that is returned, or kept in a boolean -/
def zbool (v : Int32) : Option Int32 := if v = 0 ∨ v = 1 then some v else none
-- ===== how a state lies in the heap =====
def zfv (b : Nat) (σ : zSt) (c a k : Nat) : Value := match zty c k with
  | .long => .long (σ.2.2.1 a k)
  | .array _ => va_rf ((σ.2.2.2 a k).map (b + ·))
  | .object _ => va_rf ((σ.2.2.2 a k).map (b + ·))
  | _ => .int (σ.2.1 a k)
def zen (b : Nat) (ca : Nat → ClassId) (σ : zSt) (a : Nat) (q : Nat × Nat) : va_E := match q.1 with
  | 0 => .inr (q.2, (List.range (zN q.2)).map (zfv b σ q.2 a))
  | 4 => .inl (ca 4, q.2, .inr (.inl (σ.2.2.1 a)))
  | 5 => .inl (ca 5, q.2, .inr (.inr (.inr (.inr (fun j => (σ.2.2.2 a j).map (b + ·))))))
  | n => .inl (ca n, q.2, .inl (σ.2.1 a))
def zwd (b : Nat) (ca : Nat → ClassId) (σ : zSt) : va_W := σ.1.mapIdx (fun a q => (b + a, zen b ca σ a q))
def ztys (ca : Nat → ClassId) : List (ClassId × FieldType) := [(ca 1, .int), (ca 2, .byte), (ca 3, .boolean), (ca 4, .long), (ca 5, .object "WantShelves$Now")]
theorem zwd_get {b : Nat} {ca : Nat → ClassId} {σ : zSt} {a : Nat} {q : Nat × Nat} (h : σ.1[a]? = some q) : (zwd b ca σ)[a]? = some (b + a, zen b ca σ a q) := by
  simp [zwd, List.getElem?_mapIdx, h]
theorem zwd_of {b : Nat} {ca : Nat → ClassId} {σ : zSt} {a : Nat} {x : Nat × va_E} (h : (zwd b ca σ)[a]? = some x) : ∃ q, σ.1[a]? = some q ∧ x = (b + a, zen b ca σ a q) := by
  simp only [zwd, List.getElem?_mapIdx] at h
  cases hq : σ.1[a]? with
  | none => rw [hq] at h; cases h
  | some q => rw [hq] at h; exact ⟨q, rfl, (Option.some.inj h).symm⟩
theorem zwd_D (b : Nat) (ca : Nat → ClassId) (σ : zSt) : va_D (fun q => b ≤ q) (zwd b ca σ) := by
  refine ⟨fun i j x y hi hj hxy => ?_, fun k x hk => ?_⟩
  · obtain ⟨q, -, rfl⟩ := zwd_of hi
    obtain ⟨q2, -, rfl⟩ := zwd_of hj
    exact Nat.add_left_cancel hxy
  · obtain ⟨q, -, rfl⟩ := zwd_of hk
    exact Nat.le_add_right _ _
theorem zwd_set {b : Nat} {ca : Nat → ClassId} {σ σ' : zSt} {a : Nat} {q : Nat × Nat} {x : va_E} (hq : σ.1[a]? = some q) (hL : σ'.1 = σ.1) (hx : x = zen b ca σ' a q)
    (ho : ∀ k q, k ≠ a → zen b ca σ' k q = zen b ca σ k q) : (zwd b ca σ).set a (b + a, x) = zwd b ca σ' := by
  apply List.ext_getElem?
  intro k
  have hla : a < (zwd b ca σ).length := by
    have := (List.getElem?_eq_some_iff.mp hq).1
    simpa [zwd] using this
  by_cases hk : k = a
  · subst hk
    rw [List.getElem?_set_self hla, zwd_get (σ := σ') (q := q) (by rw [hL]; exact hq), hx]
  · rw [List.getElem?_set_ne (Ne.symm hk)]
    simp only [zwd, List.getElem?_mapIdx, hL]
    cases σ.1[k]? with
    | none => rfl
    | some q2 => simp [ho k q2 hk]
theorem zen_cong {b : Nat} {ca : Nat → ClassId} {σ σ' : zSt} {k : Nat} (q : Nat × Nat) (h1 : σ'.2.1 k = σ.2.1 k) (h2 : σ'.2.2.1 k = σ.2.2.1 k) (h3 : σ'.2.2.2 k = σ.2.2.2 k) : zen b ca σ' k q = zen b ca σ k q := by
  have hf : ∀ c j, zfv b σ' c k j = zfv b σ c k j := fun c j => by simp [zfv, h1, h2, h3]
  have hf' : zfv b σ' q.2 k = zfv b σ q.2 k := funext fun j => hf q.2 j
  simp only [zen, h1, h2, h3, hf']
theorem zwd_push {b : Nat} {ca : Nat → ClassId} {σ : zSt} (q : Nat × Nat) : zwd b ca (znew σ q) = zwd b ca σ ++ [(b + σ.1.length, zen b ca (znew σ q) σ.1.length q)] := by
  simp only [zwd, znew, List.mapIdx_append, List.mapIdx_cons, List.mapIdx_nil, Nat.zero_add]
  congr 1
  apply List.ext_getElem?
  intro k
  simp only [List.getElem?_mapIdx]
  cases hk : σ.1[k]? with
  | none => rfl
  | some q2 =>
    have hl : k ≠ σ.1.length := Nat.ne_of_lt (List.getElem?_eq_some_iff.mp hk).1
    simp only [Option.map_some]
    rw [zen_cong q2 (zro_ne _ _ hl) (zro_ne _ _ hl) (zro_ne _ _ hl)]
-- ===== what lies outside: two texts, two statics =====
def zsl : List Nat := [184, 11]
def zsb : List (List Int32) := [[116, 111, 112, 105, 99, 32, 32, 32, 98, 111, 111, 107, 32, 32, 32, 32, 114, 101, 97, 100, 101, 114, 32, 32, 108, 97, 119, 32, 32, 32, 32, 32, 98, 101, 110, 100, 32, 32, 32, 32, 113, 117, 97, 114, 114, 101, 108, 32, 115, 104, 101, 108, 102, 32, 32, 32, 109, 111, 111, 100, 32, 32, 32, 32, 111, 100, 100, 115, 32, 32, 32, 32, 119, 97, 110, 116, 115, 32, 32, 32, 115, 117, 109, 32, 32, 32, 32, 32, 108, 101, 97, 115, 116, 32, 32, 32, 109, 111, 115, 116, 32, 32, 32, 32, 116, 117, 114, 110, 115, 32, 32, 32, 111, 114, 32, 32, 32, 32, 32, 32, 97, 110, 100, 32, 32, 32, 32, 32, 110, 111, 116, 32, 32, 32, 32, 32, 119, 97, 110, 116, 32, 32, 32, 32, 111, 117, 103, 104, 116, 32, 32, 32, 111, 108, 100, 32, 32, 32, 32, 32, 119, 101, 105, 103, 104, 116, 32, 32, 114, 101, 97, 100, 115, 32, 32, 32, 110, 117, 109, 98, 101, 114, 32, 32], [59, 40, 41, 60, 62, 61, 43, 45, 42, 47, 37]]
def zEX (b : Nat) (ex : Nat → Value) (U : State) (H : Heap) : Prop := ∃ adK adV : Nat → Nat, (ex 1 = .ref (adK 0) ∧ ex 2 = .ref (adK 1) ∧ ex 3 = .ref (adV 0) ∧ ex 4 = .ref (adV 1) ∧ (ex 5).category = 1) ∧
  vk_S 2 zsl zsb adK adV (fun q => b ≤ q) U H ∧ vk_R "WantShelves$Scanner" 71 "topic   book    reader  law     bend    quarrel shelf   mood    odds    wants   sum     least   most    turns   or      and     not     want    ought   old     weight  reads   number  " (adK 0) U ∧ vk_R "WantShelves$Scanner" 51 ";()<>=+-*/%" (adK 1) U ∧
  va_Z "java/lang/String" "COMPACT_STRINGS" "Z" (.int 1) (fun q => b ≤ q) U H ∧ va_Z "jdk/internal/util/Preconditions" "SIOOBE_FORMATTER" "Ljava/util/function/BiFunction;" (ex 5) (fun q => b ≤ q) U H
theorem zEX.warm {b : Nat} {ex : Nat → Value} {s U : State} {H H1 : Heap} (hW : s.WarmedH U.vm) (hq : ∀ a : Nat, a < H.size → ¬ b ≤ a → H1[a]? = H[a]?) (h : zEX b ex s H) : zEX b ex U H1 := by
  obtain ⟨adK, adV, h0, h1, h2, h3, h4, h5⟩ := h
  exact ⟨adK, adV, h0, (h1.moved hW.alike).kept hq, h2.warm hW, h3.warm hW, (h4.moved hW.alike).kept hq, (h5.moved hW.alike).kept hq⟩
theorem zEX.same {b : Nat} {ex : Nat → Value} {s U : State} {H : Heap} (hv : U.vm = s.vm) (h : zEX b ex s H) : zEX b ex U H := by
  obtain ⟨adK, adV, h0, h1, h2, h3, h4, h5⟩ := h
  have ha : s.vm.Alike U.vm := by rw [hv]; exact Vm.Alike.refl _
  exact ⟨adK, adV, h0, h1.moved ha, h2.same hv, h3.same hv, h4.moved ha, h5.moved ha⟩
/-- what the classes are -/
def zKX (D : va_G) (ca : Nat → ClassId) (U : State) : Prop := va_K D zCl (ztys ca) U ∧ (∀ w ∈ znest, va_Nw w U) ∧ va_AO "WantShelves$Now" U
theorem zKX.warm {D : va_G} {ca : Nat → ClassId} {s U : State} (hW : s.WarmedH U.vm) (h : zKX D ca s) : zKX D ca U := by
  refine ⟨va_K.moved hW.alike h.1, fun w hw => ?_, va_AO.moved hW.alike h.2.2⟩
  have h1 := h.2.1 w hw
  simp only [znest, List.mem_cons, List.not_mem_nil, or_false] at hw
  rcases hw with rfl | rfl | rfl | rfl | rfl | rfl | rfl | rfl <;> exact va_Nw.warmM hW h1
theorem zKX.same {D : va_G} {ca : Nat → ClassId} {s U : State} (hv : U.vm = s.vm) (h : zKX D ca s) : zKX D ca U := by
  have ha : s.vm.Alike U.vm := by rw [hv]; exact Vm.Alike.refl _
  refine ⟨va_K.moved ha h.1, fun w hw => ?_, va_AO.moved ha h.2.2⟩
  have h1 := h.2.1 w hw
  simp only [znest, List.mem_cons, List.not_mem_nil, or_false] at hw
  rcases hw with rfl | rfl | rfl | rfl | rfl | rfl | rfl | rfl <;> exact va_Nw.same rfl hv.symm h1
-- ===== the judgement =====
def zrv (b : Nat) (ex : Nat → Value) : Value → Value
  | .ref k => .ref (b + k)
  | .retAddr j => ex j
  | v => v
abbrev zCX : Type := Program × Launch × Env × Room × State × MethodId × Array Value × List Frame × Method × Code × (State → Prop) × Nat × (Nat → Value) × va_G × (Nat → ClassId)
def zlo (b : Nat) (ex : Nat → Value) (loc : List (Nat × Value)) : List (Nat × Value) := loc.map (fun q => (q.1, zrv b ex q.2))
def zPJ (X : zCX) (cells slots pc : Nat) (loc : List (Nat × Value)) (stk : List Value) (σ : zSt) : Prop := match X with
  | (p, l, e, R, s, m, args, below, meth, c, Q, b, ex, D, ca) => ∀ (H : Heap) (locs : List Loc) (ls : Array Slot),
    va_P D zCl (zwd b ca σ) H → H.size = b + σ.1.length → va_S (fun q => b ≤ q) s.heap H locs → lv_has ls c.maxLocals (zlo b ex loc) →
    W p l e R s m args below meth c H locs cells slots Q (F0 m pc ls (stk.map (zrv b ex)))
/-- what a method stands on -/
def zOK (X : zCX) (own : String) (cc : ByteArray) (nL d : Nat) : Prop := match X with
  | (p, _, _, R, s, m, args, _, meth, c, _, b, ex, D, ca) => p.tables.exec = Jvm.exec ∧ c.code = cc ∧ c.maxLocals = nL ∧ s.vm.findClass own = some m.cls ∧ (∀ w ∈ zTB, w.before args s = true) ∧
    zKX D ca s ∧ zEX b ex s s.heap ∧ b ≤ s.heap.size ∧ d ≤ R.frames ∧ 48 * d ≤ R.locals ∧ meth.locks = false ∧ (∀ j, (ex j).category = 1)
/-- to return r here, in a state σ, is right -/
def zRX (X : zCX) (cells slots : Nat) (r : Option Value) (σ : zSt) : Prop := match X with
  | (p, l, e, R, s, m, args, below, meth, c, Q, b, ex, D, ca) => ∀ (H : Heap) (locs : List Loc) (ls : Array Slot) (pc : Nat) (i : Instr),
    va_P D zCl (zwd b ca σ) H → H.size = b + σ.1.length → va_S (fun q => b ≤ q) s.heap H locs →
    (match r with | none => i = .return_ | some (.int _) => i = .ireturn | some (.long _) => i = .lreturn | _ => False) → decode c.code pc = .ok (i, 1) →
    W p l e R s m args below meth c H locs cells slots Q (F0 m pc ls (r.toList.map (zrv b ex)))
