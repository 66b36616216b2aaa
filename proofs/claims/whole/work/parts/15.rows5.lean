section ZC
variable {X : zCX} {own : String} {cc : ByteArray} {nL d cells slots pc pc' : Nat} {loc loc' : List (Nat × Value)} {stk : List Value} {σ σ' : zSt}
def zXl (X : zCX) : Launch := match X with | (_, l, _) => l
def zXb (X : zCX) : Nat := match X with | (_, _, _, _, _, _, _, _, _, _, _, b, _, _, _) => b
def zXe (X : zCX) : Nat → Value := match X with | (_, _, _, _, _, _, _, _, _, _, _, _, ex, _, _) => ex
def zXD (X : zCX) : va_G := match X with | (_, _, _, _, _, _, _, _, _, _, _, _, _, D, _) => D
def zXc (X : zCX) : Nat → ClassId := match X with | (_, _, _, _, _, _, _, _, _, _, _, _, _, _, ca) => ca
-- ===== a method's contract =====
def zPc (b : Nat) (ex : Nat → Value) (D : va_G) (ca : Nat → ClassId) (av : List Value) (σ : zSt) : Array Value → State → Prop := fun v U => v = (av.map (zrv b ex)).toArray ∧ va_P D zCl (zwd b ca σ) U.heap ∧ U.heap.size = b + σ.1.length ∧ zKX D ca U ∧ zEX b ex U U.heap ∧ ∀ j, (ex j).category = 1
def zQc (b : Nat) (ex : Nat → Value) (D : va_G) (ca : Nat → ClassId) (r : Option Value) (σ' : zSt) : Array Value → State → Outcome → State → Prop := fun _ st o t => o = .returned (r.map (zrv b ex)) ∧ va_P D zCl (zwd b ca σ') t.heap ∧ t.heap.size = b + σ'.1.length ∧ st.heap.size ≤ t.heap.size ∧ ∀ q, q < st.heap.size → ¬ b ≤ q → t.heap[q]? = st.heap[q]?
def zrm (d mc ms : Nat) : Room := { frames := d, cells := mc, slots := ms, locals := 48 * d }
def zws (y : MethodName) (cy : ByteArray) (ny : Nat) (ry : Option FieldType) : List Cond := Cond.code y cy ny ry :: zTB
def zMT (l : Launch) (b : Nat) (ex : Nat → Value) (D : va_G) (ca : Nat → ClassId) (d : Nat) (y : MethodName) (cy : ByteArray) (ny : Nat) (ry : Option FieldType) (av : List Value) (σ : zSt) (r : Option Value) (σ' : zSt) (mc ms : Nat) : Prop :=
  Met l y (zws y cy ny ry) (zrm d mc ms) (zPc b ex D ca av σ) (zQc b ex D ca r σ') mc ms (fun q => b ≤ q)
def zrt (ret : Option FieldType) (r : Option Value) : Prop := match r with
  | none => ret = none
  | some (.int v) => ∃ ty, ret = some ty ∧ narrow ty (.int v) = .int v
  | some (.long _) => ret = some .long
  | _ => False
theorem zlo_args {b : Nat} {ex : Nat → Value} (hex : ∀ j, (ex j).category = 1) (av : List Value) : ∀ i, lv_args i (av.map (zrv b ex)) = zlo b ex (lv_args i av) := by
  induction av with
  | nil => intro i; rfl
  | cons v av ih =>
    intro i
    simp only [List.map_cons, lv_args, zcat hex, ih]
    rfl
theorem zlg_len {b : Nat} {ex : Nat → Value} (hex : ∀ j, (ex j).category = 1) (av : List Value) : (lg_sl (av.map (zrv b ex))).length = (lg_sl av).length := by
  induction av with
  | nil => rfl
  | cons v av ih =>
    simp only [lg_sl, List.map_cons, List.flatMap_cons, List.length_append] at ih ⊢
    rw [ih, zcat hex]
    congr 1
    split <;> rfl
theorem zblind {b : Nat} {ex : Nat → Value} {D : va_G} {ca : Nat → ClassId} {av : List Value} : FrameBlind (zPc b ex D ca av σ) := by
  intro a U g mk h
  obtain ⟨h1, h2, h3, h4, h5, h6⟩ := h
  exact ⟨h1, h2, h3, zKX.same (s := U) rfl h4, zEX.same (s := U) rfl h5, h6⟩
theorem zmt_of {l : Launch} {b : Nat} {ex : Nat → Value} {D : va_G} {ca : Nat → ClassId} {y : MethodName} {cy : ByteArray} {ny mc ms : Nat} {ry : Option FieldType} {av : List Value} {r : Option Value} (hy : plainName y.cls = true) (hnl : (lg_sl av).length ≤ ny) (hrt : zrt ry r)
    (body : ∀ X : zCX, zOK X y.cls cy ny d → (y.name = "<init>" → zIN X) → zRM X mc ms → zXl X = l → zXb X = b → zXe X = ex → zXD X = D → zXc X = ca → (∀ cells slots, cells ≤ mc → slots ≤ ms → zRX X cells slots r σ') → zPJ X 0 0 0 (lv_args 0 av) [] σ) : zMT l b ex D ca d y cy ny ry av σ r σ' mc ms := by
  refine Met.ofW (cc := cy) (maxL := ny) (ret := ry) hy rfl ?_
  intro p e s m args below meth c s₁ B hml hv
  obtain ⟨rfl, hP, hz, hKX, hEX, hex⟩ := hv
  have hts := atoms_spec (ws := zws y cy ny ry) B.pre
  have hown : s.vm.findClass y.cls = some m.cls := findClass_of_methodNamed B.named
  have hx := B.exec
  have hb := B.bytes
  have hr := B.returns
  have hlocks := B.notSynchronized
  have hS : va_S (fun q => b ≤ q) s.heap s.heap [] := va_S.rf
  have hl := lv_entry (av.map (zrv b ex)) (n := ny) (by rw [zlg_len hex]; exact hnl)
  rw [lg_entry_eq]
  rw [zlo_args hex, ← hml] at hl
  rw [← hml]
  refine body (p, l, e, (headSpec (zws y cy ny ry) (zrm d mc ms)).room, s, m, _, below, meth, c, _, b, ex, D, ca) ?_ ?_ ?_ rfl rfl rfl rfl rfl ?_ _ _ _ hP hz hS hl
  · exact ⟨hx, hb, hml, hown, fun w hw => hts w (List.mem_cons_of_mem _ hw), hKX, hEX, by omega, Nat.le_refl _, Nat.le_refl _, hlocks, hex⟩
  · intro hi
    have := (name_of_methodNamed B.named B.method).1
    rw [hi] at this
    exact this
  · exact ⟨Nat.le_refl _, Nat.le_refl _⟩
  · intro cells slots hc hs H locs ls pc i hP1 hz1 hS1 hi hd
    refine W.widen hc hs ?_
    have hQ : ∀ t : State, t.heap = H → s.WarmedH t.vm → zQc b ex D ca r σ' (av.map (zrv b ex)).toArray s (.returned (r.map (zrv b ex))) t := by
      intro t ht hW
      refine ⟨rfl, by rw [ht]; exact hP1, by rw [ht]; exact hz1, by rw [ht]; exact hS1.1, fun q h1 h2 => by rw [ht]; exact hS1.2.1 q h1 h2⟩
    unfold zrt at hrt
    split at hrt
    · dsimp only at hi
      subst hi
      exact W.vret hx rfl (hr.trans hrt) hQ hS1.2.2 hd
    · rename_i v
      dsimp only at hi
      subst hi
      obtain ⟨ty, h1, h2⟩ := hrt
      exact W.zret (ty := ty) hx rfl (hr.trans h1) h2 hQ hS1.2.2 hd
    · rename_i v
      dsimp only at hi
      subst hi
      exact W.lret hx rfl (hr.trans hrt) hQ hS1.2.2 hd
    · exact hrt.elim
-- ===== calls =====
theorem zgood {ws : List Cond} (h : ∀ w ∈ ws, w ∈ zTB) : GoodIn zTB ws := fun w hw => ⟨h w hw, good_of_word (List.mem_filter.mp (h w hw)).2⟩
theorem zrun {p : Program} {l : Launch} {e : Env} {R : Room} {s : State} {m : MethodId} {args : Array Value} {below : List Frame} {meth : Method} {c : Code} {Q : State → Prop} {b : Nat} {ex : Nat → Value} {D : va_G} {ca : Nat → ClassId} {H : Heap} {locs : List Loc} {ls : Array Slot} {st0 rest : List Value} {mc ms : Nat} {r : Option Value} {a : Array Value}
    (hr : va_Run p l e R s m args below meth c H locs cells slots mc ms (F0 m pc ls st0) rest (zQc b ex D ca r σ' a) (fun q => b ≤ q)) (hS : va_S (fun q => b ≤ q) s.heap H locs)
    (kk : ∀ (H1 : Heap) (locs1 : List Loc), va_P D zCl (zwd b ca σ') H1 → H1.size = b + σ'.1.length → va_S (fun q => b ≤ q) s.heap H1 locs1 → W p l e R s m args below meth c H1 locs1 (cells + mc) (slots + ms) Q (F0 m (pc + 3) ls ((r.map (zrv b ex)).toList ++ rest))) : W p l e R s m args below meth c H locs cells slots Q (F0 m pc ls st0) := by
  intro T hT X
  obtain ⟨v, st₀, t, T', L, h0, X', hL, e1, e2, ⟨hv, hp, hz, hle, hk⟩, st⟩ := hr T hT X
  cases hv
  rw [h0] at hle hk
  obtain ⟨t2, a1, b1⟩ := kk T'.heap (locs ++ L) (by rw [e1]; exact hp) (by rw [e1]; exact hz)
    ⟨Nat.le_trans hS.1 (by rw [e1]; exact hle), fun q h1 h2 => by rw [e1, hk q (Nat.lt_of_lt_of_le h1 hS.1) h2]; exact hS.2.1 q h1 h2, fun q hq => by
      rcases List.mem_append.mp hq with h | h
      · exact hS.2.2 q h
      · exact hL q h⟩ T' rfl X'
  exact ⟨t2, st t2 a1, b1⟩
theorem zroom {b : Nat} {ex : Nat → Value} {m : MethodId} {ls : Array Slot} {rest st : List Value} (hex : ∀ j, (ex j).category = 1) (h : (rest.map Value.category).sum ≤ 8) : 2 * (F0 m pc ls st).monitorRoom + (((rest.map (zrv b ex))).map fun v => v.category).sum ≤ 8 := by
  refine lv_room ?_
  rw [List.map_map]
  rw [show rest.map ((fun v : Value => v.category) ∘ zrv b ex) = rest.map Value.category from List.map_congr_left (fun v _ => zcat hex v)]
  exact h
theorem zpre {p : Program} {l : Launch} {R : Room} {s : State} {m : MethodId} {args : Array Value} {meth : Method} {c : Code} {b : Nat} {ex : Nat → Value} {D : va_G} {ca : Nat → ClassId} {H : Heap} {locs : List Loc} {av : List Value}
    (hKX : zKX D ca s) (hEX : zEX b ex s s.heap) (hex : ∀ j, (ex j).category = 1) (hP : va_P D zCl (zwd b ca σ) H) (hz : H.size = b + σ.1.length) (hS : va_S (fun q => b ≤ q) s.heap H locs) : ∀ U : State, U.heap = H → s.WarmedH U.vm → zPc b ex D ca av σ (av.map (zrv b ex)).toArray U := by
  intro U hU hW
  exact ⟨rfl, by rw [hU]; exact hP, by rw [hU]; exact hz, hKX.warm hW, by rw [hU]; exact hEX.warm hW (fun q h1 h2 => hS.2.1 q h1 h2), hex⟩
theorem zj_callV (o : zOK X own cc nL d) {idx np ny a f d' mc ms mc' ms' : Nat} {y : MethodName} {cy : ByteArray} {ry : Option FieldType} {r : Option Value} (hd : zDD cc pc (.invokevirtual idx) 3 pc') (hl1 : Cond.methodLink own idx y ∈ zTB) (hmw : zMV y cy ny ry np) (hf : zR f = y.cls ∧ f < 13) (hcls : σ.1[a]? = some (0, f))
    (hdd : d' + 1 ≤ d) (As rest : List Value) (hst : stk = As.reverse ++ .ref a :: rest) (hrest : (rest.map Value.category).sum ≤ 8) (hlen : As.length = np) (hM : zMT (zXl X) (zXb X) (zXe X) (zXD X) (zXc X) d' y cy ny ry (.ref a :: As) σ r σ' mc' ms') (hrm : zRM X mc ms) (hcs : cells + mc' ≤ mc ∧ slots + ms' ≤ ms)
    (kk : zPJ X (cells + mc') (slots + ms') pc' loc (r.toList ++ rest) σ') : zPJ X cells slots pc loc stk σ := by
  obtain ⟨p, l, e, R, s, m, args, below, meth, c, Q, b, ex, D, ca⟩ := X
  obtain ⟨hx, hb, hml, hown, hts, hKX, hEX, hbs, hfr, hlr, hlk, hex⟩ := o
  obtain ⟨hd, rfl⟩ := hd
  subst hst
  obtain ⟨w1, w2, w3, w4, w5, w6⟩ := hmw
  intro H locs ls hP hz hS hl
  have hGd : GoodIn zTB (wsV own idx y.cls y (zws y cy ny ry)) := zgood (fun w hw => by
    rcases List.mem_append.mp hw with h | h
    · simp only [List.mem_cons, List.not_mem_nil, or_false] at h
      rcases h with rfl | rfl | rfl | rfl
      · exact hl1
      · exact w1
      · exact w2
      · exact w3
    · rcases List.mem_cons.mp h with rfl | h
      · exact w4
      · exact h)
  have hrecv : ∃ cellB : Cell, H[b + a]? = some cellB ∧ cellB.vm.isStatics = false ∧ s.vm.findClass y.cls = some cellB.cls := by
    have := va_recv hKX.1 hP (zcl hf.2) (zwd_get hcls)
    rw [← hf.1]
    exact this
  have hst2 : (As.reverse ++ Value.ref a :: rest).map (zrv b ex) = (As.map (zrv b ex)).reverse ++ Value.ref (b + a) :: rest.map (zrv b ex) := by
    simp [List.map_append, List.map_reverse, zrv]
  refine zrun (ex := ex) (D := D) (ca := ca) (σ' := σ') (r := r) (mc := mc') (ms := ms') (rest := rest.map (zrv b ex)) (va_runV (b := b + a) (As := As.map (zrv b ex)) ⟨hx, hb, hml, hown, hts⟩ hM (cwV np hts hGd rfl rfl rfl ⟨rfl, w5⟩ ⟨?_, ?_⟩) ⟨zblind, hrecv, ?_⟩ rfl (by rw [List.length_map]; exact hlen) (hl.1.trans hml) hst2 (zroom hex hrest) hd ⟨Nat.le_trans hcs.1 hrm.1, Nat.le_trans hcs.2 hrm.2⟩) hS (fun H1 locs1 h1 h2 h3 => ?_)
  · show d' + 1 ≤ R.frames
    omega
  · show 8 + (ny + 11) + 48 * d' ≤ R.locals
    omega
  · exact zpre (p := p) (l := l) (R := R) (m := m) (args := args) (meth := meth) (c := c) (av := .ref a :: As) hKX hEX hex hP hz hS
  · have := kk H1 locs1 ls h1 h2 h3 hl
    rw [List.map_append] at this
    cases r <;> exact this
theorem zj_callX (o : zOK X own cc nL d) {idx np ny a f d' mc ms mc' ms' : Nat} {y : MethodName} {cy : ByteArray} {ry : Option FieldType} {r : Option Value} (hd : zDD cc pc (.invokevirtual idx) 3 pc') (hl1 : Cond.methodLink own idx y ∈ zTB) (hmw : zMV y cy ny ry np) (hf : y.cls = "java/lang/String") (hcls : a = 1 ∨ a = 2)
    (hdd : d' + 1 ≤ d) (As rest : List Value) (hst : stk = As.reverse ++ .retAddr a :: rest) (hrest : (rest.map Value.category).sum ≤ 8) (hlen : As.length = np) (hM : zMT (zXl X) (zXb X) (zXe X) (zXD X) (zXc X) d' y cy ny ry (.retAddr a :: As) σ r σ' mc' ms') (hrm : zRM X mc ms) (hcs : cells + mc' ≤ mc ∧ slots + ms' ≤ ms)
    (kk : zPJ X (cells + mc') (slots + ms') pc' loc (r.toList ++ rest) σ') : zPJ X cells slots pc loc stk σ := by
  obtain ⟨p, l, e, R, s, m, args, below, meth, c, Q, b, ex, D, ca⟩ := X
  obtain ⟨hx, hb, hml, hown, hts, hKX, hEX, hbs, hfr, hlr, hlk, hex⟩ := o
  obtain ⟨hd, rfl⟩ := hd
  subst hst
  obtain ⟨w1, w2, w3, w4, w5, w6⟩ := hmw
  intro H locs ls hP hz hS hl
  have hGd : GoodIn zTB (wsV own idx y.cls y (zws y cy ny ry)) := zgood (fun w hw => by
    rcases List.mem_append.mp hw with h | h
    · simp only [List.mem_cons, List.not_mem_nil, or_false] at h
      rcases h with rfl | rfl | rfl | rfl
      · exact hl1
      · exact w1
      · exact w2
      · exact w3
    · rcases List.mem_cons.mp h with rfl | h
      · exact w4
      · exact h)
  obtain ⟨adK, adV, ⟨h1, h2, h3, h4, -⟩, h5, -⟩ := id hEX
  have hex2 : ∃ q i, i < 2 ∧ ex a = .ref q ∧ q = adK i := by
    rcases hcls with rfl | rfl
    · exact ⟨_, 0, by decide, h1, rfl⟩
    · exact ⟨_, 1, by decide, h2, rfl⟩
  obtain ⟨q, i, hi, hq, rfl⟩ := hex2
  have hrecv : ∃ cellB : Cell, H[adK i]? = some cellB ∧ cellB.vm.isStatics = false ∧ s.vm.findClass y.cls = some cellB.cls := by
    rw [hf]
    exact vk_recv h5 hi hS
  have hst2 : (As.reverse ++ Value.retAddr a :: rest).map (zrv b ex) = (As.map (zrv b ex)).reverse ++ Value.ref (adK i) :: rest.map (zrv b ex) := by
    simp [List.map_append, List.map_reverse, zrv, hq]
  refine zrun (ex := ex) (D := D) (ca := ca) (σ' := σ') (r := r) (mc := mc') (ms := ms') (rest := rest.map (zrv b ex)) (va_runV (b := adK i) (As := As.map (zrv b ex)) ⟨hx, hb, hml, hown, hts⟩ hM (cwV np hts hGd rfl rfl rfl ⟨rfl, w5⟩ ⟨?_, ?_⟩) ⟨zblind, hrecv, ?_⟩ rfl (by rw [List.length_map]; exact hlen) (hl.1.trans hml) hst2 (zroom hex hrest) hd ⟨Nat.le_trans hcs.1 hrm.1, Nat.le_trans hcs.2 hrm.2⟩) hS (fun H1 locs1 h1 h2 h3 => ?_)
  · show d' + 1 ≤ R.frames
    omega
  · show 8 + (ny + 11) + 48 * d' ≤ R.locals
    omega
  · have := zpre (p := p) (l := l) (R := R) (m := m) (args := args) (meth := meth) (c := c) (av := .retAddr a :: As) hKX hEX hex hP hz hS
    rw [show (Value.retAddr a :: As).map (zrv b ex) = ex a :: As.map (zrv b ex) from rfl, hq] at this
    exact this
  · have := kk H1 locs1 ls h1 h2 h3 hl
    rw [List.map_append] at this
    cases r <;> exact this
theorem zj_callS (o : zOK X own cc nL d) {idx np ny d' mc ms mc' ms' : Nat} {y : MethodName} {cy : ByteArray} {ry : Option FieldType} {r : Option Value} (hd : zDD cc pc (.invokestatic idx) 3 pc') (hl1 : Cond.methodLink own idx y ∈ zTB) (hmw : zMS y cy ny ry np)
    (hdd : d' + 1 ≤ d) (As rest : List Value) (hst : stk = As.reverse ++ rest) (hrest : (rest.map Value.category).sum ≤ 8) (hlen : As.length = np) (hM : zMT (zXl X) (zXb X) (zXe X) (zXD X) (zXc X) d' y cy ny ry As σ r σ' mc' ms') (hrm : zRM X mc ms) (hcs : cells + mc' ≤ mc ∧ slots + ms' ≤ ms)
    (kk : zPJ X (cells + mc') (slots + ms') pc' loc (r.toList ++ rest) σ') : zPJ X cells slots pc loc stk σ := by
  obtain ⟨p, l, e, R, s, m, args, below, meth, c, Q, b, ex, D, ca⟩ := X
  obtain ⟨hx, hb, hml, hown, hts, hKX, hEX, hbs, hfr, hlr, hlk, hex⟩ := o
  obtain ⟨hd, rfl⟩ := hd
  subst hst
  obtain ⟨w1, w3, w4, w5, w6⟩ := hmw
  intro H locs ls hP hz hS hl
  have hGd : GoodIn zTB (zws y cy ny ry) := zgood (fun w hw => by
    rcases List.mem_cons.mp hw with rfl | h
    · exact w4
    · exact h)
  have hst2 : (As.reverse ++ rest).map (zrv b ex) = (As.map (zrv b ex)).reverse ++ rest.map (zrv b ex) := by
    simp [List.map_append, List.map_reverse]
  refine zrun (ex := ex) (D := D) (ca := ca) (σ' := σ') (r := r) (mc := mc') (ms := ms') (rest := rest.map (zrv b ex)) (va_runS (As := As.map (zrv b ex)) ⟨hx, hb, hml, hown, hts⟩ hM ⟨callB_of np hts hGd rfl rfl rfl (hts _ w3) (hts _ hl1) w5 ⟨?_, ?_⟩, hts _ w1⟩ ⟨zblind, ?_⟩ rfl (by rw [List.length_map]; exact hlen) (hl.1.trans hml) hst2 (zroom hex hrest) hd ⟨Nat.le_trans hcs.1 hrm.1, Nat.le_trans hcs.2 hrm.2⟩) hS (fun H1 locs1 h1 h2 h3 => ?_)
  · show d' + 1 ≤ R.frames
    omega
  · show 8 + (ny + 11) + 48 * d' ≤ R.locals
    omega
  · exact zpre (p := p) (l := l) (R := R) (m := m) (args := args) (meth := meth) (c := c) (av := As) hKX hEX hex hP hz hS
  · have := kk H1 locs1 ls h1 h2 h3 hl
    rw [List.map_append] at this
    cases r <;> exact this
theorem zj_callI (o : zOK X own cc nL d) {idx np ny a d' mc ms mc' ms' : Nat} {y : MethodName} {cy : ByteArray} {r : Option Value} (hd : zDD cc pc (.invokespecial idx) 3 pc') (hl1 : Cond.methodLink own idx y ∈ zTB ∨ ∃ host, Cond.methodLinkNest own idx y host ∈ znest) (hmw : zMI y cy ny np)
    (hdd : d' + 1 ≤ d) (As rest : List Value) (hst : stk = As.reverse ++ .ref a :: rest) (hrest : (rest.map Value.category).sum ≤ 8) (hlen : As.length = np) (hM : zMT (zXl X) (zXb X) (zXe X) (zXD X) (zXc X) d' y cy ny none (.ref a :: As) σ r σ' mc' ms') (hrm : zRM X mc ms) (hcs : cells + mc' ≤ mc ∧ slots + ms' ≤ ms)
    (kk : zPJ X (cells + mc') (slots + ms') pc' loc (r.toList ++ rest) σ') : zPJ X cells slots pc loc stk σ := by
  obtain ⟨p, l, e, R, s, m, args, below, meth, c, Q, b, ex, D, ca⟩ := X
  obtain ⟨hx, hb, hml, hown, hts, hKX, hEX, hbs, hfr, hlr, hlk, hex⟩ := o
  obtain ⟨hd, rfl⟩ := hd
  subst hst
  obtain ⟨w1, w3, w4, w5, w6, w7⟩ := hmw
  intro H locs ls hP hz hS hl
  have hGd : GoodIn zTB (zws y cy ny none) := zgood (fun w hw => by
    rcases List.mem_cons.mp hw with rfl | h
    · exact w4
    · exact h)
  have hst2 : (As.reverse ++ Value.ref a :: rest).map (zrv b ex) = (As.map (zrv b ex)).reverse ++ Value.ref (b + a) :: rest.map (zrv b ex) := by
    simp [List.map_append, List.map_reverse, zrv]
  have hfr2 : (zrm d' mc' ms').frames + 1 ≤ R.frames := by
    show d' + 1 ≤ R.frames
    omega
  have hlr2 : 8 + (ny + 11) + (zrm d' mc' ms').locals ≤ R.locals := by
    show 8 + (ny + 11) + 48 * d' ≤ R.locals
    omega
  have hpre := zpre (p := p) (l := l) (R := R) (m := m) (args := args) (meth := meth) (c := c) (av := .ref a :: As) hKX hEX hex hP hz hS
  rcases hl1 with hl1 | ⟨host, hl1⟩
  · refine zrun (ex := ex) (D := D) (ca := ca) (σ' := σ') (r := r) (mc := mc') (ms := ms') (rest := rest.map (zrv b ex)) (va_runI (b := b + a) (As := As.map (zrv b ex)) ⟨hx, hb, hml, hown, hts⟩ hM (cwI np hts hGd rfl rfl rfl (hts _ w3) (hts _ hl1) (hts _ w1) w7 w5 ⟨hfr2, hlr2⟩) ⟨zblind, hpre⟩ rfl (by rw [List.length_map]; exact hlen) (hl.1.trans hml) hst2 (zroom hex hrest) hd ⟨Nat.le_trans hcs.1 hrm.1, Nat.le_trans hcs.2 hrm.2⟩) hS (fun H1 locs1 h1 h2 h3 => ?_)
    have := kk H1 locs1 ls h1 h2 h3 hl
    rw [List.map_append] at this
    cases r <;> exact this
  · refine zrun (ex := ex) (D := D) (ca := ca) (σ' := σ') (r := r) (mc := mc') (ms := ms') (rest := rest.map (zrv b ex)) (va_runIN (b := b + a) (As := As.map (zrv b ex)) ⟨hx, hb, hml, hown, hts⟩ hM ⟨va_cnB np hts hGd rfl rfl rfl (hKX.2.1 _ hl1) (hts _ w3) w5 ⟨hfr2, hlr2⟩, w7, hts _ w1⟩ ⟨zblind, hpre⟩ rfl (by rw [List.length_map]; exact hlen) (hl.1.trans hml) hst2 (zroom hex hrest) hd ⟨Nat.le_trans hcs.1 hrm.1, Nat.le_trans hcs.2 hrm.2⟩) hS (fun H1 locs1 h1 h2 h3 => ?_)
    have := kk H1 locs1 ls h1 h2 h3 hl
    rw [List.map_append] at this
    cases r <;> exact this
end ZC
