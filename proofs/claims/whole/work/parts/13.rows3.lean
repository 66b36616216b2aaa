section ZL
variable {X : zCX} {own : String} {cc : ByteArray} {nL d cells slots pc pc' : Nat} {loc loc' : List (Nat × Value)} {stk : List Value} {σ σ' : zSt}
theorem zj_aast (o : zOK X own cc nL d) {a v : Nat} {i : Int32} (hd : zDD cc pc .aastore 1 pc') (hg : zwP σ 4 a i v = some σ') (kk : zPJ X cells slots pc' loc stk σ') : zPJ X cells slots pc loc (.ref v :: .int i :: .ref a :: stk) σ := by
  obtain ⟨p, l, e, R, s, m, args, below, meth, c, Q, b, ex, D, ca⟩ := X
  obtain ⟨hx, hb, hml, hown, hts, hKX, hEX, hbs, hfr, hlr, hlk, hex⟩ := o
  obtain ⟨hd, rfl⟩ := hd
  unfold zwP at hg
  split at hg
  · rename_i hq
    obtain ⟨hq, hv⟩ := hq
    obtain ⟨n, hq, hin⟩ := zok_of hq
    cases hg
    intro H locs ls hP hz hS hl
    have ha := zwd_get (b := b) (ca := ca) hq
    have hva := zwd_get (b := b) (ca := ca) hv
    have hlt : i.toNatClampNeg < n := Nat.not_le.mp fun q => hin (Or.inr q)
    have h0 : ¬ i < 0 := fun q => hin (Or.inl q)
    obtain ⟨r', hr', cellV, g1, g2, g3, -⟩ := hP v _ hva
    have hc4 := zcl (show 4 < 13 by decide)
    have hcls := (hKX.1.1 4 _ hc4).2
    obtain ⟨kA, comp, k1, k2, k3, -⟩ := (hKX.1.2 4 (ca 5, .object "WantShelves$Now") rfl).2
    have hcomp : comp = D.1 4 := Option.some.inj (k3.symm.trans hcls.1)
    subst hcomp
    obtain ⟨kC, hkC, -⟩ := hcls.2
    refine W.aast hx hb (hP a _ ha) (fun q h => by cases h) (fun h => by cases h) k1 k2 rfl hkC ⟨h0, by show _ < (arrV _ _ _).slots.size; rw [arrV_size]; exact hlt⟩ g1 (fun q h => by rw [g3] at h; cases h) (by rw [g2]; exact hkC) (by rw [g2]; exact va_assign hcls) rfl rfl hd fun H1 e z oq => ?_
    refine kk H1 _ ls ?_ (z.trans hz) (hS.put z oq (Nat.le_add_right _ _)) hl
    rw [← zwd_set (b := b) (ca := ca) (σ' := (σ.1, σ.2.1, σ.2.2.1, zup σ.2.2.2 a i.toNatClampNeg (some v))) hq rfl (x := .inl (ca 5, n, .inr (.inr (.inr (.inr (va_up (fun j => (σ.2.2.2 a j).map (b + ·)) i.toNatClampNeg (some (b + v)))))))) (by
      simp only [zen, zup_self]
      congr 7
      funext j
      by_cases hj : j = i.toNatClampNeg
      · subst hj; simp [va_up]
      · simp [va_up, hj]) (fun k q hk => zen_cong q rfl rfl (zup_ne _ _ _ hk))]
    refine hP.set (zwd_D b ca σ) ha ?_ oq
    show H1[b + a]? = some (vp_cell _ _)
    rw [e]
    show some (Cell.setSlot (vp_cell _ _) _ _) = _
    rw [vp_cell_q, vp_cell_q, arrV_store]
    congr 2
    funext q
    by_cases hq : q = i.toNatClampNeg
    · subst hq
      simp [updV, va_up, va_rf]
    · simp [updV, va_up, hq]
  · cases hg
theorem zj_alen1 (o : zOK X own cc nL d) {a : Nat} {v : Int32} (hd : zDD cc pc .arraylength 1 pc') (hg : zlen σ 1 a = some v) (kk : zPJ X cells slots pc' loc (.int v :: stk) σ) : zPJ X cells slots pc loc (.ref a :: stk) σ := by
  obtain ⟨p, l, e, R, s, m, args, below, meth, c, Q, b, ex, D, ca⟩ := X
  obtain ⟨hx, hb, hml, hown, hts, hKX, hEX, hbs, hfr, hlr, hlk, hex⟩ := o
  obtain ⟨hd, rfl⟩ := hd
  unfold zlen at hg
  split at hg
  · rename_i q hq
    split at hg
    · rename_i hk
      obtain ⟨k0, n⟩ := q
      dsimp only at hk hg
      subst hk
      cases hg
      intro H locs ls hP hz hS hl
      exact va_alen hx hb hKX.1 hP a 0 (zwd_get hq) rfl rfl hd (kk H locs ls hP hz hS hl)
    · cases hg
  · cases hg
theorem zj_alen2 (o : zOK X own cc nL d) {a : Nat} {v : Int32} (hd : zDD cc pc .arraylength 1 pc') (hg : zlen σ 2 a = some v) (kk : zPJ X cells slots pc' loc (.int v :: stk) σ) : zPJ X cells slots pc loc (.ref a :: stk) σ := by
  obtain ⟨p, l, e, R, s, m, args, below, meth, c, Q, b, ex, D, ca⟩ := X
  obtain ⟨hx, hb, hml, hown, hts, hKX, hEX, hbs, hfr, hlr, hlk, hex⟩ := o
  obtain ⟨hd, rfl⟩ := hd
  unfold zlen at hg
  split at hg
  · rename_i q hq
    split at hg
    · rename_i hk
      obtain ⟨k0, n⟩ := q
      dsimp only at hk hg
      subst hk
      cases hg
      intro H locs ls hP hz hS hl
      exact va_alen hx hb hKX.1 hP a 1 (zwd_get hq) rfl rfl hd (kk H locs ls hP hz hS hl)
    · cases hg
  · cases hg
theorem zj_alen4 (o : zOK X own cc nL d) {a : Nat} {v : Int32} (hd : zDD cc pc .arraylength 1 pc') (hg : zlen σ 4 a = some v) (kk : zPJ X cells slots pc' loc (.int v :: stk) σ) : zPJ X cells slots pc loc (.ref a :: stk) σ := by
  obtain ⟨p, l, e, R, s, m, args, below, meth, c, Q, b, ex, D, ca⟩ := X
  obtain ⟨hx, hb, hml, hown, hts, hKX, hEX, hbs, hfr, hlr, hlk, hex⟩ := o
  obtain ⟨hd, rfl⟩ := hd
  unfold zlen at hg
  split at hg
  · rename_i q hq
    split at hg
    · rename_i hk
      obtain ⟨k0, n⟩ := q
      dsimp only at hk hg
      subst hk
      cases hg
      intro H locs ls hP hz hS hl
      exact va_alen hx hb hKX.1 hP a 3 (zwd_get hq) rfl rfl hd (kk H locs ls hP hz hS hl)
    · cases hg
  · cases hg
def zRM (X : zCX) (mc ms : Nat) : Prop := match X with
  | (_, _, _, R, _, _, _, _, _, _, _, _, _, _, _) => mc ≤ R.cells ∧ ms ≤ R.slots
def zokty (t : FieldType) : Bool := match t with
  | .int => true
  | .boolean => true
  | .long => true
  | .array _ => true
  | .object _ => true
  | _ => false
theorem zokty_all : ∀ f, f < 13 → ∀ k, k < zN f → zokty (zty f k) = true := by decide +kernel
theorem zfv_new {b f k : Nat} {q : Nat × Nat} (h : zokty (zty f k) = true) : defaultValue (zty f k) = zfv b (znew σ q) f σ.1.length k := by
  revert h
  unfold zfv znew
  simp only [zro_self]
  cases zty f k <;> intro h <;> first | rfl | (simp [zokty] at h)
theorem zj_new (o : zOK X own cc nL d) {idx f mc ms : Nat} (hd : zDD cc pc (.new idx) 3 pc') (hf : f < 13) (hw : Cond.classLink own idx (zR f) ∈ zTB ∧ Cond.instantiable (zR f) (zN f) ∈ zTB ∧ Cond.initialized (zR f) ∈ zTB) (hr : zRM X mc ms) (hc : cells + 1 ≤ mc) (hs : slots + zN f ≤ ms)
    (kk : zPJ X (cells + 1) (slots + zN f) pc' loc (.ref σ.1.length :: stk) (znew σ (0, f))) : zPJ X cells slots pc loc stk σ := by
  obtain ⟨p, l, e, R, s, m, args, below, meth, c, Q, b, ex, D, ca⟩ := X
  obtain ⟨hx, hb, hml, hown, hts, hKX, hEX, hbs, hfr, hlr, hlk, hex⟩ := o
  obtain ⟨hd, rfl⟩ := hd
  intro H locs ls hP hz hS hl
  have hKn := hKX.1.1 f _ (zcl hf)
  refine W.newcK hx hb hown (hts _ hw.1) (hts _ hw.2.1) (hts _ hw.2.2) rfl hd (Nat.le_trans hc hr.1) (Nat.le_trans hs hr.2) hKn.2.1 rfl fun H1 kC hkC e1 z1 o1 => ?_
  have hk : ∀ (k : Nat) (x : Nat × va_E), (zwd b ca σ)[k]? = some x → H1[x.1]? = H[x.1]? := fun k x hx => o1 x.1 ((hP k x hx).lt)
  have := kk H1 locs ls ?_ ?_ ⟨Nat.le_trans hS.1 (by omega), fun x h1 h2 => (o1 x (Nat.lt_of_lt_of_le h1 hS.1)).trans (hS.2.1 x h1 h2), hS.2.2⟩ hl
  · rw [show (Value.ref σ.1.length :: stk).map (zrv b ex) = .ref (b + σ.1.length) :: stk.map (zrv b ex) from rfl, ← hz] at this
    exact this
  · rw [zwd_push]
    refine (hP.kept hk).app (fun k x hx => ?_)
    have hz2 : k < 1 := (List.getElem?_eq_some_iff.mp hx).1
    rw [show k = 0 by omega] at hx
    cases hx
    refine ⟨_, zcl hf, ?_⟩
    show t_OB (b + σ.1.length) _ _ _ H1 _
    rw [← hz]
    refine (u_born (zty f) hts (zu f hf) hKn hkC e1 (zyo f hf)).to (fun j hj => ?_)
    show defaultValue (zty f j) = vp_V ((List.range (zN f)).map (zfv b (znew σ (0, f)) f σ.1.length)) j
    have hj : j < zN f := hj
    rw [show vp_V ((List.range (zN f)).map (zfv b (znew σ (0, f)) f σ.1.length)) j = zfv b (znew σ (0, f)) f σ.1.length j by simp [vp_V, hj]]
    exact zfv_new (zokty_all f hf j hj)
  · rw [z1, hz]; simp [znew]; omega
theorem zj_newa_int (o : zOK X own cc nL d) {n : Int32} {N mc ms : Nat} (hd : zDD cc pc (.newarray .int) 2 pc') (ha : Cond.arrayClass .int ∈ zTB) (hn : ¬ n < 0) (hN : n.toNatClampNeg = N) (hb8 : N * 8 ≤ 536870912) (hr : zRM X mc ms) (hc : cells + 1 ≤ mc) (hs : slots + N ≤ ms)
    (kk : zPJ X (cells + 1) (slots + N) pc' loc (.ref σ.1.length :: stk) (znew σ (1, N))) : zPJ X cells slots pc loc (.int n :: stk) σ := by
  obtain ⟨p, l, e, R, s, m, args, below, meth, c, Q, b, ex, D, ca⟩ := X
  obtain ⟨hx, hb, hml, hown, hts, hKX, hEX, hbs, hfr, hlr, hlk, hex⟩ := o
  obtain ⟨hd, rfl⟩ := hd
  intro H locs ls hP hz hS hl
  refine va_newaK (atype := .int) hx hb (hts _ ha) rfl hd rfl hn hN (by show N * 4 ≤ _; omega) (Nat.le_trans hc hr.1) (Nat.le_trans hs hr.2) hz fun H1 cA e1 z1 o1 hAr hNm => ?_
  have hcA : cA = ca 1 := Option.some.inj (hNm.symm.trans (hKX.1.2 0 _ rfl).2)
  subst hcA
  have hk : ∀ (k : Nat) (x : Nat × va_E), (zwd b ca σ)[k]? = some x → H1[x.1]? = H[x.1]? := fun k x hx => o1 x.1 (by rw [← hz]; exact (hP k x hx).lt)
  refine kk H1 locs ls ?_ ?_ ⟨Nat.le_trans hS.1 (by omega), fun x h1 h2 => (o1 x (by rw [← hz]; exact Nat.lt_of_lt_of_le h1 hS.1)).trans (hS.2.1 x h1 h2), hS.2.2⟩ hl
  · rw [zwd_push]
    refine (hP.kept hk).app (fun k x hx => ?_)
    have hz2 : k < 1 := (List.getElem?_eq_some_iff.mp hx).1
    rw [show k = 0 by omega] at hx
    cases hx
    show H1[b + σ.1.length]? = some (vp_cell _ _)
    rw [e1]
    simp only [znew, zro_self]
    rfl
  · rw [z1]; simp [znew]; omega
theorem zj_newa_byte (o : zOK X own cc nL d) {n : Int32} {N mc ms : Nat} (hd : zDD cc pc (.newarray .byte) 2 pc') (ha : Cond.arrayClass .byte ∈ zTB) (hn : ¬ n < 0) (hN : n.toNatClampNeg = N) (hb8 : N * 8 ≤ 536870912) (hr : zRM X mc ms) (hc : cells + 1 ≤ mc) (hs : slots + N ≤ ms)
    (kk : zPJ X (cells + 1) (slots + N) pc' loc (.ref σ.1.length :: stk) (znew σ (2, N))) : zPJ X cells slots pc loc (.int n :: stk) σ := by
  obtain ⟨p, l, e, R, s, m, args, below, meth, c, Q, b, ex, D, ca⟩ := X
  obtain ⟨hx, hb, hml, hown, hts, hKX, hEX, hbs, hfr, hlr, hlk, hex⟩ := o
  obtain ⟨hd, rfl⟩ := hd
  intro H locs ls hP hz hS hl
  refine va_newaK (atype := .byte) hx hb (hts _ ha) rfl hd rfl hn hN (by show N * 1 ≤ _; omega) (Nat.le_trans hc hr.1) (Nat.le_trans hs hr.2) hz fun H1 cA e1 z1 o1 hAr hNm => ?_
  have hcA : cA = ca 2 := Option.some.inj (hNm.symm.trans (hKX.1.2 1 _ rfl).2)
  subst hcA
  have hk : ∀ (k : Nat) (x : Nat × va_E), (zwd b ca σ)[k]? = some x → H1[x.1]? = H[x.1]? := fun k x hx => o1 x.1 (by rw [← hz]; exact (hP k x hx).lt)
  refine kk H1 locs ls ?_ ?_ ⟨Nat.le_trans hS.1 (by omega), fun x h1 h2 => (o1 x (by rw [← hz]; exact Nat.lt_of_lt_of_le h1 hS.1)).trans (hS.2.1 x h1 h2), hS.2.2⟩ hl
  · rw [zwd_push]
    refine (hP.kept hk).app (fun k x hx => ?_)
    have hz2 : k < 1 := (List.getElem?_eq_some_iff.mp hx).1
    rw [show k = 0 by omega] at hx
    cases hx
    show H1[b + σ.1.length]? = some (vp_cell _ _)
    rw [e1]
    simp only [znew, zro_self]
    rfl
  · rw [z1]; simp [znew]; omega
theorem zj_newa_boolean (o : zOK X own cc nL d) {n : Int32} {N mc ms : Nat} (hd : zDD cc pc (.newarray .boolean) 2 pc') (ha : Cond.arrayClass .boolean ∈ zTB) (hn : ¬ n < 0) (hN : n.toNatClampNeg = N) (hb8 : N * 8 ≤ 536870912) (hr : zRM X mc ms) (hc : cells + 1 ≤ mc) (hs : slots + N ≤ ms)
    (kk : zPJ X (cells + 1) (slots + N) pc' loc (.ref σ.1.length :: stk) (znew σ (3, N))) : zPJ X cells slots pc loc (.int n :: stk) σ := by
  obtain ⟨p, l, e, R, s, m, args, below, meth, c, Q, b, ex, D, ca⟩ := X
  obtain ⟨hx, hb, hml, hown, hts, hKX, hEX, hbs, hfr, hlr, hlk, hex⟩ := o
  obtain ⟨hd, rfl⟩ := hd
  intro H locs ls hP hz hS hl
  refine va_newaK (atype := .boolean) hx hb (hts _ ha) rfl hd rfl hn hN (by show N * 1 ≤ _; omega) (Nat.le_trans hc hr.1) (Nat.le_trans hs hr.2) hz fun H1 cA e1 z1 o1 hAr hNm => ?_
  have hcA : cA = ca 3 := Option.some.inj (hNm.symm.trans (hKX.1.2 2 _ rfl).2)
  subst hcA
  have hk : ∀ (k : Nat) (x : Nat × va_E), (zwd b ca σ)[k]? = some x → H1[x.1]? = H[x.1]? := fun k x hx => o1 x.1 (by rw [← hz]; exact (hP k x hx).lt)
  refine kk H1 locs ls ?_ ?_ ⟨Nat.le_trans hS.1 (by omega), fun x h1 h2 => (o1 x (by rw [← hz]; exact Nat.lt_of_lt_of_le h1 hS.1)).trans (hS.2.1 x h1 h2), hS.2.2⟩ hl
  · rw [zwd_push]
    refine (hP.kept hk).app (fun k x hx => ?_)
    have hz2 : k < 1 := (List.getElem?_eq_some_iff.mp hx).1
    rw [show k = 0 by omega] at hx
    cases hx
    show H1[b + σ.1.length]? = some (vp_cell _ _)
    rw [e1]
    simp only [znew, zro_self]
    rfl
  · rw [z1]; simp [znew]; omega
theorem zj_newa_long (o : zOK X own cc nL d) {n : Int32} {N mc ms : Nat} (hd : zDD cc pc (.newarray .long) 2 pc') (ha : Cond.arrayClass .long ∈ zTB) (hn : ¬ n < 0) (hN : n.toNatClampNeg = N) (hb8 : N * 8 ≤ 536870912) (hr : zRM X mc ms) (hc : cells + 1 ≤ mc) (hs : slots + N ≤ ms)
    (kk : zPJ X (cells + 1) (slots + N) pc' loc (.ref σ.1.length :: stk) (znew σ (4, N))) : zPJ X cells slots pc loc (.int n :: stk) σ := by
  obtain ⟨p, l, e, R, s, m, args, below, meth, c, Q, b, ex, D, ca⟩ := X
  obtain ⟨hx, hb, hml, hown, hts, hKX, hEX, hbs, hfr, hlr, hlk, hex⟩ := o
  obtain ⟨hd, rfl⟩ := hd
  intro H locs ls hP hz hS hl
  refine va_newaK (atype := .long) hx hb (hts _ ha) rfl hd rfl hn hN (by show N * 8 ≤ _; omega) (Nat.le_trans hc hr.1) (Nat.le_trans hs hr.2) hz fun H1 cA e1 z1 o1 hAr hNm => ?_
  have hcA : cA = ca 4 := Option.some.inj (hNm.symm.trans (hKX.1.2 3 _ rfl).2)
  subst hcA
  have hk : ∀ (k : Nat) (x : Nat × va_E), (zwd b ca σ)[k]? = some x → H1[x.1]? = H[x.1]? := fun k x hx => o1 x.1 (by rw [← hz]; exact (hP k x hx).lt)
  refine kk H1 locs ls ?_ ?_ ⟨Nat.le_trans hS.1 (by omega), fun x h1 h2 => (o1 x (by rw [← hz]; exact Nat.lt_of_lt_of_le h1 hS.1)).trans (hS.2.1 x h1 h2), hS.2.2⟩ hl
  · rw [zwd_push]
    refine (hP.kept hk).app (fun k x hx => ?_)
    have hz2 : k < 1 := (List.getElem?_eq_some_iff.mp hx).1
    rw [show k = 0 by omega] at hx
    cases hx
    show H1[b + σ.1.length]? = some (vp_cell _ _)
    rw [e1]
    simp only [znew, zro_self]
    rfl
  · rw [z1]; simp [znew]; omega
theorem zj_anew (o : zOK X own cc nL d) {n : Int32} {idx N mc ms : Nat} (hd : zDD cc pc (.anewarray idx) 3 pc') (ha : Cond.classLink own idx "WantShelves$Now" ∈ zTB) (hn : ¬ n < 0) (hN : n.toNatClampNeg = N) (hb8 : N * 8 ≤ 536870912) (hr : zRM X mc ms) (hc : cells + 1 ≤ mc) (hs : slots + N ≤ ms)
    (kk : zPJ X (cells + 1) (slots + N) pc' loc (.ref σ.1.length :: stk) (znew σ (5, N))) : zPJ X cells slots pc loc (.int n :: stk) σ := by
  obtain ⟨p, l, e, R, s, m, args, below, meth, c, Q, b, ex, D, ca⟩ := X
  obtain ⟨hx, hb, hml, hown, hts, hKX, hEX, hbs, hfr, hlr, hlk, hex⟩ := o
  obtain ⟨hd, rfl⟩ := hd
  intro H locs ls hP hz hS hl
  subst hN
  refine W.anew hx hb hown (hts _ ha) (va_AO.use hKX.2.2) rfl hd rfl hn (by omega) (Nat.le_trans hc hr.1) (Nat.le_trans hs hr.2) fun cA kA comp f1 f2 f3 f4 => ?_
  generalize hH1 : H.push ({ cls := cA, slots := Array.replicate n.toNatClampNeg .null, vm := .none } : Cell) = H1
  have z1 : H1.size = H.size + 1 := by rw [← hH1, Array.size_push]
  have e1 : H1[H.size]? = some (arrV cA n.toNatClampNeg (fun _ => .null)) := by rw [← hH1, Array.getElem?_push_size, ← arrV_new]
  have o1 : ∀ q : Nat, q < H.size → H1[q]? = H[q]? := fun q hq => by rw [← hH1, Array.getElem?_push, if_neg (Nat.ne_of_lt hq)]
  obtain ⟨kA', comp', -, -, -, k4⟩ := (hKX.1.2 4 (ca 5, .object "WantShelves$Now") rfl).2
  have hcA : cA = ca 5 := Option.some.inj (f1.symm.trans k4)
  subst hcA
  have hk : ∀ (k : Nat) (x : Nat × va_E), (zwd b ca σ)[k]? = some x → H1[x.1]? = H[x.1]? := fun k x hx => o1 x.1 ((hP k x hx).lt)
  have := kk H1 locs ls ?_ ?_ ⟨Nat.le_trans hS.1 (by omega), fun x h1 h2 => (o1 x (Nat.lt_of_lt_of_le h1 hS.1)).trans (hS.2.1 x h1 h2), hS.2.2⟩ hl
  · rw [show (Value.ref σ.1.length :: stk).map (zrv b ex) = .ref (b + σ.1.length) :: stk.map (zrv b ex) from rfl, ← hz] at this
    exact this
  · rw [zwd_push]
    refine (hP.kept hk).app (fun k x hx => ?_)
    have hz2 : k < 1 := (List.getElem?_eq_some_iff.mp hx).1
    rw [show k = 0 by omega] at hx
    cases hx
    show H1[b + σ.1.length]? = some (vp_cell _ _)
    rw [← hz, e1]
    simp only [znew, zro_self]
    rfl
  · rw [z1, hz]; simp [znew]; omega
theorem zj_objInit (o : zOK X own cc nL d) {idx a : Nat} (hd : zDD cc pc (.invokespecial idx) 3 pc') (h1 : Cond.methodLink own idx objectInit ∈ zTB) (h2 : Cond.instanceMethod objectInit ∈ zTB) (h3 : Cond.code objectInit ⟨#[0xb1]⟩ 1 none ∈ zTB) (hdd : 1 ≤ d) (hst : (stk.map Value.category).sum ≤ 8)
    (kk : zPJ X cells slots pc' loc stk σ) : zPJ X cells slots pc loc (.ref a :: stk) σ := by
  obtain ⟨p, l, e, R, s, m, args, below, meth, c, Q, b, ex, D, ca⟩ := X
  obtain ⟨hx, hb, hml, hown, hts, hKX, hEX, hbs, hfr, hlr, hlk, hex⟩ := o
  obtain ⟨hd, rfl⟩ := hd
  intro H locs ls hP hz hS hl
  refine W.objInit hx hb hown (hts _ h1) (hts _ h2) (hts _ h3) rfl hl.1 rfl hd (Nat.le_trans hdd hfr) ?_ (kk H locs ls hP hz hS hl)
  have hm : ((stk.map (zrv b ex)).map fun v => v.category) = stk.map Value.category := by
    rw [List.map_map]
    exact List.map_congr_left (fun v _ => zcat hex v)
  have := lv_room (m := m) (pc := pc) (ls := ls) (rest := .ref (b + a) :: stk.map (zrv b ex)) (st := stk.map (zrv b ex)) (by rw [hm]; exact hst)
  have h48 : 48 * 1 ≤ 48 * d := Nat.mul_le_mul_left 48 hdd
  refine Nat.le_trans (Nat.add_le_add_right this 12) ?_
  omega
end ZL
