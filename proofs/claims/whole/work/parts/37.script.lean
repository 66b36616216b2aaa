/-! the law's script, outside the pure heap -/
section ZScr
variable {X : zCX} {own : String} {cc : ByteArray} {nL d cells slots pc pc' : Nat} {loc loc' : List (Nat × Value)} {stk : List Value} {σ σ' : zSt} {xs : Nat → Int32} {L : Nat}
def zSC (X : zCX) (xs : Nat → Int32) (L : Nat) : Prop := match X with
  | (_, _, _, _, s, _, _, _, _, _, _, b, ex, _, _) => ∃ bs, ex 0 = .ref bs ∧ va_X bs L xs s s.heap ∧ bs < s.heap.size ∧ ¬ b ≤ bs
def zsc (xs : Nat → Int32) (L : Nat) (i : Int32) : Option Int32 := if zin i L = true then some (xs i.toNatClampNeg) else none
theorem zj_sload (o : zOK X own cc nL d) (hsc : zSC X xs L) {i : Nat} (hd : zDD cc pc (.aload i) 2 pc')  (q : Nat) (hq : loc[q]? = some (i, .retAddr 0)) (k : zPJ X cells slots pc' loc (.retAddr 0 :: stk) σ) : zPJ X cells slots pc loc stk σ := by
  obtain ⟨p, l, e, R, s, m, args, below, meth, c, Q, b, ex, D, ca⟩ := X
  obtain ⟨hx, hb, hml, hown, hts, hKX, hEX, hbs, hfr, hlr, hlk, hex⟩ := o
  obtain ⟨hd, rfl⟩ := hd
  obtain ⟨bs, h0, -⟩ := hsc
  intro H locs ls hP hz hS hl
  have hg : ls[i]? = some (.val (.ref bs)) := by
    have := lv_at hl q (zlo_get hq)
    rw [show zrv b ex (.retAddr 0) = ex 0 from rfl, h0] at this
    exact this
  refine lv_aload hx hb hd  hg ?_
  have hk := k H locs ls hP hz hS hl
  rw [show (Value.retAddr 0 :: stk).map (zrv b ex) = ex 0 :: stk.map (zrv b ex) from rfl, h0] at hk
  exact hk
theorem zj_sload_n (o : zOK X own cc nL d) (hsc : zSC X xs L) {i : Nat} {n : Fin 4} (hd : zDD cc pc (.aload_n n) 1 pc') (hi : (n : Nat) = i) (q : Nat) (hq : loc[q]? = some (i, .retAddr 0)) (k : zPJ X cells slots pc' loc (.retAddr 0 :: stk) σ) : zPJ X cells slots pc loc stk σ := by
  obtain ⟨p, l, e, R, s, m, args, below, meth, c, Q, b, ex, D, ca⟩ := X
  obtain ⟨hx, hb, hml, hown, hts, hKX, hEX, hbs, hfr, hlr, hlk, hex⟩ := o
  obtain ⟨hd, rfl⟩ := hd
  obtain ⟨bs, h0, -⟩ := hsc
  intro H locs ls hP hz hS hl
  have hg : ls[i]? = some (.val (.ref bs)) := by
    have := lv_at hl q (zlo_get hq)
    rw [show zrv b ex (.retAddr 0) = ex 0 from rfl, h0] at this
    exact this
  refine lv_aload_n hx hb hd hi hg ?_
  have hk := k H locs ls hP hz hS hl
  rw [show (Value.retAddr 0 :: stk).map (zrv b ex) = ex 0 :: stk.map (zrv b ex) from rfl, h0] at hk
  exact hk
theorem zj_slen (o : zOK X own cc nL d) (hsc : zSC X xs L) (hd : zDD cc pc .arraylength 1 pc') (k : zPJ X cells slots pc' loc (.int (Int32.ofNat L) :: stk) σ) : zPJ X cells slots pc loc (.retAddr 0 :: stk) σ := by
  obtain ⟨p, l, e, R, s, m, args, below, meth, c, Q, b, ex, D, ca⟩ := X
  obtain ⟨hx, hb, hml, hown, hts, hKX, hEX, hbs, hfr, hlr, hlk, hex⟩ := o
  obtain ⟨hd, rfl⟩ := hd
  obtain ⟨bs, h0, h1, h2, h3⟩ := hsc
  intro H locs ls hP hz hS hl
  rw [show (Value.retAddr 0 :: stk).map (zrv b ex) = ex 0 :: stk.map (zrv b ex) from rfl, h0]
  exact va_slen hx hb h1 h2 h3 hS hd (k H locs ls hP hz hS hl)
theorem zj_sald (o : zOK X own cc nL d) (hsc : zSC X xs L) {i v : Int32} (hd : zDD cc pc .iaload 1 pc') (hg : zsc xs L i = some v) (k : zPJ X cells slots pc' loc (.int v :: stk) σ) : zPJ X cells slots pc loc (.int i :: .retAddr 0 :: stk) σ := by
  obtain ⟨p, l, e, R, s, m, args, below, meth, c, Q, b, ex, D, ca⟩ := X
  obtain ⟨hx, hb, hml, hown, hts, hKX, hEX, hbs, hfr, hlr, hlk, hex⟩ := o
  obtain ⟨hd, rfl⟩ := hd
  obtain ⟨bs, h0, h1, h2, h3⟩ := hsc
  unfold zsc at hg
  split at hg
  · rename_i hin
    cases hg
    intro H locs ls hP hz hS hl
    rw [show (Value.int i :: Value.retAddr 0 :: stk).map (zrv b ex) = .int i :: ex 0 :: stk.map (zrv b ex) from rfl, h0]
    exact va_sld hx hb h1 h2 h3 hS (zin_vp hin) hd (k H locs ls hP hz hS hl)
  · cases hg
end ZScr
