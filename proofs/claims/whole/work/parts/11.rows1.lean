section ZJ
variable {X : zCX} {own : String} {cc : ByteArray} {nL d cells slots pc pc' : Nat} {loc loc' : List (Nat × Value)} {stk : List Value} {σ σ' : zSt}
theorem zcat {b : Nat} {ex : Nat → Value} (hex : ∀ j, (ex j).category = 1) (v : Value) : (zrv b ex v).category = v.category := by
  cases v <;> first | rfl | exact hex _
theorem zlo_get {b : Nat} {ex : Nat → Value} {k i : Nat} {v : Value} (h : loc[k]? = some (i, v)) : (zlo b ex loc)[k]? = some (i, zrv b ex v) := by
  simp [zlo, h]
/-- what a store at i leaves of the others -/
def zfl (i : Nat) (q : Nat × Value) : Bool := !(q.1 == i) && !(q.1 + 1 == i && q.2.category == 2)
def zfL (i : Nat) (q : Nat × Value) : Bool := !(q.1 == i) && (!(q.1 == i + 1) && !(q.1 + 1 == i && q.2.category == 2))
theorem zlo_fl {b : Nat} {ex : Nat → Value} (hex : ∀ j, (ex j).category = 1) (i : Nat) (l : List (Nat × Value)) : (zlo b ex l).filter (fun q => !(q.1 == i) && !(q.1 + 1 == i && q.2.category == 2)) = zlo b ex (l.filter (zfl i)) := by
  simp only [zlo, List.filter_map]
  congr 1
  apply List.filter_congr
  intro q _
  simp [zfl, zcat hex]
theorem zlo_fL {b : Nat} {ex : Nat → Value} (hex : ∀ j, (ex j).category = 1) (i : Nat) (l : List (Nat × Value)) : (zlo b ex l).filter (fun q => !(q.1 == i) && (!(q.1 == i + 1) && !(q.1 + 1 == i && q.2.category == 2))) = zlo b ex (l.filter (zfL i)) := by
  simp only [zlo, List.filter_map]
  congr 1
  apply List.filter_congr
  intro q _
  simp [zfL, zcat hex]
theorem zlo_pick {b : Nat} {ex : Nat → Value} (l : List (Nat × Value)) (ks : List Nat) : lv_pick (zlo b ex l) ks = zlo b ex (lv_pick l ks) := by
  simp only [lv_pick, zlo]
  induction ks with
  | nil => rfl
  | cons k ks ih =>
    simp only [List.getElem?_map] at ih
    simp only [List.filterMap_cons, List.getElem?_map]
    cases l[k]? <;> simp [ih]
theorem zj_sub (ks : List Nat) (h : lv_pick loc ks = loc') (k : zPJ X cells slots pc loc' stk σ) : zPJ X cells slots pc loc stk σ := by
  obtain ⟨p, l, e, R, s, m, args, below, meth, c, Q, b, ex, D, ca⟩ := X
  intro H locs ls hP hz hS hl
  exact k H locs ls hP hz hS (lv_sub hl ks (by rw [zlo_pick, h]))
theorem zj_iadd (o : zOK X own cc nL d) {x y : Int32} (hd : zDD cc pc .iadd 1 pc')  (k : zPJ X cells slots pc' loc (.int (x + y) :: stk) σ) : zPJ X cells slots pc loc (.int y :: .int x :: stk) σ := by
  obtain ⟨p, l, e, R, s, m, args, below, meth, c, Q, b, ex, D, ca⟩ := X
  obtain ⟨hx, hb, hml, hown, hts, hKX, hEX, hbs, hfr, hlr, hlk, hex⟩ := o
  obtain ⟨hd, rfl⟩ := hd
  intro H locs ls hP hz hS hl
  exact lv_iadd hx hb hd  (k H locs ls hP hz hS hl)
theorem zj_isub (o : zOK X own cc nL d) {x y : Int32} (hd : zDD cc pc .isub 1 pc')  (k : zPJ X cells slots pc' loc (.int (x - y) :: stk) σ) : zPJ X cells slots pc loc (.int y :: .int x :: stk) σ := by
  obtain ⟨p, l, e, R, s, m, args, below, meth, c, Q, b, ex, D, ca⟩ := X
  obtain ⟨hx, hb, hml, hown, hts, hKX, hEX, hbs, hfr, hlr, hlk, hex⟩ := o
  obtain ⟨hd, rfl⟩ := hd
  intro H locs ls hP hz hS hl
  exact lv_isub hx hb hd  (k H locs ls hP hz hS hl)
theorem zj_imul (o : zOK X own cc nL d) {x y : Int32} (hd : zDD cc pc .imul 1 pc')  (k : zPJ X cells slots pc' loc (.int (x * y) :: stk) σ) : zPJ X cells slots pc loc (.int y :: .int x :: stk) σ := by
  obtain ⟨p, l, e, R, s, m, args, below, meth, c, Q, b, ex, D, ca⟩ := X
  obtain ⟨hx, hb, hml, hown, hts, hKX, hEX, hbs, hfr, hlr, hlk, hex⟩ := o
  obtain ⟨hd, rfl⟩ := hd
  intro H locs ls hP hz hS hl
  exact lv_imul hx hb hd  (k H locs ls hP hz hS hl)
theorem zj_iand (o : zOK X own cc nL d) {x y : Int32} (hd : zDD cc pc .iand 1 pc')  (k : zPJ X cells slots pc' loc (.int (x &&& y) :: stk) σ) : zPJ X cells slots pc loc (.int y :: .int x :: stk) σ := by
  obtain ⟨p, l, e, R, s, m, args, below, meth, c, Q, b, ex, D, ca⟩ := X
  obtain ⟨hx, hb, hml, hown, hts, hKX, hEX, hbs, hfr, hlr, hlk, hex⟩ := o
  obtain ⟨hd, rfl⟩ := hd
  intro H locs ls hP hz hS hl
  exact lv_iand hx hb hd  (k H locs ls hP hz hS hl)
theorem zj_ior (o : zOK X own cc nL d) {x y : Int32} (hd : zDD cc pc .ior 1 pc')  (k : zPJ X cells slots pc' loc (.int (x ||| y) :: stk) σ) : zPJ X cells slots pc loc (.int y :: .int x :: stk) σ := by
  obtain ⟨p, l, e, R, s, m, args, below, meth, c, Q, b, ex, D, ca⟩ := X
  obtain ⟨hx, hb, hml, hown, hts, hKX, hEX, hbs, hfr, hlr, hlk, hex⟩ := o
  obtain ⟨hd, rfl⟩ := hd
  intro H locs ls hP hz hS hl
  exact lv_ior hx hb hd  (k H locs ls hP hz hS hl)
theorem zj_ixor (o : zOK X own cc nL d) {x y : Int32} (hd : zDD cc pc .ixor 1 pc')  (k : zPJ X cells slots pc' loc (.int (x ^^^ y) :: stk) σ) : zPJ X cells slots pc loc (.int y :: .int x :: stk) σ := by
  obtain ⟨p, l, e, R, s, m, args, below, meth, c, Q, b, ex, D, ca⟩ := X
  obtain ⟨hx, hb, hml, hown, hts, hKX, hEX, hbs, hfr, hlr, hlk, hex⟩ := o
  obtain ⟨hd, rfl⟩ := hd
  intro H locs ls hP hz hS hl
  exact lv_ixor hx hb hd  (k H locs ls hP hz hS hl)
theorem zj_ishl (o : zOK X own cc nL d) {x y : Int32} (hd : zDD cc pc .ishl 1 pc')  (k : zPJ X cells slots pc' loc (.int (x <<< (y &&& 31)) :: stk) σ) : zPJ X cells slots pc loc (.int y :: .int x :: stk) σ := by
  obtain ⟨p, l, e, R, s, m, args, below, meth, c, Q, b, ex, D, ca⟩ := X
  obtain ⟨hx, hb, hml, hown, hts, hKX, hEX, hbs, hfr, hlr, hlk, hex⟩ := o
  obtain ⟨hd, rfl⟩ := hd
  intro H locs ls hP hz hS hl
  exact lv_ishl hx hb hd  (k H locs ls hP hz hS hl)
theorem zj_ishr (o : zOK X own cc nL d) {x y : Int32} (hd : zDD cc pc .ishr 1 pc')  (k : zPJ X cells slots pc' loc (.int (x >>> (y &&& 31)) :: stk) σ) : zPJ X cells slots pc loc (.int y :: .int x :: stk) σ := by
  obtain ⟨p, l, e, R, s, m, args, below, meth, c, Q, b, ex, D, ca⟩ := X
  obtain ⟨hx, hb, hml, hown, hts, hKX, hEX, hbs, hfr, hlr, hlk, hex⟩ := o
  obtain ⟨hd, rfl⟩ := hd
  intro H locs ls hP hz hS hl
  exact lv_ishr hx hb hd  (k H locs ls hP hz hS hl)
theorem zj_iushr (o : zOK X own cc nL d) {x y : Int32} (hd : zDD cc pc .iushr 1 pc')  (k : zPJ X cells slots pc' loc (.int ((x.toUInt32 >>> (y.toUInt32 &&& Int32.toUInt32 31)).toInt32) :: stk) σ) : zPJ X cells slots pc loc (.int y :: .int x :: stk) σ := by
  obtain ⟨p, l, e, R, s, m, args, below, meth, c, Q, b, ex, D, ca⟩ := X
  obtain ⟨hx, hb, hml, hown, hts, hKX, hEX, hbs, hfr, hlr, hlk, hex⟩ := o
  obtain ⟨hd, rfl⟩ := hd
  intro H locs ls hP hz hS hl
  exact lv_iushr hx hb hd rfl  (k H locs ls hP hz hS hl)
theorem zj_ladd (o : zOK X own cc nL d) {x y : Int64} (hd : zDD cc pc .ladd 1 pc')  (k : zPJ X cells slots pc' loc (.long (x + y) :: stk) σ) : zPJ X cells slots pc loc (.long y :: .long x :: stk) σ := by
  obtain ⟨p, l, e, R, s, m, args, below, meth, c, Q, b, ex, D, ca⟩ := X
  obtain ⟨hx, hb, hml, hown, hts, hKX, hEX, hbs, hfr, hlr, hlk, hex⟩ := o
  obtain ⟨hd, rfl⟩ := hd
  intro H locs ls hP hz hS hl
  exact lv_ladd hx hb hd  (k H locs ls hP hz hS hl)
theorem zj_lmul (o : zOK X own cc nL d) {x y : Int64} (hd : zDD cc pc .lmul 1 pc')  (k : zPJ X cells slots pc' loc (.long (x * y) :: stk) σ) : zPJ X cells slots pc loc (.long y :: .long x :: stk) σ := by
  obtain ⟨p, l, e, R, s, m, args, below, meth, c, Q, b, ex, D, ca⟩ := X
  obtain ⟨hx, hb, hml, hown, hts, hKX, hEX, hbs, hfr, hlr, hlk, hex⟩ := o
  obtain ⟨hd, rfl⟩ := hd
  intro H locs ls hP hz hS hl
  exact lv_lmul hx hb hd  (k H locs ls hP hz hS hl)
theorem zj_lor (o : zOK X own cc nL d) {x y : Int64} (hd : zDD cc pc .lor 1 pc')  (k : zPJ X cells slots pc' loc (.long (x ||| y) :: stk) σ) : zPJ X cells slots pc loc (.long y :: .long x :: stk) σ := by
  obtain ⟨p, l, e, R, s, m, args, below, meth, c, Q, b, ex, D, ca⟩ := X
  obtain ⟨hx, hb, hml, hown, hts, hKX, hEX, hbs, hfr, hlr, hlk, hex⟩ := o
  obtain ⟨hd, rfl⟩ := hd
  intro H locs ls hP hz hS hl
  exact lv_lor hx hb hd  (k H locs ls hP hz hS hl)
theorem zj_lcmp (o : zOK X own cc nL d) {x y : Int64} (hd : zDD cc pc .lcmp 1 pc')  (k : zPJ X cells slots pc' loc (.int (lg_cmp x y) :: stk) σ) : zPJ X cells slots pc loc (.long y :: .long x :: stk) σ := by
  obtain ⟨p, l, e, R, s, m, args, below, meth, c, Q, b, ex, D, ca⟩ := X
  obtain ⟨hx, hb, hml, hown, hts, hKX, hEX, hbs, hfr, hlr, hlk, hex⟩ := o
  obtain ⟨hd, rfl⟩ := hd
  intro H locs ls hP hz hS hl
  exact W.lcmp hx hb hd  (k H locs ls hP hz hS hl)
theorem zj_lshl (o : zOK X own cc nL d) {x : Int64} {y : Int32} (hd : zDD cc pc .lshl 1 pc')  (k : zPJ X cells slots pc' loc (.long (x <<< (y.toInt64 &&& 63)) :: stk) σ) : zPJ X cells slots pc loc (.int y :: .long x :: stk) σ := by
  obtain ⟨p, l, e, R, s, m, args, below, meth, c, Q, b, ex, D, ca⟩ := X
  obtain ⟨hx, hb, hml, hown, hts, hKX, hEX, hbs, hfr, hlr, hlk, hex⟩ := o
  obtain ⟨hd, rfl⟩ := hd
  intro H locs ls hP hz hS hl
  exact lv_lshl hx hb hd rfl  (k H locs ls hP hz hS hl)
theorem zj_idiv (o : zOK X own cc nL d) {x y : Int32} (hd : zDD cc pc .idiv 1 pc') (hne : ¬ y = 0) (k : zPJ X cells slots pc' loc (.int (x / y) :: stk) σ) : zPJ X cells slots pc loc (.int y :: .int x :: stk) σ := by
  obtain ⟨p, l, e, R, s, m, args, below, meth, c, Q, b, ex, D, ca⟩ := X
  obtain ⟨hx, hb, hml, hown, hts, hKX, hEX, hbs, hfr, hlr, hlk, hex⟩ := o
  obtain ⟨hd, rfl⟩ := hd
  intro H locs ls hP hz hS hl
  exact lv_idiv hx hb hd hne  (k H locs ls hP hz hS hl)
theorem zj_irem (o : zOK X own cc nL d) {x y : Int32} (hd : zDD cc pc .irem 1 pc') (hne : ¬ y = 0) (k : zPJ X cells slots pc' loc (.int (x - x / y * y) :: stk) σ) : zPJ X cells slots pc loc (.int y :: .int x :: stk) σ := by
  obtain ⟨p, l, e, R, s, m, args, below, meth, c, Q, b, ex, D, ca⟩ := X
  obtain ⟨hx, hb, hml, hown, hts, hKX, hEX, hbs, hfr, hlr, hlk, hex⟩ := o
  obtain ⟨hd, rfl⟩ := hd
  intro H locs ls hP hz hS hl
  exact lv_irem hx hb hd hne  (k H locs ls hP hz hS hl)
theorem zj_ldiv (o : zOK X own cc nL d) {x y : Int64} (hd : zDD cc pc .ldiv 1 pc') (hne : ¬ y = 0) (k : zPJ X cells slots pc' loc (.long (x / y) :: stk) σ) : zPJ X cells slots pc loc (.long y :: .long x :: stk) σ := by
  obtain ⟨p, l, e, R, s, m, args, below, meth, c, Q, b, ex, D, ca⟩ := X
  obtain ⟨hx, hb, hml, hown, hts, hKX, hEX, hbs, hfr, hlr, hlk, hex⟩ := o
  obtain ⟨hd, rfl⟩ := hd
  intro H locs ls hP hz hS hl
  exact lv_ldiv hx hb hd hne  (k H locs ls hP hz hS hl)
theorem zj_lrem (o : zOK X own cc nL d) {x y : Int64} (hd : zDD cc pc .lrem 1 pc') (hne : ¬ y = 0) (k : zPJ X cells slots pc' loc (.long (x - x / y * y) :: stk) σ) : zPJ X cells slots pc loc (.long y :: .long x :: stk) σ := by
  obtain ⟨p, l, e, R, s, m, args, below, meth, c, Q, b, ex, D, ca⟩ := X
  obtain ⟨hx, hb, hml, hown, hts, hKX, hEX, hbs, hfr, hlr, hlk, hex⟩ := o
  obtain ⟨hd, rfl⟩ := hd
  intro H locs ls hP hz hS hl
  exact lv_lrem hx hb hd hne  (k H locs ls hP hz hS hl)
theorem zj_ineg (o : zOK X own cc nL d) {x : Int32} (hd : zDD cc pc .ineg 1 pc')  (k : zPJ X cells slots pc' loc (.int (-x) :: stk) σ) : zPJ X cells slots pc loc (.int x :: stk) σ := by
  obtain ⟨p, l, e, R, s, m, args, below, meth, c, Q, b, ex, D, ca⟩ := X
  obtain ⟨hx, hb, hml, hown, hts, hKX, hEX, hbs, hfr, hlr, hlk, hex⟩ := o
  obtain ⟨hd, rfl⟩ := hd
  intro H locs ls hP hz hS hl
  exact lv_ineg hx hb hd  (k H locs ls hP hz hS hl)
theorem zj_i2l (o : zOK X own cc nL d) {x : Int32} (hd : zDD cc pc .i2l 1 pc')  (k : zPJ X cells slots pc' loc (.long x.toInt64 :: stk) σ) : zPJ X cells slots pc loc (.int x :: stk) σ := by
  obtain ⟨p, l, e, R, s, m, args, below, meth, c, Q, b, ex, D, ca⟩ := X
  obtain ⟨hx, hb, hml, hown, hts, hKX, hEX, hbs, hfr, hlr, hlk, hex⟩ := o
  obtain ⟨hd, rfl⟩ := hd
  intro H locs ls hP hz hS hl
  exact lv_i2l hx hb hd rfl  (k H locs ls hP hz hS hl)
theorem zj_i2c (o : zOK X own cc nL d) {x : Int32} (hd : zDD cc pc .i2c 1 pc')  (k : zPJ X cells slots pc' loc (.int ((x.toUInt32 % 65536).toInt32) :: stk) σ) : zPJ X cells slots pc loc (.int x :: stk) σ := by
  obtain ⟨p, l, e, R, s, m, args, below, meth, c, Q, b, ex, D, ca⟩ := X
  obtain ⟨hx, hb, hml, hown, hts, hKX, hEX, hbs, hfr, hlr, hlk, hex⟩ := o
  obtain ⟨hd, rfl⟩ := hd
  intro H locs ls hP hz hS hl
  exact lv_i2c hx hb hd rfl  (k H locs ls hP hz hS hl)
theorem zj_i2b (o : zOK X own cc nL d) {x : Int32} (hd : zDD cc pc .i2b 1 pc')  (k : zPJ X cells slots pc' loc (.int (x.toInt8.toInt32) :: stk) σ) : zPJ X cells slots pc loc (.int x :: stk) σ := by
  obtain ⟨p, l, e, R, s, m, args, below, meth, c, Q, b, ex, D, ca⟩ := X
  obtain ⟨hx, hb, hml, hown, hts, hKX, hEX, hbs, hfr, hlr, hlk, hex⟩ := o
  obtain ⟨hd, rfl⟩ := hd
  intro H locs ls hP hz hS hl
  exact lv_i2b hx hb hd rfl  (k H locs ls hP hz hS hl)
theorem zj_iconst (o : zOK X own cc nL d) {n : Int} {v : Int32} (hd : zDD cc pc (.iconst n) 1 pc') (hv : Int32.ofInt n = v) (k : zPJ X cells slots pc' loc (.int v :: stk) σ) : zPJ X cells slots pc loc (stk) σ := by
  obtain ⟨p, l, e, R, s, m, args, below, meth, c, Q, b, ex, D, ca⟩ := X
  obtain ⟨hx, hb, hml, hown, hts, hKX, hEX, hbs, hfr, hlr, hlk, hex⟩ := o
  obtain ⟨hd, rfl⟩ := hd
  intro H locs ls hP hz hS hl
  exact lv_iconst hx hb hd hv  (k H locs ls hP hz hS hl)
theorem zj_bipush (o : zOK X own cc nL d) {n : Int} {v : Int32} (hd : zDD cc pc (.bipush n) 2 pc') (hv : (Int8.ofInt n).toInt32 = v) (k : zPJ X cells slots pc' loc (.int v :: stk) σ) : zPJ X cells slots pc loc (stk) σ := by
  obtain ⟨p, l, e, R, s, m, args, below, meth, c, Q, b, ex, D, ca⟩ := X
  obtain ⟨hx, hb, hml, hown, hts, hKX, hEX, hbs, hfr, hlr, hlk, hex⟩ := o
  obtain ⟨hd, rfl⟩ := hd
  intro H locs ls hP hz hS hl
  exact lv_bipush hx hb hd hv  (k H locs ls hP hz hS hl)
theorem zj_sipush (o : zOK X own cc nL d) {n : Int} {v : Int32} (hd : zDD cc pc (.sipush n) 3 pc') (hv : (Int16.ofInt n).toInt32 = v) (k : zPJ X cells slots pc' loc (.int v :: stk) σ) : zPJ X cells slots pc loc (stk) σ := by
  obtain ⟨p, l, e, R, s, m, args, below, meth, c, Q, b, ex, D, ca⟩ := X
  obtain ⟨hx, hb, hml, hown, hts, hKX, hEX, hbs, hfr, hlr, hlk, hex⟩ := o
  obtain ⟨hd, rfl⟩ := hd
  intro H locs ls hP hz hS hl
  exact lv_sipush hx hb hd hv  (k H locs ls hP hz hS hl)
theorem zj_lconst (o : zOK X own cc nL d) {n : Fin 2} {v : Int64} (hd : zDD cc pc (.lconst n) 1 pc') (hv : Int64.ofNat (n : Nat) = v) (k : zPJ X cells slots pc' loc (.long v :: stk) σ) : zPJ X cells slots pc loc (stk) σ := by
  obtain ⟨p, l, e, R, s, m, args, below, meth, c, Q, b, ex, D, ca⟩ := X
  obtain ⟨hx, hb, hml, hown, hts, hKX, hEX, hbs, hfr, hlr, hlk, hex⟩ := o
  obtain ⟨hd, rfl⟩ := hd
  intro H locs ls hP hz hS hl
  exact lv_lconst hx hb hd hv  (k H locs ls hP hz hS hl)
theorem zj_ldc (o : zOK X own cc nL d) {idx : Nat} {v : Int32} (hd : zDD cc pc (.ldc idx) 2 pc') (hc : Cond.constant own idx v ∈ zTB) (k : zPJ X cells slots pc' loc (.int v :: stk) σ) : zPJ X cells slots pc loc (stk) σ := by
  obtain ⟨p, l, e, R, s, m, args, below, meth, c, Q, b, ex, D, ca⟩ := X
  obtain ⟨hx, hb, hml, hown, hts, hKX, hEX, hbs, hfr, hlr, hlk, hex⟩ := o
  obtain ⟨hd, rfl⟩ := hd
  intro H locs ls hP hz hS hl
  exact lv_ldc hx hb hown (hts _ hc) hd  (k H locs ls hP hz hS hl)
theorem zj_ldcw (o : zOK X own cc nL d) {idx : Nat} {v : Int32} (hd : zDD cc pc (.ldc_w idx) 3 pc') (hc : Cond.constant own idx v ∈ zTB) (k : zPJ X cells slots pc' loc (.int v :: stk) σ) : zPJ X cells slots pc loc (stk) σ := by
  obtain ⟨p, l, e, R, s, m, args, below, meth, c, Q, b, ex, D, ca⟩ := X
  obtain ⟨hx, hb, hml, hown, hts, hKX, hEX, hbs, hfr, hlr, hlk, hex⟩ := o
  obtain ⟨hd, rfl⟩ := hd
  intro H locs ls hP hz hS hl
  exact lv_ldcw hx hb hown (hts _ hc) hd  (k H locs ls hP hz hS hl)
theorem zj_ldc2 (o : zOK X own cc nL d) {idx : Nat} {v : Int64} (hd : zDD cc pc (.ldc2_w idx) 3 pc') (hc : Cond.constantLong own idx v ∈ zTB) (k : zPJ X cells slots pc' loc (.long v :: stk) σ) : zPJ X cells slots pc loc (stk) σ := by
  obtain ⟨p, l, e, R, s, m, args, below, meth, c, Q, b, ex, D, ca⟩ := X
  obtain ⟨hx, hb, hml, hown, hts, hKX, hEX, hbs, hfr, hlr, hlk, hex⟩ := o
  obtain ⟨hd, rfl⟩ := hd
  intro H locs ls hP hz hS hl
  exact lv_ldc2 hx hb hown (hts _ hc) hd  (k H locs ls hP hz hS hl)
theorem zj_dup (o : zOK X own cc nL d) {v : Value} (hd : zDD cc pc .dup 1 pc') (hv : v.category = 1) (k : zPJ X cells slots pc' loc (v :: v :: stk) σ) : zPJ X cells slots pc loc (v :: stk) σ := by
  obtain ⟨p, l, e, R, s, m, args, below, meth, c, Q, b, ex, D, ca⟩ := X
  obtain ⟨hx, hb, hml, hown, hts, hKX, hEX, hbs, hfr, hlr, hlk, hex⟩ := o
  obtain ⟨hd, rfl⟩ := hd
  intro H locs ls hP hz hS hl
  exact lv_dup hx hb hd (by rw [zcat hex, hv]) (k H locs ls hP hz hS hl)
theorem zj_pop (o : zOK X own cc nL d) {v : Value} (hd : zDD cc pc .pop 1 pc') (hv : v.category = 1) (k : zPJ X cells slots pc' loc stk σ) : zPJ X cells slots pc loc (v :: stk) σ := by
  obtain ⟨p, l, e, R, s, m, args, below, meth, c, Q, b, ex, D, ca⟩ := X
  obtain ⟨hx, hb, hml, hown, hts, hKX, hEX, hbs, hfr, hlr, hlk, hex⟩ := o
  obtain ⟨hd, rfl⟩ := hd
  intro H locs ls hP hz hS hl
  exact lv_pop hx hb hd (by rw [zcat hex, hv]) (k H locs ls hP hz hS hl)
theorem zj_dup2 (o : zOK X own cc nL d) {u v : Value} (hd : zDD cc pc .dup2 1 pc') (hu : u.category = 1) (hv : v.category = 1) (k : zPJ X cells slots pc' loc (u :: v :: u :: v :: stk) σ) : zPJ X cells slots pc loc (u :: v :: stk) σ := by
  obtain ⟨p, l, e, R, s, m, args, below, meth, c, Q, b, ex, D, ca⟩ := X
  obtain ⟨hx, hb, hml, hown, hts, hKX, hEX, hbs, hfr, hlr, hlk, hex⟩ := o
  obtain ⟨hd, rfl⟩ := hd
  intro H locs ls hP hz hS hl
  exact lv_dup2_11 hx hb hd (by rw [zcat hex, hu]) (by rw [zcat hex, hv]) (k H locs ls hP hz hS hl)
theorem zj_goto (o : zOK X own cc nL d) {off : Int} {tgt : Nat} (hd : zDD cc pc (.goto off) 3 pc') (ht : (pc : Int) + off = (tgt : Int)) (k : zPJ X cells slots tgt loc stk σ) : zPJ X cells slots pc loc stk σ := by
  obtain ⟨p, l, e, R, s, m, args, below, meth, c, Q, b, ex, D, ca⟩ := X
  obtain ⟨hx, hb, hml, hown, hts, hKX, hEX, hbs, hfr, hlr, hlk, hex⟩ := o
  obtain ⟨hd, rfl⟩ := hd
  intro H locs ls hP hz hS hl
  exact lv_goto hx hb hd ht (k H locs ls hP hz hS hl)
theorem zj_iload (o : zOK X own cc nL d) {i : Nat} {x : Int32} (hd : zDD cc pc (.iload i) 2 pc')  (q : Nat) (hq : loc[q]? = some (i, .int x)) (k : zPJ X cells slots pc' loc (.int x :: stk) σ) : zPJ X cells slots pc loc stk σ := by
  obtain ⟨p, l, e, R, s, m, args, below, meth, c, Q, b, ex, D, ca⟩ := X
  obtain ⟨hx, hb, hml, hown, hts, hKX, hEX, hbs, hfr, hlr, hlk, hex⟩ := o
  obtain ⟨hd, rfl⟩ := hd
  intro H locs ls hP hz hS hl
  exact lv_iload hx hb hd  (lv_at hl q (zlo_get hq)) (k H locs ls hP hz hS hl)
theorem zj_iload_n (o : zOK X own cc nL d) {i : Nat} {n : Fin 4} {x : Int32} (hd : zDD cc pc (.iload_n n) 1 pc') (hi : (n : Nat) = i) (q : Nat) (hq : loc[q]? = some (i, .int x)) (k : zPJ X cells slots pc' loc (.int x :: stk) σ) : zPJ X cells slots pc loc stk σ := by
  obtain ⟨p, l, e, R, s, m, args, below, meth, c, Q, b, ex, D, ca⟩ := X
  obtain ⟨hx, hb, hml, hown, hts, hKX, hEX, hbs, hfr, hlr, hlk, hex⟩ := o
  obtain ⟨hd, rfl⟩ := hd
  intro H locs ls hP hz hS hl
  exact lv_iload_n hx hb hd hi (lv_at hl q (zlo_get hq)) (k H locs ls hP hz hS hl)
theorem zj_lload (o : zOK X own cc nL d) {i : Nat} {x : Int64} (hd : zDD cc pc (.lload i) 2 pc')  (q : Nat) (hq : loc[q]? = some (i, .long x)) (k : zPJ X cells slots pc' loc (.long x :: stk) σ) : zPJ X cells slots pc loc stk σ := by
  obtain ⟨p, l, e, R, s, m, args, below, meth, c, Q, b, ex, D, ca⟩ := X
  obtain ⟨hx, hb, hml, hown, hts, hKX, hEX, hbs, hfr, hlr, hlk, hex⟩ := o
  obtain ⟨hd, rfl⟩ := hd
  intro H locs ls hP hz hS hl
  exact lv_lload hx hb hd  (lv_at hl q (zlo_get hq)) (k H locs ls hP hz hS hl)
theorem zj_lload_n (o : zOK X own cc nL d) {i : Nat} {n : Fin 4} {x : Int64} (hd : zDD cc pc (.lload_n n) 1 pc') (hi : (n : Nat) = i) (q : Nat) (hq : loc[q]? = some (i, .long x)) (k : zPJ X cells slots pc' loc (.long x :: stk) σ) : zPJ X cells slots pc loc stk σ := by
  obtain ⟨p, l, e, R, s, m, args, below, meth, c, Q, b, ex, D, ca⟩ := X
  obtain ⟨hx, hb, hml, hown, hts, hKX, hEX, hbs, hfr, hlr, hlk, hex⟩ := o
  obtain ⟨hd, rfl⟩ := hd
  intro H locs ls hP hz hS hl
  exact lv_lload_n hx hb hd hi (lv_at hl q (zlo_get hq)) (k H locs ls hP hz hS hl)
theorem zj_aload (o : zOK X own cc nL d) {i : Nat} {x : Nat} (hd : zDD cc pc (.aload i) 2 pc')  (q : Nat) (hq : loc[q]? = some (i, .ref x)) (k : zPJ X cells slots pc' loc (.ref x :: stk) σ) : zPJ X cells slots pc loc stk σ := by
  obtain ⟨p, l, e, R, s, m, args, below, meth, c, Q, b, ex, D, ca⟩ := X
  obtain ⟨hx, hb, hml, hown, hts, hKX, hEX, hbs, hfr, hlr, hlk, hex⟩ := o
  obtain ⟨hd, rfl⟩ := hd
  intro H locs ls hP hz hS hl
  exact lv_aload hx hb hd  (lv_at hl q (zlo_get hq)) (k H locs ls hP hz hS hl)
theorem zj_xload (o : zOK X own cc nL d) {i : Nat} {j : Nat} (hd : zDD cc pc (.aload i) 2 pc')  (q : Nat) (hq : loc[q]? = some (i, .retAddr j)) (hj : 1 ≤ j ∧ j ≤ 4) (k : zPJ X cells slots pc' loc (.retAddr j :: stk) σ) : zPJ X cells slots pc loc stk σ := by
  obtain ⟨p, l, e, R, s, m, args, below, meth, c, Q, b, ex, D, ca⟩ := X
  obtain ⟨hx, hb, hml, hown, hts, hKX, hEX, hbs, hfr, hlr, hlk, hex⟩ := o
  obtain ⟨hd, rfl⟩ := hd
  intro H locs ls hP hz hS hl
  have hr : ∃ x, ex j = .ref x := by
    obtain ⟨adK, adV, ⟨h1, h2, h3, h4, -⟩, -⟩ := hEX
    rcases (show j = 1 ∨ j = 2 ∨ j = 3 ∨ j = 4 by omega) with rfl | rfl | rfl | rfl
    · exact ⟨_, h1⟩
    · exact ⟨_, h2⟩
    · exact ⟨_, h3⟩
    · exact ⟨_, h4⟩
  obtain ⟨x, hr⟩ := hr
  have hg : ls[i]? = some (.val (.ref x)) := by
    have := lv_at hl q (zlo_get hq)
    rw [show zrv b ex (.retAddr j) = ex j from rfl, hr] at this
    exact this
  refine lv_aload hx hb hd  hg ?_
  have hk := k H locs ls hP hz hS hl
  rw [show (Value.retAddr j :: stk).map (zrv b ex) = ex j :: stk.map (zrv b ex) from rfl, hr] at hk
  exact hk
theorem zj_aload_n (o : zOK X own cc nL d) {i : Nat} {n : Fin 4} {x : Nat} (hd : zDD cc pc (.aload_n n) 1 pc') (hi : (n : Nat) = i) (q : Nat) (hq : loc[q]? = some (i, .ref x)) (k : zPJ X cells slots pc' loc (.ref x :: stk) σ) : zPJ X cells slots pc loc stk σ := by
  obtain ⟨p, l, e, R, s, m, args, below, meth, c, Q, b, ex, D, ca⟩ := X
  obtain ⟨hx, hb, hml, hown, hts, hKX, hEX, hbs, hfr, hlr, hlk, hex⟩ := o
  obtain ⟨hd, rfl⟩ := hd
  intro H locs ls hP hz hS hl
  exact lv_aload_n hx hb hd hi (lv_at hl q (zlo_get hq)) (k H locs ls hP hz hS hl)
theorem zj_xload_n (o : zOK X own cc nL d) {i : Nat} {n : Fin 4} {j : Nat} (hd : zDD cc pc (.aload_n n) 1 pc') (hi : (n : Nat) = i) (q : Nat) (hq : loc[q]? = some (i, .retAddr j)) (hj : 1 ≤ j ∧ j ≤ 4) (k : zPJ X cells slots pc' loc (.retAddr j :: stk) σ) : zPJ X cells slots pc loc stk σ := by
  obtain ⟨p, l, e, R, s, m, args, below, meth, c, Q, b, ex, D, ca⟩ := X
  obtain ⟨hx, hb, hml, hown, hts, hKX, hEX, hbs, hfr, hlr, hlk, hex⟩ := o
  obtain ⟨hd, rfl⟩ := hd
  intro H locs ls hP hz hS hl
  have hr : ∃ x, ex j = .ref x := by
    obtain ⟨adK, adV, ⟨h1, h2, h3, h4, -⟩, -⟩ := hEX
    rcases (show j = 1 ∨ j = 2 ∨ j = 3 ∨ j = 4 by omega) with rfl | rfl | rfl | rfl
    · exact ⟨_, h1⟩
    · exact ⟨_, h2⟩
    · exact ⟨_, h3⟩
    · exact ⟨_, h4⟩
  obtain ⟨x, hr⟩ := hr
  have hg : ls[i]? = some (.val (.ref x)) := by
    have := lv_at hl q (zlo_get hq)
    rw [show zrv b ex (.retAddr j) = ex j from rfl, hr] at this
    exact this
  refine lv_aload_n hx hb hd hi hg ?_
  have hk := k H locs ls hP hz hS hl
  rw [show (Value.retAddr j :: stk).map (zrv b ex) = ex j :: stk.map (zrv b ex) from rfl, hr] at hk
  exact hk
theorem zj_istore (o : zOK X own cc nL d) {i : Nat} {x : Int32} (hd : zDD cc pc (.istore i) 2 pc')  (hn : i < nL) (hl' : (i, Value.int x) :: loc.filter (zfl i) = loc') (k : zPJ X cells slots pc' loc' stk σ) : zPJ X cells slots pc loc (.int x :: stk) σ := by
  obtain ⟨p, l, e, R, s, m, args, below, meth, c, Q, b, ex, D, ca⟩ := X
  obtain ⟨hx, hb, hml, hown, hts, hKX, hEX, hbs, hfr, hlr, hlk, hex⟩ := o
  obtain ⟨hd, rfl⟩ := hd
  intro H locs ls hP hz hS hl
  exact lv_istore hx hb hd  hl (by rw [hml]; exact hn) (by rw [zlo_fl hex, ← hl']; rfl) (fun ls' hl2 => k H locs ls' hP hz hS hl2)
theorem zj_istore_n (o : zOK X own cc nL d) {i : Nat} {n : Fin 4} {x : Int32} (hd : zDD cc pc (.istore_n n) 1 pc') (hi : (n : Nat) = i) (hn : i < nL) (hl' : (i, Value.int x) :: loc.filter (zfl i) = loc') (k : zPJ X cells slots pc' loc' stk σ) : zPJ X cells slots pc loc (.int x :: stk) σ := by
  obtain ⟨p, l, e, R, s, m, args, below, meth, c, Q, b, ex, D, ca⟩ := X
  obtain ⟨hx, hb, hml, hown, hts, hKX, hEX, hbs, hfr, hlr, hlk, hex⟩ := o
  obtain ⟨hd, rfl⟩ := hd
  intro H locs ls hP hz hS hl
  exact lv_istore_n hx hb hd hi hl (by rw [hml]; exact hn) (by rw [zlo_fl hex, ← hl']; rfl) (fun ls' hl2 => k H locs ls' hP hz hS hl2)
theorem zj_lstore (o : zOK X own cc nL d) {i : Nat} {x : Int64} (hd : zDD cc pc (.lstore i) 2 pc')  (hn : i + 1 < nL) (hl' : (i, Value.long x) :: loc.filter (zfL i) = loc') (k : zPJ X cells slots pc' loc' stk σ) : zPJ X cells slots pc loc (.long x :: stk) σ := by
  obtain ⟨p, l, e, R, s, m, args, below, meth, c, Q, b, ex, D, ca⟩ := X
  obtain ⟨hx, hb, hml, hown, hts, hKX, hEX, hbs, hfr, hlr, hlk, hex⟩ := o
  obtain ⟨hd, rfl⟩ := hd
  intro H locs ls hP hz hS hl
  exact lv_lstore hx hb hd  hl (by rw [hml]; exact hn) (by rw [zlo_fL hex, ← hl']; rfl) (fun ls' hl2 => k H locs ls' hP hz hS hl2)
theorem zj_lstore_n (o : zOK X own cc nL d) {i : Nat} {n : Fin 4} {x : Int64} (hd : zDD cc pc (.lstore_n n) 1 pc') (hi : (n : Nat) = i) (hn : i + 1 < nL) (hl' : (i, Value.long x) :: loc.filter (zfL i) = loc') (k : zPJ X cells slots pc' loc' stk σ) : zPJ X cells slots pc loc (.long x :: stk) σ := by
  obtain ⟨p, l, e, R, s, m, args, below, meth, c, Q, b, ex, D, ca⟩ := X
  obtain ⟨hx, hb, hml, hown, hts, hKX, hEX, hbs, hfr, hlr, hlk, hex⟩ := o
  obtain ⟨hd, rfl⟩ := hd
  intro H locs ls hP hz hS hl
  exact lv_lstore_n hx hb hd hi hl (by rw [hml]; exact hn) (by rw [zlo_fL hex, ← hl']; rfl) (fun ls' hl2 => k H locs ls' hP hz hS hl2)
theorem zj_astore (o : zOK X own cc nL d) {i : Nat} {x : Nat} (hd : zDD cc pc (.astore i) 2 pc')  (hn : i < nL) (hl' : (i, Value.ref x) :: loc.filter (zfl i) = loc') (k : zPJ X cells slots pc' loc' stk σ) : zPJ X cells slots pc loc (.ref x :: stk) σ := by
  obtain ⟨p, l, e, R, s, m, args, below, meth, c, Q, b, ex, D, ca⟩ := X
  obtain ⟨hx, hb, hml, hown, hts, hKX, hEX, hbs, hfr, hlr, hlk, hex⟩ := o
  obtain ⟨hd, rfl⟩ := hd
  intro H locs ls hP hz hS hl
  exact lv_astore hx hb hd  hl (by rw [hml]; exact hn) (by rw [zlo_fl hex, ← hl']; rfl) (fun ls' hl2 => k H locs ls' hP hz hS hl2)
theorem zj_astore_n (o : zOK X own cc nL d) {i : Nat} {n : Fin 4} {x : Nat} (hd : zDD cc pc (.astore_n n) 1 pc') (hi : (n : Nat) = i) (hn : i < nL) (hl' : (i, Value.ref x) :: loc.filter (zfl i) = loc') (k : zPJ X cells slots pc' loc' stk σ) : zPJ X cells slots pc loc (.ref x :: stk) σ := by
  obtain ⟨p, l, e, R, s, m, args, below, meth, c, Q, b, ex, D, ca⟩ := X
  obtain ⟨hx, hb, hml, hown, hts, hKX, hEX, hbs, hfr, hlr, hlk, hex⟩ := o
  obtain ⟨hd, rfl⟩ := hd
  intro H locs ls hP hz hS hl
  exact lv_astore_n hx hb hd hi hl (by rw [hml]; exact hn) (by rw [zlo_fl hex, ← hl']; rfl) (fun ls' hl2 => k H locs ls' hP hz hS hl2)
theorem zj_iinc (o : zOK X own cc nL d) {i : Nat} {n : Int} {x v : Int32} (hd : zDD cc pc (.iinc i n) 3 pc') (q : Nat) (hq : loc[q]? = some (i, .int x)) (hv : x + Int32.ofInt n = v) (hn : i < nL) (hl' : (i, Value.int v) :: loc.filter (zfl i) = loc') (k : zPJ X cells slots pc' loc' stk σ) : zPJ X cells slots pc loc stk σ := by
  obtain ⟨p, l, e, R, s, m, args, below, meth, c, Q, b, ex, D, ca⟩ := X
  obtain ⟨hx, hb, hml, hown, hts, hKX, hEX, hbs, hfr, hlr, hlk, hex⟩ := o
  obtain ⟨hd, rfl⟩ := hd
  intro H locs ls hP hz hS hl
  exact lv_iinc hx hb hd hl (zlo_get hq) hv (by rw [hml]; exact hn) (by rw [zlo_fl hex, ← hl']; rfl) (fun ls' hl2 => k H locs ls' hP hz hS hl2)
theorem zj_if_eq (o : zOK X own cc nL d) {x : Int32} {off : Int} {tgt : Nat} (hd : zDD cc pc (.ifCond .eq off) 3 pc') (ht : (pc : Int) + off = (tgt : Int)) (kt : x = 0 → zPJ X cells slots tgt loc stk σ) (kf : ¬ (x = 0) → zPJ X cells slots pc' loc stk σ) : zPJ X cells slots pc loc (.int x :: stk) σ := by
  obtain ⟨p, l, e, R, s, m, args, below, meth, c, Q, b, ex, D, ca⟩ := X
  obtain ⟨hx, hb, hml, hown, hts, hKX, hEX, hbs, hfr, hlr, hlk, hex⟩ := o
  obtain ⟨hd, rfl⟩ := hd
  intro H locs ls hP hz hS hl
  exact lv_if_eq hx hb hd ht (fun h => kt h H locs ls hP hz hS hl) (fun h => kf h H locs ls hP hz hS hl)
theorem zj_icmp_eq (o : zOK X own cc nL d) {x y : Int32} {off : Int} {tgt : Nat} (hd : zDD cc pc (.if_icmp .eq off) 3 pc') (ht : (pc : Int) + off = (tgt : Int)) (kt : x = y → zPJ X cells slots tgt loc stk σ) (kf : ¬ (x = y) → zPJ X cells slots pc' loc stk σ) : zPJ X cells slots pc loc (.int y :: .int x :: stk) σ := by
  obtain ⟨p, l, e, R, s, m, args, below, meth, c, Q, b, ex, D, ca⟩ := X
  obtain ⟨hx, hb, hml, hown, hts, hKX, hEX, hbs, hfr, hlr, hlk, hex⟩ := o
  obtain ⟨hd, rfl⟩ := hd
  intro H locs ls hP hz hS hl
  exact lv_icmp_eq hx hb hd ht (fun h => kt h H locs ls hP hz hS hl) (fun h => kf h H locs ls hP hz hS hl)
theorem zj_if_ne (o : zOK X own cc nL d) {x : Int32} {off : Int} {tgt : Nat} (hd : zDD cc pc (.ifCond .ne off) 3 pc') (ht : (pc : Int) + off = (tgt : Int)) (kt : ¬ x = 0 → zPJ X cells slots tgt loc stk σ) (kf : x = 0 → zPJ X cells slots pc' loc stk σ) : zPJ X cells slots pc loc (.int x :: stk) σ := by
  obtain ⟨p, l, e, R, s, m, args, below, meth, c, Q, b, ex, D, ca⟩ := X
  obtain ⟨hx, hb, hml, hown, hts, hKX, hEX, hbs, hfr, hlr, hlk, hex⟩ := o
  obtain ⟨hd, rfl⟩ := hd
  intro H locs ls hP hz hS hl
  exact lv_if_ne hx hb hd ht (fun h => kt h H locs ls hP hz hS hl) (fun h => kf h H locs ls hP hz hS hl)
theorem zj_icmp_ne (o : zOK X own cc nL d) {x y : Int32} {off : Int} {tgt : Nat} (hd : zDD cc pc (.if_icmp .ne off) 3 pc') (ht : (pc : Int) + off = (tgt : Int)) (kt : ¬ x = y → zPJ X cells slots tgt loc stk σ) (kf : x = y → zPJ X cells slots pc' loc stk σ) : zPJ X cells slots pc loc (.int y :: .int x :: stk) σ := by
  obtain ⟨p, l, e, R, s, m, args, below, meth, c, Q, b, ex, D, ca⟩ := X
  obtain ⟨hx, hb, hml, hown, hts, hKX, hEX, hbs, hfr, hlr, hlk, hex⟩ := o
  obtain ⟨hd, rfl⟩ := hd
  intro H locs ls hP hz hS hl
  exact lv_icmp_ne hx hb hd ht (fun h => kt h H locs ls hP hz hS hl) (fun h => kf h H locs ls hP hz hS hl)
theorem zj_if_lt (o : zOK X own cc nL d) {x : Int32} {off : Int} {tgt : Nat} (hd : zDD cc pc (.ifCond .lt off) 3 pc') (ht : (pc : Int) + off = (tgt : Int)) (kt : x < 0 → zPJ X cells slots tgt loc stk σ) (kf : ¬ (x < 0) → zPJ X cells slots pc' loc stk σ) : zPJ X cells slots pc loc (.int x :: stk) σ := by
  obtain ⟨p, l, e, R, s, m, args, below, meth, c, Q, b, ex, D, ca⟩ := X
  obtain ⟨hx, hb, hml, hown, hts, hKX, hEX, hbs, hfr, hlr, hlk, hex⟩ := o
  obtain ⟨hd, rfl⟩ := hd
  intro H locs ls hP hz hS hl
  exact lv_if_lt hx hb hd ht (fun h => kt h H locs ls hP hz hS hl) (fun h => kf h H locs ls hP hz hS hl)
theorem zj_icmp_lt (o : zOK X own cc nL d) {x y : Int32} {off : Int} {tgt : Nat} (hd : zDD cc pc (.if_icmp .lt off) 3 pc') (ht : (pc : Int) + off = (tgt : Int)) (kt : x < y → zPJ X cells slots tgt loc stk σ) (kf : ¬ (x < y) → zPJ X cells slots pc' loc stk σ) : zPJ X cells slots pc loc (.int y :: .int x :: stk) σ := by
  obtain ⟨p, l, e, R, s, m, args, below, meth, c, Q, b, ex, D, ca⟩ := X
  obtain ⟨hx, hb, hml, hown, hts, hKX, hEX, hbs, hfr, hlr, hlk, hex⟩ := o
  obtain ⟨hd, rfl⟩ := hd
  intro H locs ls hP hz hS hl
  exact lv_icmp_lt hx hb hd ht (fun h => kt h H locs ls hP hz hS hl) (fun h => kf h H locs ls hP hz hS hl)
theorem zj_if_ge (o : zOK X own cc nL d) {x : Int32} {off : Int} {tgt : Nat} (hd : zDD cc pc (.ifCond .ge off) 3 pc') (ht : (pc : Int) + off = (tgt : Int)) (kt : 0 ≤ x → zPJ X cells slots tgt loc stk σ) (kf : ¬ (0 ≤ x) → zPJ X cells slots pc' loc stk σ) : zPJ X cells slots pc loc (.int x :: stk) σ := by
  obtain ⟨p, l, e, R, s, m, args, below, meth, c, Q, b, ex, D, ca⟩ := X
  obtain ⟨hx, hb, hml, hown, hts, hKX, hEX, hbs, hfr, hlr, hlk, hex⟩ := o
  obtain ⟨hd, rfl⟩ := hd
  intro H locs ls hP hz hS hl
  exact lv_if_ge hx hb hd ht (fun h => kt h H locs ls hP hz hS hl) (fun h => kf h H locs ls hP hz hS hl)
theorem zj_icmp_ge (o : zOK X own cc nL d) {x y : Int32} {off : Int} {tgt : Nat} (hd : zDD cc pc (.if_icmp .ge off) 3 pc') (ht : (pc : Int) + off = (tgt : Int)) (kt : y ≤ x → zPJ X cells slots tgt loc stk σ) (kf : ¬ (y ≤ x) → zPJ X cells slots pc' loc stk σ) : zPJ X cells slots pc loc (.int y :: .int x :: stk) σ := by
  obtain ⟨p, l, e, R, s, m, args, below, meth, c, Q, b, ex, D, ca⟩ := X
  obtain ⟨hx, hb, hml, hown, hts, hKX, hEX, hbs, hfr, hlr, hlk, hex⟩ := o
  obtain ⟨hd, rfl⟩ := hd
  intro H locs ls hP hz hS hl
  exact lv_icmp_ge hx hb hd ht (fun h => kt h H locs ls hP hz hS hl) (fun h => kf h H locs ls hP hz hS hl)
theorem zj_if_gt (o : zOK X own cc nL d) {x : Int32} {off : Int} {tgt : Nat} (hd : zDD cc pc (.ifCond .gt off) 3 pc') (ht : (pc : Int) + off = (tgt : Int)) (kt : 0 < x → zPJ X cells slots tgt loc stk σ) (kf : ¬ (0 < x) → zPJ X cells slots pc' loc stk σ) : zPJ X cells slots pc loc (.int x :: stk) σ := by
  obtain ⟨p, l, e, R, s, m, args, below, meth, c, Q, b, ex, D, ca⟩ := X
  obtain ⟨hx, hb, hml, hown, hts, hKX, hEX, hbs, hfr, hlr, hlk, hex⟩ := o
  obtain ⟨hd, rfl⟩ := hd
  intro H locs ls hP hz hS hl
  exact lv_if_gt hx hb hd ht (fun h => kt h H locs ls hP hz hS hl) (fun h => kf h H locs ls hP hz hS hl)
theorem zj_icmp_gt (o : zOK X own cc nL d) {x y : Int32} {off : Int} {tgt : Nat} (hd : zDD cc pc (.if_icmp .gt off) 3 pc') (ht : (pc : Int) + off = (tgt : Int)) (kt : y < x → zPJ X cells slots tgt loc stk σ) (kf : ¬ (y < x) → zPJ X cells slots pc' loc stk σ) : zPJ X cells slots pc loc (.int y :: .int x :: stk) σ := by
  obtain ⟨p, l, e, R, s, m, args, below, meth, c, Q, b, ex, D, ca⟩ := X
  obtain ⟨hx, hb, hml, hown, hts, hKX, hEX, hbs, hfr, hlr, hlk, hex⟩ := o
  obtain ⟨hd, rfl⟩ := hd
  intro H locs ls hP hz hS hl
  exact lv_icmp_gt hx hb hd ht (fun h => kt h H locs ls hP hz hS hl) (fun h => kf h H locs ls hP hz hS hl)
theorem zj_if_le (o : zOK X own cc nL d) {x : Int32} {off : Int} {tgt : Nat} (hd : zDD cc pc (.ifCond .le off) 3 pc') (ht : (pc : Int) + off = (tgt : Int)) (kt : x ≤ 0 → zPJ X cells slots tgt loc stk σ) (kf : ¬ (x ≤ 0) → zPJ X cells slots pc' loc stk σ) : zPJ X cells slots pc loc (.int x :: stk) σ := by
  obtain ⟨p, l, e, R, s, m, args, below, meth, c, Q, b, ex, D, ca⟩ := X
  obtain ⟨hx, hb, hml, hown, hts, hKX, hEX, hbs, hfr, hlr, hlk, hex⟩ := o
  obtain ⟨hd, rfl⟩ := hd
  intro H locs ls hP hz hS hl
  exact lv_if_le hx hb hd ht (fun h => kt h H locs ls hP hz hS hl) (fun h => kf h H locs ls hP hz hS hl)
theorem zj_icmp_le (o : zOK X own cc nL d) {x y : Int32} {off : Int} {tgt : Nat} (hd : zDD cc pc (.if_icmp .le off) 3 pc') (ht : (pc : Int) + off = (tgt : Int)) (kt : x ≤ y → zPJ X cells slots tgt loc stk σ) (kf : ¬ (x ≤ y) → zPJ X cells slots pc' loc stk σ) : zPJ X cells slots pc loc (.int y :: .int x :: stk) σ := by
  obtain ⟨p, l, e, R, s, m, args, below, meth, c, Q, b, ex, D, ca⟩ := X
  obtain ⟨hx, hb, hml, hown, hts, hKX, hEX, hbs, hfr, hlr, hlk, hex⟩ := o
  obtain ⟨hd, rfl⟩ := hd
  intro H locs ls hP hz hS hl
  exact lv_icmp_le hx hb hd ht (fun h => kt h H locs ls hP hz hS hl) (fun h => kf h H locs ls hP hz hS hl)
end ZJ
