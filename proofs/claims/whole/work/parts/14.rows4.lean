section ZM
variable {X : zCX} {own : String} {cc : ByteArray} {nL d cells slots pc pc' : Nat} {loc loc' : List (Nat × Value)} {stk : List Value} {σ σ' : zSt}
theorem zj_cpy (o : zOK X own cc nL d) {idx a a2 : Nat} {sp dp n : Int32} (hd : zDD cc pc (.invokestatic idx) 3 pc') (h1 : Cond.methodLink own idx arraycopyName ∈ zTB) (hnat : Cond.native arraycopyName ∈ zTB) (hstat : Cond.static arraycopyName ∈ zTB) (hini : Cond.initialized "java/lang/System" ∈ zTB) (hdd : 1 ≤ d) (hst : (stk.map Value.category).sum ≤ 8)
    (hg : zcpy σ a sp a2 dp n = some σ') (kk : zPJ X cells slots pc' loc stk σ') : zPJ X cells slots pc loc (.int n :: .int dp :: .ref a2 :: .int sp :: .ref a :: stk) σ := by
  obtain ⟨p, l, e, R, s, m, args, below, meth, c, Q, b, ex, D, ca⟩ := X
  obtain ⟨hx, hb, hml, hown, hts, hKX, hEX, hbs, hfr, hlr, hlk, hex⟩ := o
  obtain ⟨hd, rfl⟩ := hd
  unfold zcpy at hg
  split at hg
  · rename_i q q2 hq hq2
    split at hg
    · rename_i hh
      obtain ⟨k1, k2, g1, g2, g3, g4, g5⟩ := hh
      obtain ⟨kd, n0⟩ := q
      obtain ⟨kd2, n1⟩ := q2
      dsimp only at k1 k2 g4 g5
      subst k1; subst k2
      cases hg
      intro H locs ls hP hz hS hl
      have nn : ∀ z : Int32, ¬ z < 0 → z.toInt = (z.toNatClampNeg : Int) := by
        intro z hz
        have hz0 : (0 : Int) ≤ z.toInt := by
          have := Int32.not_lt.mp hz
          simpa using Int32.le_iff_toInt_le.mp this
        show z.toInt = ((z.toInt.toNat : Nat) : Int)
        omega
      have ha0 := zwd_get (b := b) (ca := ca) hq
      have ha1 := zwd_get (b := b) (ca := ca) hq2
      intro T hT X
      have hc0 : H[b + a]? = some (vp_cell (ca 1) (n0, .inl (σ.2.1 a))) := hP a _ ha0
      have hc1 : H[b + a2]? = some (vp_cell (ca 1) (n1, .inl (σ.2.1 a2))) := hP a2 _ ha1
      obtain ⟨-, k0, hk0, cm0, hkk0⟩ := (hKX.1.2 0 _ rfl).1 n0 (fun j => .int (σ.2.1 a j))
      obtain ⟨-, k1, hk1, cm1, hkk1⟩ := (hKX.1.2 0 _ rfl).1 n1 (fun j => .int (σ.2.1 a2 j))
      have hm : ((stk.map (zrv b ex)).map fun v => v.category) = stk.map Value.category := by
        rw [List.map_map]
        exact List.map_congr_left (fun v _ => zcat hex v)
      have h48 : 48 * 1 ≤ 48 * d := Nat.mul_le_mul_left 48 hdd
      obtain ⟨vm', X', step⟩ := X.arraycopy hx hown (hts _ h1) (hts _ hnat) (hts _ hstat) (hts _ hini) (src := b + a) (dst := b + a2) (cs := vp_cell (ca 1) (n0, .inl (σ.2.1 a))) (cd := vp_cell (ca 1) (n1, .inl (σ.2.1 a2))) (srcPos := sp) (destPos := dp) (n := n) (by rw [hT]; exact hc0) (by rw [hT]; exact hc1)
        (fun _ h => by cases h) (fun _ h => by cases h) (fun h => by cases h) (fun h => by cases h) hk0 hk1 hkk0 hkk1 (by simp [show refKind .int = false from rfl]) g1 g2 g3
        (by rw [nn sp g1, nn n g3]; show ¬ _ > ((arrV (ca 1) n0 (fun j => .int (σ.2.1 a j))).slots.size : Int); rw [arrV_size]; omega)
        (by rw [nn dp g2, nn n g3]; show ¬ _ > ((arrV (ca 1) n1 (fun j => .int (σ.2.1 a2 j))).slots.size : Int); rw [arrV_size]; omega)
        (fun vm₁ _ i hi => by
          have e : (vp_cell (ca 1) (n0, .inl (σ.2.1 a))).slots.getD (sp.toNatClampNeg + i) .null = .int (σ.2.1 a (sp.toNatClampNeg + i)) := by
            show (arrV (ca 1) n0 (fun j => .int (σ.2.1 a j))).slots.getD _ _ = _
            rw [Array.getD_eq_getD_getElem?, arrV_read _ _ (by omega)]
            rfl
          refine ⟨?_, ?_⟩
          · rw [e]
            rfl
          · rw [e]
            exact trivial)
        (g := F0 m pc ls (.int n :: .int dp :: .ref (b + a2) :: .int sp :: .ref (b + a) :: stk.map (zrv b ex))) rfl hl.1 (rest := stk.map (zrv b ex)) rfl (by rw [hb]; exact hd) (Nat.le_trans hdd hfr) (by
          show 2 * 0 + _ + _ ≤ _
          rw [hm]
          have : nativeFrameWords "java/lang/System" "arraycopy" 5 + 11 ≤ 40 := by decide +kernel
          omega)
      have e1 : copied (vp_cell (ca 1) (n0, .inl (σ.2.1 a))) (vp_cell (ca 1) (n1, .inl (σ.2.1 a2))) sp dp n = vp_cell (ca 1) (n1, .inl (va_cpy (σ.2.1 a) (σ.2.1 a2) sp.toNatClampNeg dp.toNatClampNeg n.toNatClampNeg)) := va_copied (fun z => .int z) (ca 1) (ca 1) (σ.2.1 a) (σ.2.1 a2) g4
      rw [e1] at X' step
      have hlt : b + a2 < H.size := (Array.getElem?_eq_some_iff.mp hc1).1
      have hheap : ((T.setVm vm').setCell (b + a2) (vp_cell (ca 1) (n1, .inl (va_cpy (σ.2.1 a) (σ.2.1 a2) sp.toNatClampNeg dp.toNatClampNeg n.toNatClampNeg)))).heap = H.setIfInBounds (b + a2) (vp_cell (ca 1) (n1, .inl (va_cpy (σ.2.1 a) (σ.2.1 a2) sp.toNatClampNeg dp.toNatClampNeg n.toNatClampNeg))) := by rw [← hT]; rfl
      have oq : ∀ q : Nat, q ≠ b + a2 → (H.setIfInBounds (b + a2) (vp_cell (ca 1) (n1, .inl (va_cpy (σ.2.1 a) (σ.2.1 a2) sp.toNatClampNeg dp.toNatClampNeg n.toNatClampNeg))))[q]? = H[q]? := fun q hq => by simp [Array.getElem?_setIfInBounds, Ne.symm hq]
      obtain ⟨t, a1, b1⟩ := kk _ _ ls (by
          rw [← zwd_set (b := b) (ca := ca) (σ' := (σ.1, zro σ.2.1 a2 (va_cpy (σ.2.1 a) (σ.2.1 a2) sp.toNatClampNeg dp.toNatClampNeg n.toNatClampNeg), σ.2.2)) hq2 rfl (x := .inl (ca 1, n1, .inl (va_cpy (σ.2.1 a) (σ.2.1 a2) sp.toNatClampNeg dp.toNatClampNeg n.toNatClampNeg))) (by simp [zen, zro_self]) (fun k q hk => zen_cong q (zro_ne _ _ hk) rfl rfl)]
          exact hP.set (zwd_D b ca σ) ha1 (show (H.setIfInBounds (b + a2) _)[b + a2]? = some _ by simp [Array.getElem?_setIfInBounds, hlt]) oq) (by rw [Array.size_setIfInBounds]; exact hz)
        ⟨by simp; exact hS.1, fun q g1 g2 => by
          rw [oq q (fun e => g2 (by rw [e]; exact Nat.le_add_right _ _))]
          exact hS.2.1 q g1 g2, fun q hq => by
          rcases List.mem_append.mp hq with h | h
          · exact hS.2.2 q h
          · obtain ⟨z, -, hz⟩ := List.mem_map.mp h
            rw [← hz]
            exact Nat.le_add_right _ _⟩ hl _ hheap X'
      exact ⟨t, step t a1, b1⟩
    · cases hg
  · cases hg
theorem zj_ldcW (o : zOK X "WantShelves$Scanner" cc nL d) (hd : zDD cc pc (.ldc 71) 2 pc') (kk : zPJ X cells slots pc' loc (.retAddr 1 :: stk) σ) : zPJ X cells slots pc loc stk σ := by
  obtain ⟨p, l, e, R, s, m, args, below, meth, c, Q, b, ex, D, ca⟩ := X
  obtain ⟨hx, hb, hml, hown, hts, hKX, hEX, hbs, hfr, hlr, hlk, hex⟩ := o
  obtain ⟨hd, rfl⟩ := hd
  intro H locs ls hP hz hS hl
  obtain ⟨adK, adV, ⟨h1, h2, h3, h4, -⟩, h5, h6, h7, -⟩ := hEX
  refine va_ldcS hx hb hown h6 hd ?_
  have hk := kk H locs ls hP hz hS hl
  rw [show (Value.retAddr 1 :: stk).map (zrv b ex) = ex 1 :: stk.map (zrv b ex) from rfl, h1] at hk
  exact hk
theorem zj_ldcG (o : zOK X "WantShelves$Scanner" cc nL d) (hd : zDD cc pc (.ldc 51) 2 pc') (kk : zPJ X cells slots pc' loc (.retAddr 2 :: stk) σ) : zPJ X cells slots pc loc stk σ := by
  obtain ⟨p, l, e, R, s, m, args, below, meth, c, Q, b, ex, D, ca⟩ := X
  obtain ⟨hx, hb, hml, hown, hts, hKX, hEX, hbs, hfr, hlr, hlk, hex⟩ := o
  obtain ⟨hd, rfl⟩ := hd
  intro H locs ls hP hz hS hl
  obtain ⟨adK, adV, ⟨h1, h2, h3, h4, -⟩, h5, h6, h7, -⟩ := hEX
  refine va_ldcS hx hb hown h7 hd ?_
  have hk := kk H locs ls hP hz hS hl
  rw [show (Value.retAddr 2 :: stk).map (zrv b ex) = ex 2 :: stk.map (zrv b ex) from rfl, h2] at hk
  exact hk
/-- String.coder of a text -/
theorem zj_xcoder (o : zOK X own cc nL d) {idx j : Nat} (hd : zDD cc pc (.getfield idx) 3 pc') (hw : Cond.fieldLink own idx "java/lang/String" "coder" "B" ∈ zTB) (hj : j = 1 ∨ j = 2) (kk : zPJ X cells slots pc' loc (.int 0 :: stk) σ) : zPJ X cells slots pc loc (.retAddr j :: stk) σ := by
  obtain ⟨p, l, e, R, s, m, args, below, meth, c, Q, b, ex, D, ca⟩ := X
  obtain ⟨hx, hb, hml, hown, hts, hKX, hEX, hbs, hfr, hlr, hlk, hex⟩ := o
  obtain ⟨hd, rfl⟩ := hd
  intro H locs ls hP hz hS hl
  obtain ⟨adK, adV, ⟨h1, h2, h3, h4, -⟩, h5, -⟩ := hEX
  have hk := kk H locs ls hP hz hS hl
  rcases hj with rfl | rfl
  · rw [show (Value.retAddr 1 :: stk).map (zrv b ex) = ex 1 :: stk.map (zrv b ex) from rfl, h1]
    exact vk_getf hx hb (h5.1 0 (by decide)).2.1 hS hown (hts _ hw) (fun _ h => h) hd hk
  · rw [show (Value.retAddr 2 :: stk).map (zrv b ex) = ex 2 :: stk.map (zrv b ex) from rfl, h2]
    exact vk_getf hx hb (h5.1 1 (by decide)).2.1 hS hown (hts _ hw) (fun _ h => h) hd hk
/-- String.value of a text -/
theorem zj_xvalue (o : zOK X own cc nL d) {idx j : Nat} (hd : zDD cc pc (.getfield idx) 3 pc') (hw : Cond.fieldLink own idx "java/lang/String" "value" "[B" ∈ zTB) (hj : j = 1 ∨ j = 2) (kk : zPJ X cells slots pc' loc (.retAddr (j + 2) :: stk) σ) : zPJ X cells slots pc loc (.retAddr j :: stk) σ := by
  obtain ⟨p, l, e, R, s, m, args, below, meth, c, Q, b, ex, D, ca⟩ := X
  obtain ⟨hx, hb, hml, hown, hts, hKX, hEX, hbs, hfr, hlr, hlk, hex⟩ := o
  obtain ⟨hd, rfl⟩ := hd
  intro H locs ls hP hz hS hl
  obtain ⟨adK, adV, ⟨h1, h2, h3, h4, -⟩, h5, -⟩ := hEX
  have hk := kk H locs ls hP hz hS hl
  rcases hj with rfl | rfl
  · rw [show (Value.retAddr 1 :: stk).map (zrv b ex) = ex 1 :: stk.map (zrv b ex) from rfl, h1]
    rw [show (Value.retAddr (1 + 2) :: stk).map (zrv b ex) = ex 3 :: stk.map (zrv b ex) from rfl, h3] at hk
    exact vk_getf hx hb (h5.1 0 (by decide)).2.2.1 hS hown (hts _ hw) (fun _ h => h) hd hk
  · rw [show (Value.retAddr 2 :: stk).map (zrv b ex) = ex 2 :: stk.map (zrv b ex) from rfl, h2]
    rw [show (Value.retAddr (2 + 2) :: stk).map (zrv b ex) = ex 4 :: stk.map (zrv b ex) from rfl, h4] at hk
    exact vk_getf hx hb (h5.1 1 (by decide)).2.2.1 hS hown (hts _ hw) (fun _ h => h) hd hk
/-- the bytes of a text: how many -/
def zxlen (j : Nat) : Option Int32 := if j = 3 then some 184 else if j = 4 then some 11 else none
theorem zj_xlen (o : zOK X own cc nL d) {j : Nat} {v : Int32} (hd : zDD cc pc .arraylength 1 pc') (hg : zxlen j = some v) (kk : zPJ X cells slots pc' loc (.int v :: stk) σ) : zPJ X cells slots pc loc (.retAddr j :: stk) σ := by
  obtain ⟨p, l, e, R, s, m, args, below, meth, c, Q, b, ex, D, ca⟩ := X
  obtain ⟨hx, hb, hml, hown, hts, hKX, hEX, hbs, hfr, hlr, hlk, hex⟩ := o
  obtain ⟨hd, rfl⟩ := hd
  intro H locs ls hP hz hS hl
  obtain ⟨adK, adV, ⟨h1, h2, h3, h4, -⟩, h5, -⟩ := hEX
  have hk := kk H locs ls hP hz hS hl
  unfold zxlen at hg
  split at hg
  · rename_i hj
    subst hj
    cases hg
    rw [show (Value.retAddr 3 :: stk).map (zrv b ex) = ex 3 :: stk.map (zrv b ex) from rfl, h3]
    exact va_tlen hx hb (h5.1 0 (by decide)).2.2.2 hS rfl hd hk
  · split at hg
    · rename_i hj
      subst hj
      cases hg
      rw [show (Value.retAddr 4 :: stk).map (zrv b ex) = ex 4 :: stk.map (zrv b ex) from rfl, h4]
      exact va_tlen hx hb (h5.1 1 (by decide)).2.2.2 hS rfl hd hk
    · cases hg
/-- the bytes of a text: one of them -/
def zxb (j : Nat) (i : Int32) : Option Int32 := if j = 3 then (if zin i 184 = true then some ((zsb.getD 0 []).getD i.toNatClampNeg 0) else none) else if j = 4 then (if zin i 11 = true then some ((zsb.getD 1 []).getD i.toNatClampNeg 0) else none) else none
theorem zj_xbald (o : zOK X own cc nL d) {j : Nat} {i v : Int32} (hd : zDD cc pc .baload 1 pc') (hg : zxb j i = some v) (kk : zPJ X cells slots pc' loc (.int v :: stk) σ) : zPJ X cells slots pc loc (.int i :: .retAddr j :: stk) σ := by
  obtain ⟨p, l, e, R, s, m, args, below, meth, c, Q, b, ex, D, ca⟩ := X
  obtain ⟨hx, hb, hml, hown, hts, hKX, hEX, hbs, hfr, hlr, hlk, hex⟩ := o
  obtain ⟨hd, rfl⟩ := hd
  intro H locs ls hP hz hS hl
  obtain ⟨adK, adV, ⟨h1, h2, h3, h4, -⟩, h5, -⟩ := hEX
  have hk := kk H locs ls hP hz hS hl
  unfold zxb at hg
  split at hg
  · rename_i hj
    subst hj
    split at hg
    · rename_i hin
      cases hg
      rw [show (Value.int i :: Value.retAddr 3 :: stk).map (zrv b ex) = .int i :: ex 3 :: stk.map (zrv b ex) from rfl, h3]
      exact va_tb hx hb (h5.1 0 (by decide)).2.2.2 hS (zin_vp hin) rfl hd hk
    · cases hg
  · split at hg
    · rename_i hj
      subst hj
      split at hg
      · rename_i hin
        cases hg
        rw [show (Value.int i :: Value.retAddr 4 :: stk).map (zrv b ex) = .int i :: ex 4 :: stk.map (zrv b ex) from rfl, h4]
        exact va_tb hx hb (h5.1 1 (by decide)).2.2.2 hS (zin_vp hin) rfl hd hk
      · cases hg
    · cases hg
theorem zj_gsC (o : zOK X own cc nL d) {idx : Nat} (hd : zDD cc pc (.getstatic idx) 3 pc') (hw : Cond.fieldLink own idx "java/lang/String" "COMPACT_STRINGS" "Z" ∈ zTB) (kk : zPJ X cells slots pc' loc (.int 1 :: stk) σ) : zPJ X cells slots pc loc stk σ := by
  obtain ⟨p, l, e, R, s, m, args, below, meth, c, Q, b, ex, D, ca⟩ := X
  obtain ⟨hx, hb, hml, hown, hts, hKX, hEX, hbs, hfr, hlr, hlk, hex⟩ := o
  obtain ⟨hd, rfl⟩ := hd
  intro H locs ls hP hz hS hl
  obtain ⟨adK, adV, -, -, -, -, h5, -⟩ := hEX
  exact va_gets hx hb h5 hS hown (hts _ hw) (fun _ h => h) hd (kk H locs ls hP hz hS hl)
theorem zj_gsF (o : zOK X own cc nL d) {idx : Nat} (hd : zDD cc pc (.getstatic idx) 3 pc') (hw : Cond.fieldLink own idx "jdk/internal/util/Preconditions" "SIOOBE_FORMATTER" "Ljava/util/function/BiFunction;" ∈ zTB) (kk : zPJ X cells slots pc' loc (.retAddr 5 :: stk) σ) : zPJ X cells slots pc loc stk σ := by
  obtain ⟨p, l, e, R, s, m, args, below, meth, c, Q, b, ex, D, ca⟩ := X
  obtain ⟨hx, hb, hml, hown, hts, hKX, hEX, hbs, hfr, hlr, hlk, hex⟩ := o
  obtain ⟨hd, rfl⟩ := hd
  intro H locs ls hP hz hS hl
  obtain ⟨adK, adV, -, -, -, -, -, h5⟩ := hEX
  exact va_gets hx hb h5 hS hown (hts _ hw) (fun _ h => h) hd (kk H locs ls hP hz hS hl)
-- ===== switches =====
/-- where a table's row leads -/
def ztab (lo : Int) (tgts : List Nat) (dflt : Nat) (x : Int32) : Nat := if x.toInt < lo then dflt else tgts.getD (x.toInt - lo).toNat dflt
theorem zj_table (o : zOK X own cc nL d) {x : Int32} {dflt lo hi : Int} {offs : Array Int} {len dt : Nat} {tgts : List Nat} (hd : zDD cc pc (.tableswitch dflt lo hi offs) len pc') (hdt : (pc : Int) + dflt = (dt : Int)) (hlen : hi - lo + 1 = (tgts.length : Int)) (hoffs : offs.toList.map (fun q => (pc : Int) + q) = tgts.map (fun q : Nat => (q : Int)))
    (kk : zPJ X cells slots (ztab lo tgts dt x) loc stk σ) : zPJ X cells slots pc loc (.int x :: stk) σ := by
  obtain ⟨p, l, e, R, s, m, args, below, meth, c, Q, b, ex, D, ca⟩ := X
  obtain ⟨hx, hb, hml, hown, hts, hKX, hEX, hbs, hfr, hlr, hlk, hex⟩ := o
  obtain ⟨hd, rfl⟩ := hd
  intro H locs ls hP hz hS hl
  have hk := kk H locs ls hP hz hS hl
  unfold ztab at hk
  by_cases h1 : x.toInt < lo
  · rw [if_pos h1] at hk
    exact lv_tableOut hx hb hd (Or.inl h1) hdt hk
  · rw [if_neg h1] at hk
    by_cases h2 : hi < x.toInt
    · rw [List.getD_eq_getElem?_getD, List.getElem?_eq_none (by omega)] at hk
      exact lv_tableOut hx hb hd (Or.inr h2) hdt hk
    · have hlt : (x.toInt - lo).toNat < tgts.length := by omega
      have hl2 : offs.size = tgts.length := by
        have := congrArg List.length hoffs
        simpa using this
      have hlo : (x.toInt - lo).toNat < offs.size := by omega
      have he : (pc : Int) + offs[(x.toInt - lo).toNat] = (tgts[(x.toInt - lo).toNat] : Int) := by
        have h3 := congrArg (fun l => l[(x.toInt - lo).toNat]?) hoffs
        simp only [List.getElem?_map] at h3
        rw [List.getElem?_eq_getElem (by simpa using hlo), List.getElem?_eq_getElem hlt] at h3
        simpa using h3
      refine lv_tableIn hx hb hd h1 h2 (Array.getElem?_eq_getElem hlo) he ?_
      rw [List.getD_eq_getElem?_getD, List.getElem?_eq_getElem hlt] at hk
      exact hk
/-- where a lookup leads -/
def zlook (ps : List (Int × Nat)) (dflt : Nat) (x : Int) : Nat := match ps with
  | [] => dflt
  | q :: ps => if x = q.1 then q.2 else zlook ps dflt x
theorem zj_lookup (o : zOK X own cc nL d) {x : Int32} {dflt : Int} {ps : Array (Int × Int)} {len tgt : Nat} (hd : zDD cc pc (.lookupswitch dflt ps) len pc') (hp : (ps.toList.zip (ps.toList.drop 1)).all (fun (a, next) => a.1 < next.1) = true) (ht : (pc : Int) + Op.lookupswitch.offset ps.toList dflt x.toInt = (tgt : Int))
    (kk : zPJ X cells slots tgt loc stk σ) : zPJ X cells slots pc loc (.int x :: stk) σ := by
  obtain ⟨p, l, e, R, s, m, args, below, meth, c, Q, b, ex, D, ca⟩ := X
  obtain ⟨hx, hb, hml, hown, hts, hKX, hEX, hbs, hfr, hlr, hlk, hex⟩ := o
  obtain ⟨hd, rfl⟩ := hd
  intro H locs ls hP hz hS hl
  exact lv_lookup hx hb hd hp rfl ht (kk H locs ls hP hz hS hl)
theorem zj_ret (o : zOK X own cc nL d) {r : Option Value} {i : Instr} (hd : zDD cc pc i 1 pc') (hi : match r with | none => i = .return_ | some (.int _) => i = .ireturn | some (.long _) => i = .lreturn | _ => False) (hr : zRX X cells slots r σ) (hst : stk = r.toList) : zPJ X cells slots pc loc stk σ := by
  obtain ⟨p, l, e, R, s, m, args, below, meth, c, Q, b, ex, D, ca⟩ := X
  obtain ⟨hx, hb, hml, hown, hts, hKX, hEX, hbs, hfr, hlr, hlk, hex⟩ := o
  obtain ⟨hd, rfl⟩ := hd
  subst hst
  intro H locs ls hP hz hS hl
  exact hr H locs ls pc i hP hz hS hi (by rw [hb]; exact hd)
end ZM
