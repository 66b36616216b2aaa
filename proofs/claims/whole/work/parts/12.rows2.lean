section ZK
variable {X : zCX} {own : String} {cc : ByteArray} {nL d cells slots pc pc' : Nat} {loc loc' : List (Nat × Value)} {stk : List Value} {σ σ' : zSt}
def zfk (c k : Nat) : Nat := match zty c k with
  | .long => 1
  | .array _ => 2
  | .object _ => 2
  | _ => 0
theorem zfv_i {b : Nat} {c a k : Nat} (h : zfk c k = 0) : zfv b σ c a k = .int (σ.2.1 a k) := by
  revert h
  unfold zfk zfv
  cases zty c k <;> intro h <;> first | rfl | (simp at h)
theorem zfv_l {b : Nat} {c a k : Nat} (h : zfk c k = 1) : zfv b σ c a k = .long (σ.2.2.1 a k) := by
  revert h
  unfold zfk zfv
  cases zty c k <;> intro h <;> first | rfl | (simp at h)
theorem zfv_p {b : Nat} {c a k : Nat} (h : zfk c k = 2) : zfv b σ c a k = va_rf ((σ.2.2.2 a k).map (b + ·)) := by
  revert h
  unfold zfk zfv
  cases zty c k <;> intro h <;> first | rfl | (simp at h)
theorem zfs_get {b c a k : Nat} (hk : k < zN c) : ((List.range (zN c)).map (zfv b σ c a))[k]? = some (zfv b σ c a k) := by
  simp [hk]
theorem zfs_set {b c a k : Nat} {v : Value} (hk : k < zN c) (h1 : zfv b σ' c a k = v) (h2 : ∀ j, j ≠ k → zfv b σ' c a j = zfv b σ c a j) : ((List.range (zN c)).map (zfv b σ c a)).set k v = (List.range (zN c)).map (zfv b σ' c a) := by
  apply List.ext_getElem?
  intro j
  by_cases hj : j = k
  · subst hj
    rw [List.getElem?_set_self (by simpa using hk)]
    simp [hk, h1]
  · rw [List.getElem?_set_ne (Ne.symm hj)]
    simp only [List.getElem?_map]
    cases hr : (List.range (zN c))[j]? with
    | none => rfl
    | some y =>
      have : y = j := by
        have := List.getElem?_eq_some_iff.mp hr
        obtain ⟨h3, h4⟩ := this
        simpa using h4.symm
      subst this
      simp [h2 y hj]
theorem zok_of {kd a : Nat} {i : Int32} (h : zok σ kd a i = true) : ∃ n, σ.1[a]? = some (kd, n) ∧ vp_in i n := by
  unfold zok at h
  split at h
  · rename_i q hq
    obtain ⟨k2, n⟩ := q
    simp only [Bool.and_eq_true, beq_iff_eq] at h
    obtain ⟨h1, h2⟩ := h
    subst h1
    exact ⟨n, hq, zin_vp h2⟩
  · cases h
theorem zj_gI (o : zOK X own cc nL d) {idx f a k : Nat} {v : Int32} (hd : zDD cc pc (.getfield idx) 3 pc') (hf : zFL own idx f k) (hk : zfk f k = 0) (hg : zgI σ f a k = some v) (kk : zPJ X cells slots pc' loc (.int v :: stk) σ) : zPJ X cells slots pc loc (.ref a :: stk) σ := by
  obtain ⟨p, l, e, R, s, m, args, below, meth, c, Q, b, ex, D, ca⟩ := X
  obtain ⟨hx, hb, hml, hown, hts, hKX, hEX, hbs, hfr, hlr, hlk, hex⟩ := o
  obtain ⟨hd, rfl⟩ := hd
  obtain ⟨hc, hkN, hw⟩ := hf
  unfold zgI at hg
  split at hg
  · rename_i hq
    intro H locs ls hP hz hS hl
    refine va_get (D := D) (ci := f) (C := zR f) (T := zT f) (N := zN f) (ref := (zT f k).1) (index := idx) hx hb hts (zu f hc) hown hKX.1 hP a (zwd_get hq) (zcl hc) k hkN (hts _ hw) (fun _ h => h) (v := zrv b ex (.int v)) ?_ hd (kk H locs ls hP hz hS hl)
    rw [zfs_get hkN, zfv_i hk]
    cases hg; rfl
  · cases hg
theorem zj_gJ (o : zOK X own cc nL d) {idx f a k : Nat} {v : Int64} (hd : zDD cc pc (.getfield idx) 3 pc') (hf : zFL own idx f k) (hk : zfk f k = 1) (hg : zgJ σ f a k = some v) (kk : zPJ X cells slots pc' loc (.long v :: stk) σ) : zPJ X cells slots pc loc (.ref a :: stk) σ := by
  obtain ⟨p, l, e, R, s, m, args, below, meth, c, Q, b, ex, D, ca⟩ := X
  obtain ⟨hx, hb, hml, hown, hts, hKX, hEX, hbs, hfr, hlr, hlk, hex⟩ := o
  obtain ⟨hd, rfl⟩ := hd
  obtain ⟨hc, hkN, hw⟩ := hf
  unfold zgJ at hg
  split at hg
  · rename_i hq
    intro H locs ls hP hz hS hl
    refine va_get (D := D) (ci := f) (C := zR f) (T := zT f) (N := zN f) (ref := (zT f k).1) (index := idx) hx hb hts (zu f hc) hown hKX.1 hP a (zwd_get hq) (zcl hc) k hkN (hts _ hw) (fun _ h => h) (v := zrv b ex (.long v)) ?_ hd (kk H locs ls hP hz hS hl)
    rw [zfs_get hkN, zfv_l hk]
    cases hg; rfl
  · cases hg
theorem zj_gP (o : zOK X own cc nL d) {idx f a k : Nat} {v : Nat} (hd : zDD cc pc (.getfield idx) 3 pc') (hf : zFL own idx f k) (hk : zfk f k = 2) (hg : zgP σ f a k = some v) (kk : zPJ X cells slots pc' loc (.ref v :: stk) σ) : zPJ X cells slots pc loc (.ref a :: stk) σ := by
  obtain ⟨p, l, e, R, s, m, args, below, meth, c, Q, b, ex, D, ca⟩ := X
  obtain ⟨hx, hb, hml, hown, hts, hKX, hEX, hbs, hfr, hlr, hlk, hex⟩ := o
  obtain ⟨hd, rfl⟩ := hd
  obtain ⟨hc, hkN, hw⟩ := hf
  unfold zgP at hg
  split at hg
  · rename_i hq
    intro H locs ls hP hz hS hl
    refine va_get (D := D) (ci := f) (C := zR f) (T := zT f) (N := zN f) (ref := (zT f k).1) (index := idx) hx hb hts (zu f hc) hown hKX.1 hP a (zwd_get hq) (zcl hc) k hkN (hts _ hw) (fun _ h => h) (v := zrv b ex (.ref v)) ?_ hd (kk H locs ls hP hz hS hl)
    rw [zfs_get hkN, zfv_p hk]
    simp only [hg, Option.map_some]; rfl
  · cases hg
theorem zput_core {p : Program} {l : Launch} {e : Env} {R : Room} {s : State} {m : MethodId} {args : Array Value} {below : List Frame} {meth : Method} {c : Code} {Q : State → Prop} {b : Nat} {D : va_G} {ca : Nat → ClassId} {H : Heap} {locs : List Loc} {ls : Array Slot} {rest : List Value} {f a k idx : Nat} {v : Value} {σ σ' : zSt}
    (hx : p.tables.exec = Jvm.exec) (hb : c.code = cc) (hown : s.vm.findClass own = some m.cls) (hts : ∀ w ∈ zTB, w.before args s = true) (hK : va_K D zCl (ztys ca) s) (hP : va_P D zCl (zwd b ca σ) H) (hS : va_S (fun q => b ≤ q) s.heap H locs)
    (hf : zFL own idx f k) (hq : σ.1[a]? = some (0, f)) (hfin : (zT f k).2.2.2 = false ∨ ((zT f k).2.2.2 = true ∧ meth.name = "<init>" ∧ (zT f k).1 = own)) (hn : narrow (zty f k) v = v) (hfit : fits (zty f k) v = true) (hd : decode cc pc = .ok (.putfield idx, 3))
    (hL : σ'.1 = σ.1) (hv : zfv b σ' f a k = v) (ho : ∀ j, j ≠ k → zfv b σ' f a j = zfv b σ f a j) (hoo : ∀ k q, k ≠ a → zen b ca σ' k q = zen b ca σ k q)
    (kk : ∀ (H1 : Heap) (locs1 : List Loc), va_P D zCl (zwd b ca σ') H1 → H1.size = H.size → va_S (fun q => b ≤ q) s.heap H1 locs1 → W p l e R s m args below meth c H1 locs1 cells slots Q (F0 m (pc + 3) ls rest)) : W p l e R s m args below meth c H locs cells slots Q (F0 m pc ls (v :: .ref (b + a) :: rest)) := by
  obtain ⟨hc, hk, hw⟩ := hf
  have he := zwd_get (b := b) (ca := ca) hq
  have hcl := zcl hc
  have hap := va_apart (own := own) hts (zu f hc) (zty f) (zyo f hc) (znm f hc) hK hcl
  obtain ⟨r, h1, cell, q1, q2, q3, q4⟩ := hP a _ he
  have hr : r = (zR f, zT f, zN f) := Option.some.inj (h1.symm.trans hcl)
  subst hr
  obtain ⟨hSl, hfc, kC, hkC, hkind⟩ := hK.1 f _ hcl
  obtain ⟨cf, kf, fi, fd, hi, hsl⟩ := hSl k hk
  have hlay := hts _ (zu f hc _ (u_in_lay hk))
  unfold u_lay at hlay
  have hst := (u_facts hfc hkC (u_lays hts (zu f hc) hk) hi).1
  have hl2 : k < ((List.range (zN f)).map (zfv b σ f a)).length := by simpa using hk
  have fin : ∀ (H' : Heap) (locs' : List Loc), H'[b + a]? = some (cell.setSlot (D.2 f k) v) → H'.size = H.size → (∀ q, q ≠ b + a → H'[q]? = H[q]?) → va_P D zCl (zwd b ca σ') H' := by
    intro H' locs' e1 e2 e3
    rw [← zwd_set hq hL (x := .inr (f, ((List.range (zN f)).map (zfv b σ f a)).set k v)) (by rw [zfs_set hk hv ho]; rfl) hoo]
    exact hP.set (zwd_D b ca σ) he ⟨_, hcl, t_OB.to (V := updV (vp_V ((List.range (zN f)).map (zfv b σ f a))) k v) ⟨_, e1, q2, q3, t_set q4 hap hk v⟩ (fun j _ => vp_updV_set hl2 v j)⟩ e3
  rcases hfin with hfin | ⟨hfin, hin2, hdecl⟩
  · rw [if_neg (by rw [hfin]; decide)] at hlay
    have h6 := u_store hfc hkC hkind hlay hi (zyo f hc k hk) hn hfit
    refine W.putK hx hb (f := fd) ⟨hown, hts _ hw, ⟨_, _, _, hi⟩, hst⟩ (by rw [q2]; exact h6) q1 q3 (by rw [hsl]; exact k2_hasslot (q4 k hk)) rfl rfl hd fun H' e1 e2 e3 => ?_
    rw [hsl] at e1 ⊢
    exact kk H' _ (fin H' [] e1 e2 e3) e2 (hS.put e2 e3 (Nat.le_add_right _ _))
  · rw [if_pos hfin] at hlay
    have hcf : m.cls = cf := by
      obtain ⟨_, _, c', _, _, _, -, -, hf', -, -, -, hown2, -⟩ := Cond.laysFinal_spec hlay
      have e1 : c' = cf := by have := hi.symm.trans hf'; simp at this; exact this.1.symm
      rw [hdecl] at hown2
      rw [← e1]; exact Option.some.inj (hown.symm.trans hown2)
    have h6 := u_fits hfc hkC hkind (Or.inr hlay) hi (zyo f hc k hk) hn hfit
    refine W.putFinK hx hb hown (hts _ hw) hi hst hcf hin2 (by rw [q2]; exact h6) q1 q3 (by rw [hsl]; exact k2_hasslot (q4 k hk)) rfl rfl hd fun H' e1 e2 e3 => ?_
    rw [hsl] at e1 ⊢
    exact kk H' _ (fin H' [] e1 e2 e3) e2 (hS.put e2 e3 (Nat.le_add_right _ _))
/-- the method is a constructor -/
def zIN (X : zCX) : Prop := match X with
  | (_, _, _, _, _, _, _, _, meth, _, _, _, _, _, _) => meth.name = "<init>"

theorem zj_pI (o : zOK X own cc nL d) {idx f a k : Nat} {v : Int32} (hd : zDD cc pc (.putfield idx) 3 pc') (hf : zFL own idx f k) (hy : zty f k = .int) (hfin : (zT f k).2.2.2 = false) (hg : zsI σ f a k v = some σ') (kk : zPJ X cells slots pc' loc stk σ') : zPJ X cells slots pc loc (.int v :: .ref a :: stk) σ := by
  obtain ⟨p, l, e, R, s, m, args, below, meth, c, Q, b, ex, D, ca⟩ := X
  obtain ⟨hx, hb, hml, hown, hts, hKX, hEX, hbs, hfr, hlr, hlk, hex⟩ := o
  obtain ⟨hd, rfl⟩ := hd
  unfold zsI at hg
  split at hg
  · rename_i hq
    cases hg
    intro H locs ls hP hz hS hl
    have hk0 : zfk f k = 0 := by unfold zfk; rw [hy]
    refine zput_core (σ' := (σ.1, zup σ.2.1 a k v, σ.2.2)) (v := .int v) hx hb hown hts hKX.1 hP hS hf hq (Or.inl hfin) ?_ ?_ hd rfl ?_ ?_ ?_ (fun H1 locs1 h1 h2 h3 => kk H1 locs1 ls h1 (h2.trans hz) h3 hl)
    · rw [hy]; rfl
    · rw [hy]; rfl
    · rw [zfv_i hk0]; show Value.int (zup σ.2.1 a k v a k) = _; rw [zup_self, va_up_self]
    · intro j hj; unfold zfv; simp only [zup_self, va_up_ne _ _ hj]
    · intro x q hx2; exact zen_cong q (zup_ne _ _ _ hx2) rfl rfl
  · cases hg
theorem zj_pZ (o : zOK X own cc nL d) {idx f a k : Nat} {v : Int32} (hd : zDD cc pc (.putfield idx) 3 pc') (hf : zFL own idx f k) (hy : zty f k = .boolean) (hv : v = 0 ∨ v = 1) (hfin : (zT f k).2.2.2 = false) (hg : zsI σ f a k v = some σ') (kk : zPJ X cells slots pc' loc stk σ') : zPJ X cells slots pc loc (.int v :: .ref a :: stk) σ := by
  obtain ⟨p, l, e, R, s, m, args, below, meth, c, Q, b, ex, D, ca⟩ := X
  obtain ⟨hx, hb, hml, hown, hts, hKX, hEX, hbs, hfr, hlr, hlk, hex⟩ := o
  obtain ⟨hd, rfl⟩ := hd
  unfold zsI at hg
  split at hg
  · rename_i hq
    cases hg
    intro H locs ls hP hz hS hl
    have hk0 : zfk f k = 0 := by unfold zfk; rw [hy]
    refine zput_core (σ' := (σ.1, zup σ.2.1 a k v, σ.2.2)) (v := .int v) hx hb hown hts hKX.1 hP hS hf hq (Or.inl hfin) ?_ ?_ hd rfl ?_ ?_ ?_ (fun H1 locs1 h1 h2 h3 => kk H1 locs1 ls h1 (h2.trans hz) h3 hl)
    · rw [hy]; rcases hv with rfl | rfl <;> rfl
    · rw [hy]; rcases hv with rfl | rfl <;> rfl
    · rw [zfv_i hk0]; show Value.int (zup σ.2.1 a k v a k) = _; rw [zup_self, va_up_self]
    · intro j hj; unfold zfv; simp only [zup_self, va_up_ne _ _ hj]
    · intro x q hx2; exact zen_cong q (zup_ne _ _ _ hx2) rfl rfl
  · cases hg
theorem zj_pJ (o : zOK X own cc nL d) {idx f a k : Nat} {v : Int64} (hd : zDD cc pc (.putfield idx) 3 pc') (hf : zFL own idx f k) (hy : zty f k = .long) (hfin : (zT f k).2.2.2 = false) (hg : zsJ σ f a k v = some σ') (kk : zPJ X cells slots pc' loc stk σ') : zPJ X cells slots pc loc (.long v :: .ref a :: stk) σ := by
  obtain ⟨p, l, e, R, s, m, args, below, meth, c, Q, b, ex, D, ca⟩ := X
  obtain ⟨hx, hb, hml, hown, hts, hKX, hEX, hbs, hfr, hlr, hlk, hex⟩ := o
  obtain ⟨hd, rfl⟩ := hd
  unfold zsJ at hg
  split at hg
  · rename_i hq
    cases hg
    intro H locs ls hP hz hS hl
    have hk0 : zfk f k = 1 := by unfold zfk; rw [hy]
    refine zput_core (σ' := (σ.1, σ.2.1, zup σ.2.2.1 a k v, σ.2.2.2)) (v := .long v) hx hb hown hts hKX.1 hP hS hf hq (Or.inl hfin) ?_ ?_ hd rfl ?_ ?_ ?_ (fun H1 locs1 h1 h2 h3 => kk H1 locs1 ls h1 (h2.trans hz) h3 hl)
    · rw [hy]; rfl
    · rw [hy]; rfl
    · rw [zfv_l hk0]; show Value.long (zup σ.2.2.1 a k v a k) = _; rw [zup_self, va_up_self]
    · intro j hj; unfold zfv; simp only [zup_self, va_up_ne _ _ hj]
    · intro x q hx2; exact zen_cong q rfl (zup_ne _ _ _ hx2) rfl
  · cases hg
theorem zj_pP (o : zOK X own cc nL d) {idx f a k : Nat} {v : Nat} (hd : zDD cc pc (.putfield idx) 3 pc') (hf : zFL own idx f k) (hy : (∃ n, zty f k = .object n) ∨ ∃ t, zty f k = .array t) (hfin : (zT f k).2.2.2 = false) (hg : zsP σ f a k v = some σ') (kk : zPJ X cells slots pc' loc stk σ') : zPJ X cells slots pc loc (.ref v :: .ref a :: stk) σ := by
  obtain ⟨p, l, e, R, s, m, args, below, meth, c, Q, b, ex, D, ca⟩ := X
  obtain ⟨hx, hb, hml, hown, hts, hKX, hEX, hbs, hfr, hlr, hlk, hex⟩ := o
  obtain ⟨hd, rfl⟩ := hd
  unfold zsP at hg
  split at hg
  · rename_i hq
    cases hg
    intro H locs ls hP hz hS hl
    have hk0 : zfk f k = 2 := by rcases hy with ⟨n, hy⟩ | ⟨n, hy⟩ <;> (unfold zfk; rw [hy])
    refine zput_core (σ' := (σ.1, σ.2.1, σ.2.2.1, zup σ.2.2.2 a k (some v))) (v := .ref (b + v)) hx hb hown hts hKX.1 hP hS hf hq (Or.inl hfin) ?_ ?_ hd rfl ?_ ?_ ?_ (fun H1 locs1 h1 h2 h3 => kk H1 locs1 ls h1 (h2.trans hz) h3 hl)
    · rcases hy with ⟨n, hy⟩ | ⟨n, hy⟩ <;> (rw [hy]; rfl)
    · rcases hy with ⟨n, hy⟩ | ⟨n, hy⟩ <;> (rw [hy]; rfl)
    · rw [zfv_p hk0]; show va_rf ((zup σ.2.2.2 a k (some v) a k).map _) = _; rw [zup_self, va_up_self]; rfl
    · intro j hj; unfold zfv; simp only [zup_self, va_up_ne _ _ hj]
    · intro x q hx2; exact zen_cong q rfl rfl (zup_ne _ _ _ hx2)
  · cases hg
theorem zj_fP (o : zOK X own cc nL d) {idx f a k : Nat} {v : Nat} (hd : zDD cc pc (.putfield idx) 3 pc') (hf : zFL own idx f k) (hy : (∃ n, zty f k = .object n) ∨ ∃ t, zty f k = .array t) (hin : zIN X) (hfin : (zT f k).2.2.2 = true) (hdecl : (zT f k).1 = own) (hg : zsP σ f a k v = some σ') (kk : zPJ X cells slots pc' loc stk σ') : zPJ X cells slots pc loc (.ref v :: .ref a :: stk) σ := by
  obtain ⟨p, l, e, R, s, m, args, below, meth, c, Q, b, ex, D, ca⟩ := X
  obtain ⟨hx, hb, hml, hown, hts, hKX, hEX, hbs, hfr, hlr, hlk, hex⟩ := o
  obtain ⟨hd, rfl⟩ := hd
  unfold zsP at hg
  split at hg
  · rename_i hq
    cases hg
    intro H locs ls hP hz hS hl
    have hk0 : zfk f k = 2 := by rcases hy with ⟨n, hy⟩ | ⟨n, hy⟩ <;> (unfold zfk; rw [hy])
    refine zput_core (σ' := (σ.1, σ.2.1, σ.2.2.1, zup σ.2.2.2 a k (some v))) (v := .ref (b + v)) hx hb hown hts hKX.1 hP hS hf hq (Or.inr ⟨hfin, hin, hdecl⟩) ?_ ?_ hd rfl ?_ ?_ ?_ (fun H1 locs1 h1 h2 h3 => kk H1 locs1 ls h1 (h2.trans hz) h3 hl)
    · rcases hy with ⟨n, hy⟩ | ⟨n, hy⟩ <;> (rw [hy]; rfl)
    · rcases hy with ⟨n, hy⟩ | ⟨n, hy⟩ <;> (rw [hy]; rfl)
    · rw [zfv_p hk0]; show va_rf ((zup σ.2.2.2 a k (some v) a k).map _) = _; rw [zup_self, va_up_self]; rfl
    · intro j hj; unfold zfv; simp only [zup_self, va_up_ne _ _ hj]
    · intro x q hx2; exact zen_cong q rfl rfl (zup_ne _ _ _ hx2)
  · cases hg
theorem zj_iald (o : zOK X own cc nL d) {a : Nat} {i : Int32} {v : Int32} (hd : zDD cc pc .iaload 1 pc') (hg : zaI σ 1 a i = some v) (kk : zPJ X cells slots pc' loc (.int v :: stk) σ) : zPJ X cells slots pc loc (.int i :: .ref a :: stk) σ := by
  obtain ⟨p, l, e, R, s, m, args, below, meth, c, Q, b, ex, D, ca⟩ := X
  obtain ⟨hx, hb, hml, hown, hts, hKX, hEX, hbs, hfr, hlr, hlk, hex⟩ := o
  obtain ⟨hd, rfl⟩ := hd
  unfold zaI at hg
  split at hg
  · rename_i hq
    obtain ⟨n, hq, hin⟩ := zok_of hq
    intro H locs ls hP hz hS hl
    cases hg
    exact va_iald hx hb hKX.1 hP a 0 (zwd_get hq) rfl hin hd (kk H locs ls hP hz hS hl)
  · cases hg
theorem zj_bald (o : zOK X own cc nL d) {a : Nat} {i : Int32} {v : Int32} (hd : zDD cc pc .baload 1 pc') (hg : zaI σ 2 a i = some v) (kk : zPJ X cells slots pc' loc (.int v :: stk) σ) : zPJ X cells slots pc loc (.int i :: .ref a :: stk) σ := by
  obtain ⟨p, l, e, R, s, m, args, below, meth, c, Q, b, ex, D, ca⟩ := X
  obtain ⟨hx, hb, hml, hown, hts, hKX, hEX, hbs, hfr, hlr, hlk, hex⟩ := o
  obtain ⟨hd, rfl⟩ := hd
  unfold zaI at hg
  split at hg
  · rename_i hq
    obtain ⟨n, hq, hin⟩ := zok_of hq
    intro H locs ls hP hz hS hl
    cases hg
    exact va_bald hx hb hKX.1 hP a 1 (zwd_get hq) rfl hin hd (kk H locs ls hP hz hS hl)
  · cases hg
theorem zj_zald (o : zOK X own cc nL d) {a : Nat} {i : Int32} {v : Int32} (hd : zDD cc pc .baload 1 pc') (hg : zaI σ 3 a i = some v) (kk : zPJ X cells slots pc' loc (.int v :: stk) σ) : zPJ X cells slots pc loc (.int i :: .ref a :: stk) σ := by
  obtain ⟨p, l, e, R, s, m, args, below, meth, c, Q, b, ex, D, ca⟩ := X
  obtain ⟨hx, hb, hml, hown, hts, hKX, hEX, hbs, hfr, hlr, hlk, hex⟩ := o
  obtain ⟨hd, rfl⟩ := hd
  unfold zaI at hg
  split at hg
  · rename_i hq
    obtain ⟨n, hq, hin⟩ := zok_of hq
    intro H locs ls hP hz hS hl
    cases hg
    exact va_zald hx hb hKX.1 hP a 2 (zwd_get hq) rfl hin hd (kk H locs ls hP hz hS hl)
  · cases hg
theorem zj_lald (o : zOK X own cc nL d) {a : Nat} {i : Int32} {v : Int64} (hd : zDD cc pc .laload 1 pc') (hg : zaJ σ a i = some v) (kk : zPJ X cells slots pc' loc (.long v :: stk) σ) : zPJ X cells slots pc loc (.int i :: .ref a :: stk) σ := by
  obtain ⟨p, l, e, R, s, m, args, below, meth, c, Q, b, ex, D, ca⟩ := X
  obtain ⟨hx, hb, hml, hown, hts, hKX, hEX, hbs, hfr, hlr, hlk, hex⟩ := o
  obtain ⟨hd, rfl⟩ := hd
  unfold zaJ at hg
  split at hg
  · rename_i hq
    obtain ⟨n, hq, hin⟩ := zok_of hq
    intro H locs ls hP hz hS hl
    cases hg
    exact va_lald hx hb hKX.1 hP a 3 (zwd_get hq) rfl hin hd (kk H locs ls hP hz hS hl)
  · cases hg
theorem zj_aald (o : zOK X own cc nL d) {a : Nat} {i : Int32} {v : Nat} (hd : zDD cc pc .aaload 1 pc') (hg : zaP σ a i = some v) (kk : zPJ X cells slots pc' loc (.ref v :: stk) σ) : zPJ X cells slots pc loc (.int i :: .ref a :: stk) σ := by
  obtain ⟨p, l, e, R, s, m, args, below, meth, c, Q, b, ex, D, ca⟩ := X
  obtain ⟨hx, hb, hml, hown, hts, hKX, hEX, hbs, hfr, hlr, hlk, hex⟩ := o
  obtain ⟨hd, rfl⟩ := hd
  unfold zaP at hg
  split at hg
  · rename_i hq
    obtain ⟨n, hq, hin⟩ := zok_of hq
    intro H locs ls hP hz hS hl
    have h1 := kk H locs ls hP hz hS hl
    refine va_aldq hx hb hKX.1 hP a 4 (zwd_get hq) rfl hin hd ?_
    rw [hg]
    exact h1
  · cases hg
theorem zj_iast (o : zOK X own cc nL d) {a : Nat} {i : Int32} {x : Int32} (hd : zDD cc pc .iastore 1 pc') (hg : zwI σ 1 a i x = some σ') (kk : zPJ X cells slots pc' loc stk σ') : zPJ X cells slots pc loc (.int x :: .int i :: .ref a :: stk) σ := by
  obtain ⟨p, l, e, R, s, m, args, below, meth, c, Q, b, ex, D, ca⟩ := X
  obtain ⟨hx, hb, hml, hown, hts, hKX, hEX, hbs, hfr, hlr, hlk, hex⟩ := o
  obtain ⟨hd, rfl⟩ := hd
  unfold zwI at hg
  split at hg
  · rename_i hq
    obtain ⟨n, hq, hin⟩ := zok_of hq
    cases hg
    intro H locs ls hP hz hS hl
    have ha := zwd_get (b := b) (ca := ca) hq
    refine W.iast hx hb (hP a _ ha) ((hKX.1.2 0 _ rfl).1 n (fun j => .int (σ.2.1 a j))) (fun q => by cases q) (by show ¬ (i < 0 ∨ (arrV _ _ _).slots.size ≤ _); rw [arrV_size]; exact hin) rfl rfl hd fun H1 e z oq => ?_
    refine kk H1 _ ls ?_ (z.trans hz) (hS.put z oq (Nat.le_add_right _ _)) hl
    rw [← zwd_set (b := b) (ca := ca) (σ' := (σ.1, zup σ.2.1 a i.toNatClampNeg (znar 1 x), σ.2.2)) hq rfl (x := .inl (ca 1, n, .inl (va_up (σ.2.1 a) i.toNatClampNeg x))) (by simp [zen, zup_self, znar]) (fun k q hk => zen_cong q (zup_ne _ _ _ hk) rfl rfl)]
    refine hP.set (zwd_D b ca σ) ha ?_ oq
    show H1[b + a]? = some (vp_cell _ _)
    rw [e]
    show some (Cell.setSlot (vp_cell _ _) _ _) = _
    rw [vp_cell_i, vp_cell_i, arrV_store]
    congr 2
    funext q
    by_cases hq : q = i.toNatClampNeg
    · subst hq
      simp [updV, va_up, vp_nar]
      try rfl
    · simp [updV, va_up, hq]
  · cases hg
theorem zj_bast (o : zOK X own cc nL d) {a : Nat} {i : Int32} {x : Int32} (hd : zDD cc pc .bastore 1 pc') (hg : zwI σ 2 a i x = some σ') (kk : zPJ X cells slots pc' loc stk σ') : zPJ X cells slots pc loc (.int x :: .int i :: .ref a :: stk) σ := by
  obtain ⟨p, l, e, R, s, m, args, below, meth, c, Q, b, ex, D, ca⟩ := X
  obtain ⟨hx, hb, hml, hown, hts, hKX, hEX, hbs, hfr, hlr, hlk, hex⟩ := o
  obtain ⟨hd, rfl⟩ := hd
  unfold zwI at hg
  split at hg
  · rename_i hq
    obtain ⟨n, hq, hin⟩ := zok_of hq
    cases hg
    intro H locs ls hP hz hS hl
    have ha := zwd_get (b := b) (ca := ca) hq
    refine W.bast hx hb (hP a _ ha) ((hKX.1.2 1 _ rfl).1 n (fun j => .int (σ.2.1 a j))) (fun q => by cases q) (by show ¬ (i < 0 ∨ (arrV _ _ _).slots.size ≤ _); rw [arrV_size]; exact hin) rfl rfl hd fun H1 e z oq => ?_
    refine kk H1 _ ls ?_ (z.trans hz) (hS.put z oq (Nat.le_add_right _ _)) hl
    rw [← zwd_set (b := b) (ca := ca) (σ' := (σ.1, zup σ.2.1 a i.toNatClampNeg (znar 2 x), σ.2.2)) hq rfl (x := .inl (ca 2, n, .inl (va_up (σ.2.1 a) i.toNatClampNeg (vp_nar .byte x)))) (by simp [zen, zup_self, znar]) (fun k q hk => zen_cong q (zup_ne _ _ _ hk) rfl rfl)]
    refine hP.set (zwd_D b ca σ) ha ?_ oq
    show H1[b + a]? = some (vp_cell _ _)
    rw [e]
    show some (Cell.setSlot (vp_cell _ _) _ _) = _
    rw [vp_cell_i, vp_cell_i, arrV_store]
    congr 2
    funext q
    by_cases hq : q = i.toNatClampNeg
    · subst hq
      simp [updV, va_up, vp_nar]
      try rfl
    · simp [updV, va_up, hq]
  · cases hg
theorem zj_zast (o : zOK X own cc nL d) {a : Nat} {i : Int32} {x : Int32} (hd : zDD cc pc .bastore 1 pc') (hg : zwI σ 3 a i x = some σ') (kk : zPJ X cells slots pc' loc stk σ') : zPJ X cells slots pc loc (.int x :: .int i :: .ref a :: stk) σ := by
  obtain ⟨p, l, e, R, s, m, args, below, meth, c, Q, b, ex, D, ca⟩ := X
  obtain ⟨hx, hb, hml, hown, hts, hKX, hEX, hbs, hfr, hlr, hlk, hex⟩ := o
  obtain ⟨hd, rfl⟩ := hd
  unfold zwI at hg
  split at hg
  · rename_i hq
    obtain ⟨n, hq, hin⟩ := zok_of hq
    cases hg
    intro H locs ls hP hz hS hl
    have ha := zwd_get (b := b) (ca := ca) hq
    refine W.zast hx hb (hP a _ ha) ((hKX.1.2 2 _ rfl).1 n (fun j => .int (σ.2.1 a j))) (fun q => by cases q) (by show ¬ (i < 0 ∨ (arrV _ _ _).slots.size ≤ _); rw [arrV_size]; exact hin) rfl rfl hd fun H1 e z oq => ?_
    refine kk H1 _ ls ?_ (z.trans hz) (hS.put z oq (Nat.le_add_right _ _)) hl
    rw [← zwd_set (b := b) (ca := ca) (σ' := (σ.1, zup σ.2.1 a i.toNatClampNeg (znar 3 x), σ.2.2)) hq rfl (x := .inl (ca 3, n, .inl (va_up (σ.2.1 a) i.toNatClampNeg (vp_nar .boolean x)))) (by simp [zen, zup_self, znar]) (fun k q hk => zen_cong q (zup_ne _ _ _ hk) rfl rfl)]
    refine hP.set (zwd_D b ca σ) ha ?_ oq
    show H1[b + a]? = some (vp_cell _ _)
    rw [e]
    show some (Cell.setSlot (vp_cell _ _) _ _) = _
    rw [vp_cell_i, vp_cell_i, arrV_store]
    congr 2
    funext q
    by_cases hq : q = i.toNatClampNeg
    · subst hq
      simp [updV, va_up, vp_nar]
      try rfl
    · simp [updV, va_up, hq]
  · cases hg
theorem zj_last (o : zOK X own cc nL d) {a : Nat} {i : Int32} {x : Int64} (hd : zDD cc pc .lastore 1 pc') (hg : zwJ σ a i x = some σ') (kk : zPJ X cells slots pc' loc stk σ') : zPJ X cells slots pc loc (.long x :: .int i :: .ref a :: stk) σ := by
  obtain ⟨p, l, e, R, s, m, args, below, meth, c, Q, b, ex, D, ca⟩ := X
  obtain ⟨hx, hb, hml, hown, hts, hKX, hEX, hbs, hfr, hlr, hlk, hex⟩ := o
  obtain ⟨hd, rfl⟩ := hd
  unfold zwJ at hg
  split at hg
  · rename_i hq
    obtain ⟨n, hq, hin⟩ := zok_of hq
    cases hg
    intro H locs ls hP hz hS hl
    have ha := zwd_get (b := b) (ca := ca) hq
    refine W.last hx hb (hP a _ ha) ((hKX.1.2 3 _ rfl).1 n (fun j => .long (σ.2.2.1 a j))) (fun q => by cases q) (by show ¬ (i < 0 ∨ (arrV _ _ _).slots.size ≤ _); rw [arrV_size]; exact hin) rfl rfl hd fun H1 e z oq => ?_
    refine kk H1 _ ls ?_ (z.trans hz) (hS.put z oq (Nat.le_add_right _ _)) hl
    rw [← zwd_set (b := b) (ca := ca) (σ' := (σ.1, σ.2.1, zup σ.2.2.1 a i.toNatClampNeg x, σ.2.2.2)) hq rfl (x := .inl (ca 4, n, .inr (.inl (va_up (σ.2.2.1 a) i.toNatClampNeg x)))) (by simp [zen, zup_self, znar]) (fun k q hk => zen_cong q rfl (zup_ne _ _ _ hk) rfl)]
    refine hP.set (zwd_D b ca σ) ha ?_ oq
    show H1[b + a]? = some (vp_cell _ _)
    rw [e]
    show some (Cell.setSlot (vp_cell _ _) _ _) = _
    rw [vp_cell_l, vp_cell_l, arrV_store]
    congr 2
    funext q
    by_cases hq : q = i.toNatClampNeg
    · subst hq
      simp [updV, va_up, vp_nar]
      try rfl
    · simp [updV, va_up, hq]
  · cases hg
end ZK
