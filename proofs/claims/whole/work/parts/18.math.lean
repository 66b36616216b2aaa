section ZMath
variable {X : zCX} {own : String} {cc : ByteArray} {nL d pc pc' : Nat} {loc loc' : List (Nat × Value)} {stk : List Value} {σ σ' : zSt}
def zmax (x y : Int32) : Int32 := if x < y then y else x
def zmin (x y : Int32) : Int32 := if y < x then y else x
def zfmod (a m : Int32) : Option Int32 := if m = 0 then none else if 0 ≤ a ^^^ m then some (zrem a m) else none
theorem zj_mmax (o : zOK X own cc nL d) {idx : Nat} {x y : Int32} (hd : zDD cc pc (.invokestatic idx) 3 pc') (hl1 : Cond.methodLink own idx Lib.Math.max.name ∈ zTB) (hdd : 1 ≤ d) (hst : (stk.map Value.category).sum ≤ 8) (kk : zPJ X 0 0 pc' loc (.int (zmax x y) :: stk) σ) : zPJ X 0 0 pc loc (.int y :: .int x :: stk) σ := by
  obtain ⟨p, l, e, R, s, m, args, below, meth, c, Q, b, ex, D, ca⟩ := X
  obtain ⟨hx, hb, hml, hown, hts, hKX, hEX, hbs, hfr, hlr, hlk, hex⟩ := o
  obtain ⟨hd, rfl⟩ := hd
  intro H locs ls hP hz hS hl
  have hm : ((stk.map (zrv b ex)).map fun v => v.category) = stk.map Value.category := by
    rw [List.map_map]
    exact List.map_congr_left (fun v _ => zcat hex v)
  have h48 : 48 * 1 ≤ 48 * d := Nat.mul_le_mul_left 48 hdd
  exact va_mmax hx hb hl.1.symm hown (hts _ hl1) (hts _ mt_max_s) (hts _ mt_ini) (hts _ mt_max_c) (Nat.le_trans hdd hfr) (by rw [hm]; omega) (Nat.zero_le _) (Nat.zero_le _) hd (kk H locs ls hP hz hS hl)
theorem zj_mmin (o : zOK X own cc nL d) {idx : Nat} {x y : Int32} (hd : zDD cc pc (.invokestatic idx) 3 pc') (hl1 : Cond.methodLink own idx Lib.Math.min.name ∈ zTB) (hdd : 1 ≤ d) (hst : (stk.map Value.category).sum ≤ 8) (kk : zPJ X 0 0 pc' loc (.int (zmin x y) :: stk) σ) : zPJ X 0 0 pc loc (.int y :: .int x :: stk) σ := by
  obtain ⟨p, l, e, R, s, m, args, below, meth, c, Q, b, ex, D, ca⟩ := X
  obtain ⟨hx, hb, hml, hown, hts, hKX, hEX, hbs, hfr, hlr, hlk, hex⟩ := o
  obtain ⟨hd, rfl⟩ := hd
  intro H locs ls hP hz hS hl
  have hm : ((stk.map (zrv b ex)).map fun v => v.category) = stk.map Value.category := by
    rw [List.map_map]
    exact List.map_congr_left (fun v _ => zcat hex v)
  have h48 : 48 * 1 ≤ 48 * d := Nat.mul_le_mul_left 48 hdd
  exact va_mmin hx hb hl.1.symm hown (hts _ hl1) (hts _ mt_min_s) (hts _ mt_ini) (hts _ mt_min_c) (Nat.le_trans hdd hfr) (by rw [hm]; omega) (Nat.zero_le _) (Nat.zero_le _) hd (kk H locs ls hP hz hS hl)
def zfmS : Spec where
  pre := .and (.code y_J_floorMod c_J_floorMod 3 (some .int)) (.and (.count 2) (.and (.isInt (.arg 0)) (.and (.isInt (.arg 1)) (.and (.not (.eq (.arg 1) (.int 0))) (.le (.int 0) (.op2 .ixor (.arg 0) (.arg 1)))))))
  post := .and .returned (.eq .result (.sub (.arg 0) (.mul (.div (.arg 0) (.arg 1)) (.arg 1))))
  changes := some []
theorem zfm_row0 : (NativeRow.find? natives y_J_floorMod.cls y_J_floorMod.name y_J_floorMod.desc).isNone = true := by decide +kernel
theorem zfm_row (p : Program) : NativeRow.find? p.tables.natives y_J_floorMod.cls y_J_floorMod.name y_J_floorMod.desc = none := by
  cases p <;> exact Option.isNone_iff_eq_none.mp zfm_row0
theorem zfm_0 : decode c_J_floorMod 0 = .ok (.iload_n 0, 1) := (zdd k_J_floorMod 0 rfl).1
theorem zfm_1 : decode c_J_floorMod 1 = .ok (.iload_n 1, 1) := (zdd k_J_floorMod 1 rfl).1
theorem zfm_2 : decode c_J_floorMod 2 = .ok (.irem, 1) := (zdd k_J_floorMod 2 rfl).1
theorem zfm_3 : decode c_J_floorMod 3 = .ok (.istore_n 2, 1) := (zdd k_J_floorMod 3 rfl).1
theorem zfm_4 : decode c_J_floorMod 4 = .ok (.iload_n 0, 1) := (zdd k_J_floorMod 4 rfl).1
theorem zfm_5 : decode c_J_floorMod 5 = .ok (.iload_n 1, 1) := (zdd k_J_floorMod 5 rfl).1
theorem zfm_6 : decode c_J_floorMod 6 = .ok (.ixor, 1) := (zdd k_J_floorMod 6 rfl).1
theorem zfm_7 : decode c_J_floorMod 7 = .ok (.ifCond .ge 11, 3) := (zdd k_J_floorMod 7 rfl).1
theorem zfm_18 : decode c_J_floorMod 18 = .ok (.iload_n 2, 1) := (zdd k_J_floorMod 14 rfl).1
theorem zfm_19 : decode c_J_floorMod 19 = .ok (.ireturn, 1) := (zdd k_J_floorMod 15 rfl).1
theorem zfm_meets (l : Launch) : MeetsLoose l y_J_floorMod zfmS := by
  refine MeetsLoose.of_body_ov (code := c_J_floorMod) (maxLocals := 3) (ret := some .int) zfm_row ?_ ?_
  · intro args s h
    simp only [zfmS, Cond.before_and, Bool.and_eq_true] at h
    exact h.1
  · intro p e s m args below meth c s₁ B
    have hpre := B.pre
    simp only [zfmS, Cond.before_and, Bool.and_eq_true] at hpre
    obtain ⟨-, h1, h2, h3, h4, h5⟩ := hpre
    obtain ⟨a, b, rfl⟩ := Cond.two_ints h1 h2 h3
    have hne : ¬ b = 0 := by
      intro hb
      subst hb
      simp [Cond.before, Cond.holds, Cond.value, Term.eval] at h4
    have hge : 0 ≤ a ^^^ b := by
      simpa [Cond.before, Cond.holds, Cond.value, Term.eval, Binary.apply] using h5
    have hloc : argsToLocals #[.int a, .int b] 3 = #[.val (.int a), .val (.int b), .unset] := rfl
    obtain ⟨fs, hfs⟩ := handOver_isSome (s := s₁) (some (.int (a - a / b * b))) B.hears₁
    refine ⟨s₁.setFrames fs, .returned (some (.int (a - a / b * b))), ?_, B.here.running, B.ended hfs (by intro h; cases h), ?_, State.sameBut_nil.mpr ?_⟩
    · unfold entryFrame
      rw [hloc]
      refine Steps.instrAtOv (c := _) (by simpa using B.here) ?_
      simp [jvm, wpRun, exec, B.here.top, B.exec, B.bytes, zfm_0]
      refine Steps.instrAtOv (c := _) (by simpa using B.here) ?_
      simp [jvm, wpRun, exec, B.here.top, B.exec, B.bytes, zfm_1]
      refine Steps.instrAtOv (c := _) (by simpa using B.here) ?_
      simp [jvm, wpRun, exec, B.here.top, B.exec, B.bytes, zfm_2, hne]
      refine Steps.instrAtOv (c := _) (by simpa using B.here) ?_
      simp [jvm, wpRun, exec, B.here.top, B.exec, B.bytes, zfm_3, storeLocals, storeSelf, setAt, Value.category]
      refine Steps.instrAtOv (c := _) (by simpa using B.here) ?_
      simp [jvm, wpRun, exec, B.here.top, B.exec, B.bytes, zfm_4]
      refine Steps.instrAtOv (c := _) (by simpa using B.here) ?_
      simp [jvm, wpRun, exec, B.here.top, B.exec, B.bytes, zfm_5]
      refine Steps.instrAtOv (c := _) (by simpa using B.here) ?_
      simp [jvm, wpRun, exec, B.here.top, B.exec, B.bytes, zfm_6]
      refine Steps.instrAtOv (c := _) (by simpa using B.here) ?_
      simp [jvm, wpRun, exec, B.here.top, B.exec, B.bytes, zfm_7, Op.ifCond.holds, hge]
      refine Steps.instrAtOv (c := _) (by simpa using B.here) ?_
      simp [jvm, wpRun, exec, B.here.top, B.exec, B.bytes, zfm_18]
      refine Steps.instrAtOv (c := _) (by simpa using B.here) ?_
      simp [jvm, wpRun, exec, B.here.top, B.exec, B.bytes, zfm_19, B.method₁, B.returns, narrow]
      intro acts
      rw [ret_to B.frames₁ B.method₁ B.notSynchronized rfl rfl hfs]
      exact Steps.refl _
    · simp [zfmS, Cond.after, Cond.holds, Cond.value, Term.eval, hne]
    · rw [State.frames_setFrames _ B.cur₁, B.back]
theorem zj_fm (o : zOK X own cc nL d) {idx : Nat} {x y v : Int32} (hd : zDD cc pc (.invokestatic idx) 3 pc') (hl1 : Cond.methodLink own idx y_J_floorMod ∈ zTB) (hdd : 1 ≤ d) (hst : (stk.map Value.category).sum ≤ 8) (hg : zfmod x y = some v) (kk : zPJ X 0 0 pc' loc (.int v :: stk) σ) : zPJ X 0 0 pc loc (.int y :: .int x :: stk) σ := by
  obtain ⟨p, l, e, R, s, m, args, below, meth, c, Q, b, ex, D, ca⟩ := X
  obtain ⟨hx, hb, hml, hown, hts, hKX, hEX, hbs, hfr, hlr, hlk, hex⟩ := o
  obtain ⟨hd, rfl⟩ := hd
  unfold zfmod at hg
  split at hg
  · cases hg
  rename_i hne
  split at hg
  · rename_i hge
    cases hg
    intro H locs ls hP hz hS hl
    have hm : ((stk.map (zrv b ex)).map fun v => v.category) = stk.map Value.category := by
      rw [List.map_map]
      exact List.map_congr_left (fun v _ => zcat hex v)
    have h48 : 48 * 1 ≤ 48 * d := Nat.mul_le_mul_left 48 hdd
    have hcode := hts _ mt_fm_c
    have hk := kk H locs ls hP hz hS hl
    intro T hT X
    obtain ⟨v, T', X', ⟨first, t, hpost⟩, hstep⟩ := X.staticByContractV hx hown (hts _ hl1) (hts _ mt_fm_s) (hts _ mt_ini) hcode (by decide) (zfm_meets l) rfl rfl rfl rfl
      (fun args' first o s₂ h => by
        simp only [zfmS, Cond.after_and, Bool.and_eq_true] at h
        cases o with
        | returned r => exact ⟨r, rfl⟩
        | threw y => simp [Cond.after, Cond.holds, Cond.value] at h)
      (g := F0 m pc ls (.int y :: .int x :: stk.map (zrv b ex))) rfl hl.1 (argsL := [.int x, .int y]) (rest := stk.map (zrv b ex))
      (fun sig hs => by
        have h : parseMethodDescriptor "(II)I" = some { parameters := [.int, .int], returnType := some .int } := by decide +kernel
        rw [show y_J_floorMod.desc = "(II)I" from rfl, h] at hs
        rw [← Option.some.inj hs]; rfl)
      rfl (by rw [hb]; exact hd)
      (fun vm' hW => by
        simp only [zfmS, Cond.before_and, Bool.and_eq_true]
        refine ⟨?_, rfl, rfl, rfl, ?_, ?_⟩
        · have q := hcode
          rw [← Cond.code_setVm hW.alike] at q
          simp only [Cond.before, Cond.holds, Cond.value, State.methodNamed?, State.vm_setVm] at q ⊢
          exact q
        · simp [Cond.before, Cond.holds, Cond.value, Term.eval, hne]
        · simpa [Cond.before, Cond.holds, Cond.value, Term.eval, Binary.apply] using hge)
      (by show 0 + 1 ≤ R.frames; omega) (by show 2 * 0 + _ + (3 + 11) + 0 ≤ R.locals; rw [hm]; omega) (by show 0 + 0 ≤ R.cells; omega) (by show 0 + 0 ≤ R.slots; omega)
    have hv : v = some (.int (zrem x y)) := by
      rcases v with _ | w
      · simp [zfmS, Cond.after, Cond.holds, Cond.value, Term.eval, hne] at hpost
      · cases w <;> simp [zfmS, Cond.after, Cond.holds, Cond.value, Term.eval, hne] at hpost
        simp [zrem, hpost]
    subst hv
    obtain ⟨t2, a1, b1⟩ := hk (T.setVm T') hT X'
    exact ⟨t2, hstep t2 a1, b1⟩
  · cases hg
end ZMath
