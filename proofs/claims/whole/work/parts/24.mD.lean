def f_D_stepsTo (σ : zSt) (t : Nat) (p0 : Int32) : Option (Int32) :=
zg σ 10 t (
(zgI σ 10 t 4).bind fun x1 =>
if x1 = 0 then (
some ((p0 + 1) + 0)) else
(zgI σ 10 t 4).bind fun x2 =>
(znz x2).bind fun n3 =>
some ((p0 + 1) + (2 * (p0 / x2))))
set_option maxRecDepth 100000 in
set_option maxHeartbeats 4000000 in
theorem m_D_stepsTo {l : Launch} {b : Nat} {ex : Nat → Value} {D : va_G} {ca : Nat → ClassId} {σ : zSt} {t : Nat} {p0 : Int32} {z : Int32} (h : f_D_stepsTo σ t p0 = some z) : zMT l b ex D ca 1 y_D_stepsTo c_D_stepsTo n_D_stepsTo r_ret_D_stepsTo [.ref t, .int p0] σ (some (.int z)) σ 0 0 := by
  obtain ⟨_, hg0⟩ := zg_some h
  have h := hg0
  refine zmt_of (by decide) (Nat.le_of_ble_eq_true rfl) ⟨.int, rfl, rfl⟩ (fun X o hin hrm _ _ _ _ _ hr => ?_)
  have hr := hr 0 0 (by decide) (by decide)
  have o : zOK X "WantShelves$Told" c_D_stepsTo n_D_stepsTo 1 := o
  change zPJ X 0 0 0 [(0, .ref t), (1, .int p0)] [] σ
  refine zj_iload_n o (zdd k_D_stepsTo 0 rfl) rfl 1 rfl ?_
  refine zj_iconst o (zdd k_D_stepsTo 1 rfl) zki_1 ?_
  refine zj_iadd o (zdd k_D_stepsTo 2 rfl) ?_
  refine zj_aload_n o (zdd k_D_stepsTo 3 rfl) rfl 0 rfl ?_
  obtain ⟨x1, e_x1, h⟩ := zbd h
  refine zj_gI o (zdd k_D_stepsTo 4 rfl) fl_D_50 rfl e_x1 ?_
  refine zj_if_ne (tgt := 14) o (zdd k_D_stepsTo 5 rfl) (by decide) (fun hc => ?_) (fun hc => ?_)
  · rw [if_neg hc] at h
    refine zj_iconst o (zdd k_D_stepsTo 8 rfl) zki_2 ?_
    refine zj_iload_n o (zdd k_D_stepsTo 9 rfl) rfl 1 rfl ?_
    refine zj_aload_n o (zdd k_D_stepsTo 10 rfl) rfl 0 rfl ?_
    obtain ⟨x2, e_x2, h⟩ := zbd h
    refine zj_gI o (zdd k_D_stepsTo 11 rfl) fl_D_50 rfl e_x2 ?_
    obtain ⟨n3, e_n3, h⟩ := zbd h
    refine zj_idiv o (zdd k_D_stepsTo 12 rfl) (znz_some e_n3).1 ?_
    refine zj_imul o (zdd k_D_stepsTo 13 rfl) ?_
    refine zj_iadd o (zdd k_D_stepsTo 14 rfl) ?_
    cases h
    exact zr_i o hr (zdd k_D_stepsTo 15 rfl)
  · rw [if_pos hc] at h
    refine zj_iconst o (zdd k_D_stepsTo 6 rfl) zki_0 ?_
    refine zj_goto (tgt := 22) o (zdd k_D_stepsTo 7 rfl) (by decide) ?_
    refine zj_iadd o (zdd k_D_stepsTo 14 rfl) ?_
    cases h
    exact zr_i o hr (zdd k_D_stepsTo 15 rfl)
def f_D_forget (σ : zSt) (t : Nat) : Option (zSt) :=
zg σ 10 t (
(zsI σ 10 t 0 0).bind fun σ1 =>
(zsI σ1 10 t 1 0).bind fun σ2 =>
(zsI σ2 10 t 2 0).bind fun σ3 =>
(zsI σ3 10 t 3 0).bind fun σ4 =>
(zsI σ4 10 t 4 5).bind fun σ5 =>
(zsI σ5 10 t 5 3).bind fun σ6 =>
(zsI σ6 10 t 6 0).bind fun σ7 =>
(zgP σ7 10 t 7).bind fun a8 =>
(f_J_fill σ7 a8 0).bind fun σ9 =>
(zgP σ9 10 t 8).bind fun a10 =>
(f_J_fill σ9 a10 0).bind fun σ11 =>
(zgP σ11 10 t 9).bind fun a12 =>
(f_J_fill σ11 a12 0).bind fun σ13 =>
(zgP σ13 10 t 10).bind fun a14 =>
(f_J_fill σ13 a14 0).bind fun σ15 =>
(zgP σ15 10 t 11).bind fun a16 =>
(f_F_clear σ15 a16).bind fun σ17 =>
(zgP σ17 10 t 11).bind fun a18 =>
(f_F_addWord σ17 a18 0).bind fun σ19 =>
(zgP σ19 10 t 12).bind fun a20 =>
(f_F_clear σ19 a20).bind fun σ21 =>
(zgP σ21 10 t 12).bind fun a22 =>
(f_F_addWord σ21 a22 2).bind fun σ23 =>
some σ23)
set_option maxRecDepth 100000 in
set_option maxHeartbeats 4000000 in
theorem m_D_forget {l : Launch} {b : Nat} {ex : Nat → Value} {D : va_G} {ca : Nat → ClassId} {σ : zSt} {t : Nat} {z : zSt} (h : f_D_forget σ t = some z) : zMT l b ex D ca 3 y_D_forget c_D_forget n_D_forget r_ret_D_forget [.ref t] σ none z 0 0 := by
  obtain ⟨_, hg0⟩ := zg_some h
  have h := hg0
  refine zmt_of (by decide) (Nat.le_of_ble_eq_true rfl) rfl (fun X o hin hrm _ _ _ _ _ hr => ?_)
  have hr := hr 0 0 (by decide) (by decide)
  have o : zOK X "WantShelves$Told" c_D_forget n_D_forget 3 := o
  change zPJ X 0 0 0 [(0, .ref t)] [] σ
  refine zj_aload_n o (zdd k_D_forget 0 rfl) rfl 0 rfl ?_
  refine zj_iconst o (zdd k_D_forget 1 rfl) zki_0 ?_
  obtain ⟨σ1, e_σ1, h⟩ := zbd h
  refine zj_pI o (zdd k_D_forget 2 rfl) fl_D_37 rfl rfl e_σ1 ?_
  refine zj_aload_n o (zdd k_D_forget 3 rfl) rfl 0 rfl ?_
  refine zj_iconst o (zdd k_D_forget 4 rfl) zki_0 ?_
  obtain ⟨σ2, e_σ2, h⟩ := zbd h
  refine zj_pI o (zdd k_D_forget 5 rfl) fl_D_41 rfl rfl e_σ2 ?_
  refine zj_aload_n o (zdd k_D_forget 6 rfl) rfl 0 rfl ?_
  refine zj_iconst o (zdd k_D_forget 7 rfl) zki_0 ?_
  obtain ⟨σ3, e_σ3, h⟩ := zbd h
  refine zj_pI o (zdd k_D_forget 8 rfl) fl_D_44 rfl rfl e_σ3 ?_
  refine zj_aload_n o (zdd k_D_forget 9 rfl) rfl 0 rfl ?_
  refine zj_iconst o (zdd k_D_forget 10 rfl) zki_0 ?_
  obtain ⟨σ4, e_σ4, h⟩ := zbd h
  refine zj_pI o (zdd k_D_forget 11 rfl) fl_D_47 rfl rfl e_σ4 ?_
  refine zj_aload_n o (zdd k_D_forget 12 rfl) rfl 0 rfl ?_
  refine zj_iconst o (zdd k_D_forget 13 rfl) zki_5 ?_
  obtain ⟨σ5, e_σ5, h⟩ := zbd h
  refine zj_pI o (zdd k_D_forget 14 rfl) fl_D_50 rfl rfl e_σ5 ?_
  refine zj_aload_n o (zdd k_D_forget 15 rfl) rfl 0 rfl ?_
  refine zj_iconst o (zdd k_D_forget 16 rfl) zki_3 ?_
  obtain ⟨σ6, e_σ6, h⟩ := zbd h
  refine zj_pI o (zdd k_D_forget 17 rfl) fl_D_53 rfl rfl e_σ6 ?_
  refine zj_aload_n o (zdd k_D_forget 18 rfl) rfl 0 rfl ?_
  refine zj_iconst o (zdd k_D_forget 19 rfl) zki_0 ?_
  obtain ⟨σ7, e_σ7, h⟩ := zbd h
  refine zj_pI o (zdd k_D_forget 20 rfl) fl_D_56 rfl rfl e_σ7 ?_
  refine zj_aload_n o (zdd k_D_forget 21 rfl) rfl 0 rfl ?_
  obtain ⟨a8, e_a8, h⟩ := zbd h
  refine zj_gP o (zdd k_D_forget 22 rfl) fl_D_9 rfl e_a8 ?_
  refine zj_iconst o (zdd k_D_forget 23 rfl) zki_0 ?_
  obtain ⟨σ9, e_σ9, h⟩ := zbd h
  refine zc_S o (zdd k_D_forget 24 rfl) ml_D_59 ms_J_fill (by decide) [.ref a8, .int 0] [] rfl (Nat.le_of_ble_eq_true rfl) rfl (m_J_fill e_σ9) ?_
  change zPJ X 0 0 _ _ [] _
  refine zj_aload_n o (zdd k_D_forget 25 rfl) rfl 0 rfl ?_
  obtain ⟨a10, e_a10, h⟩ := zbd h
  refine zj_gP o (zdd k_D_forget 26 rfl) fl_D_15 rfl e_a10 ?_
  refine zj_iconst o (zdd k_D_forget 27 rfl) zki_0 ?_
  obtain ⟨σ11, e_σ11, h⟩ := zbd h
  refine zc_S o (zdd k_D_forget 28 rfl) ml_D_59 ms_J_fill (by decide) [.ref a10, .int 0] [] rfl (Nat.le_of_ble_eq_true rfl) rfl (m_J_fill e_σ11) ?_
  change zPJ X 0 0 _ _ [] _
  refine zj_aload_n o (zdd k_D_forget 29 rfl) rfl 0 rfl ?_
  obtain ⟨a12, e_a12, h⟩ := zbd h
  refine zj_gP o (zdd k_D_forget 30 rfl) fl_D_18 rfl e_a12 ?_
  refine zj_iconst o (zdd k_D_forget 31 rfl) zki_0 ?_
  obtain ⟨σ13, e_σ13, h⟩ := zbd h
  refine zc_S o (zdd k_D_forget 32 rfl) ml_D_59 ms_J_fill (by decide) [.ref a12, .int 0] [] rfl (Nat.le_of_ble_eq_true rfl) rfl (m_J_fill e_σ13) ?_
  change zPJ X 0 0 _ _ [] _
  refine zj_aload_n o (zdd k_D_forget 33 rfl) rfl 0 rfl ?_
  obtain ⟨a14, e_a14, h⟩ := zbd h
  refine zj_gP o (zdd k_D_forget 34 rfl) fl_D_21 rfl e_a14 ?_
  refine zj_iconst o (zdd k_D_forget 35 rfl) zki_0 ?_
  obtain ⟨σ15, e_σ15, h⟩ := zbd h
  refine zc_S o (zdd k_D_forget 36 rfl) ml_D_59 ms_J_fill (by decide) [.ref a14, .int 0] [] rfl (Nat.le_of_ble_eq_true rfl) rfl (m_J_fill e_σ15) ?_
  change zPJ X 0 0 _ _ [] _
  refine zj_aload_n o (zdd k_D_forget 37 rfl) rfl 0 rfl ?_
  obtain ⟨a16, e_a16, h⟩ := zbd h
  refine zj_gP o (zdd k_D_forget 38 rfl) fl_D_27 rfl e_a16 ?_
  obtain ⟨σ17, e_σ17, h⟩ := zbd h
  refine zc_V o (zdd k_D_forget 39 rfl) ml_D_65 mv_F_clear ⟨rfl, by decide⟩ (zg_some e_σ17).1 (by decide) [] [] rfl (Nat.le_of_ble_eq_true rfl) rfl (m_F_clear e_σ17) ?_
  change zPJ X 0 0 _ _ [] _
  refine zj_aload_n o (zdd k_D_forget 40 rfl) rfl 0 rfl ?_
  obtain ⟨a18, e_a18, h⟩ := zbd h
  refine zj_gP o (zdd k_D_forget 41 rfl) fl_D_27 rfl e_a18 ?_
  refine zj_iconst o (zdd k_D_forget 42 rfl) zki_0 ?_
  obtain ⟨σ19, e_σ19, h⟩ := zbd h
  refine zc_V o (zdd k_D_forget 43 rfl) ml_D_68 mv_F_addWord ⟨rfl, by decide⟩ (zg_some e_σ19).1 (by decide) [.int 0] [] rfl (Nat.le_of_ble_eq_true rfl) rfl (m_F_addWord e_σ19) ?_
  change zPJ X 0 0 _ _ [] _
  refine zj_aload_n o (zdd k_D_forget 44 rfl) rfl 0 rfl ?_
  obtain ⟨a20, e_a20, h⟩ := zbd h
  refine zj_gP o (zdd k_D_forget 45 rfl) fl_D_31 rfl e_a20 ?_
  obtain ⟨σ21, e_σ21, h⟩ := zbd h
  refine zc_V o (zdd k_D_forget 46 rfl) ml_D_65 mv_F_clear ⟨rfl, by decide⟩ (zg_some e_σ21).1 (by decide) [] [] rfl (Nat.le_of_ble_eq_true rfl) rfl (m_F_clear e_σ21) ?_
  change zPJ X 0 0 _ _ [] _
  refine zj_aload_n o (zdd k_D_forget 47 rfl) rfl 0 rfl ?_
  obtain ⟨a22, e_a22, h⟩ := zbd h
  refine zj_gP o (zdd k_D_forget 48 rfl) fl_D_31 rfl e_a22 ?_
  refine zj_iconst o (zdd k_D_forget 49 rfl) zki_2 ?_
  obtain ⟨σ23, e_σ23, h⟩ := zbd h
  refine zc_V o (zdd k_D_forget 50 rfl) ml_D_68 mv_F_addWord ⟨rfl, by decide⟩ (zg_some e_σ23).1 (by decide) [.int 2] [] rfl (Nat.le_of_ble_eq_true rfl) rfl (m_F_addWord e_σ23) ?_
  change zPJ X 0 0 _ _ [] _
  cases h
  exact zr_v o hr (zdd k_D_forget 51 rfl)
def f_D_init (σ : zSt) (t : Nat) : Option (zSt) :=
zg σ 10 t (
(some (znew σ (1, 40))).bind fun (σ1 : zSt) =>
(some σ.1.length).bind fun (a2 : Nat) =>
(zsP σ1 10 t 7 a2).bind fun σ3 =>
(some (znew σ3 (1, 24))).bind fun (σ4 : zSt) =>
(some σ3.1.length).bind fun (a5 : Nat) =>
(zsP σ4 10 t 8 a5).bind fun σ6 =>
(some (znew σ6 (1, 24))).bind fun (σ7 : zSt) =>
(some σ6.1.length).bind fun (a8 : Nat) =>
(zsP σ7 10 t 9 a8).bind fun σ9 =>
(some (znew σ9 (1, 6))).bind fun (σ10 : zSt) =>
(some σ9.1.length).bind fun (a11 : Nat) =>
(zsP σ10 10 t 10 a11).bind fun σ12 =>
(some (znew σ12 (0, 2))).bind fun (σ13 : zSt) =>
(some σ12.1.length).bind fun (a14 : Nat) =>
(f_F_init σ13 a14).bind fun σ15 =>
(zsP σ15 10 t 11 a14).bind fun σ16 =>
(some (znew σ16 (0, 2))).bind fun (σ17 : zSt) =>
(some σ16.1.length).bind fun (a18 : Nat) =>
(f_F_init σ17 a18).bind fun σ19 =>
(zsP σ19 10 t 12 a18).bind fun σ20 =>
(f_D_forget σ20 t).bind fun σ21 =>
some σ21)
set_option maxRecDepth 100000 in
set_option maxHeartbeats 4000000 in
theorem m_D_init {l : Launch} {b : Nat} {ex : Nat → Value} {D : va_G} {ca : Nat → ClassId} {σ : zSt} {t : Nat} {z : zSt} (h : f_D_init σ t = some z) : zMT l b ex D ca 4 y_D_init c_D_init n_D_init r_ret_D_init [.ref t] σ none z 10 700 := by
  obtain ⟨_, hg0⟩ := zg_some h
  have h := hg0
  refine zmt_of (by decide) (Nat.le_of_ble_eq_true rfl) rfl (fun X o hin hrm _ _ _ _ _ hr => ?_)
  have hin := hin rfl
  have hr := hr 10 700 (by decide) (by decide)
  have o : zOK X "WantShelves$Told" c_D_init n_D_init 4 := o
  change zPJ X 0 0 0 [(0, .ref t)] [] σ
  refine zj_aload_n o (zdd k_D_init 0 rfl) rfl 0 rfl ?_
  refine zj_objInit o (zdd k_D_init 1 rfl) ml_D_3 ob_im ob_code (by decide) (Nat.le_of_ble_eq_true rfl) ?_
  refine zj_aload_n o (zdd k_D_init 2 rfl) rfl 0 rfl ?_
  refine zj_bipush o (zdd k_D_init 3 rfl) zkb_40 ?_
  obtain ⟨σ1, e_σ1, h⟩ := zbd h
  refine zj_newa_int (N := 40) (mc := 10) (ms := 700) o (zdd k_D_init 4 rfl) ac_int (by decide) (by decide) (by decide) hrm (by decide) (by decide) ?_
  rw [Option.some.inj e_σ1]
  change zPJ X 1 40 _ _ _ _
  obtain ⟨a2, e_a2, h⟩ := zbd h
  rw [Option.some.inj e_a2]
  obtain ⟨σ3, e_σ3, h⟩ := zbd h
  refine zj_fP o (zdd k_D_init 5 rfl) fl_D_9 (Or.inr ⟨_, rfl⟩) hin rfl rfl e_σ3 ?_
  refine zj_aload_n o (zdd k_D_init 6 rfl) rfl 0 rfl ?_
  refine zj_bipush o (zdd k_D_init 7 rfl) zkb_24 ?_
  obtain ⟨σ4, e_σ4, h⟩ := zbd h
  refine zj_newa_int (N := 24) (mc := 10) (ms := 700) o (zdd k_D_init 8 rfl) ac_int (by decide) (by decide) (by decide) hrm (by decide) (by decide) ?_
  rw [Option.some.inj e_σ4]
  change zPJ X 2 64 _ _ _ _
  obtain ⟨a5, e_a5, h⟩ := zbd h
  rw [Option.some.inj e_a5]
  obtain ⟨σ6, e_σ6, h⟩ := zbd h
  refine zj_fP o (zdd k_D_init 9 rfl) fl_D_15 (Or.inr ⟨_, rfl⟩) hin rfl rfl e_σ6 ?_
  refine zj_aload_n o (zdd k_D_init 10 rfl) rfl 0 rfl ?_
  refine zj_bipush o (zdd k_D_init 11 rfl) zkb_24 ?_
  obtain ⟨σ7, e_σ7, h⟩ := zbd h
  refine zj_newa_int (N := 24) (mc := 10) (ms := 700) o (zdd k_D_init 12 rfl) ac_int (by decide) (by decide) (by decide) hrm (by decide) (by decide) ?_
  rw [Option.some.inj e_σ7]
  change zPJ X 3 88 _ _ _ _
  obtain ⟨a8, e_a8, h⟩ := zbd h
  rw [Option.some.inj e_a8]
  obtain ⟨σ9, e_σ9, h⟩ := zbd h
  refine zj_fP o (zdd k_D_init 13 rfl) fl_D_18 (Or.inr ⟨_, rfl⟩) hin rfl rfl e_σ9 ?_
  refine zj_aload_n o (zdd k_D_init 14 rfl) rfl 0 rfl ?_
  refine zj_bipush o (zdd k_D_init 15 rfl) zkb_6 ?_
  obtain ⟨σ10, e_σ10, h⟩ := zbd h
  refine zj_newa_int (N := 6) (mc := 10) (ms := 700) o (zdd k_D_init 16 rfl) ac_int (by decide) (by decide) (by decide) hrm (by decide) (by decide) ?_
  rw [Option.some.inj e_σ10]
  change zPJ X 4 94 _ _ _ _
  obtain ⟨a11, e_a11, h⟩ := zbd h
  rw [Option.some.inj e_a11]
  obtain ⟨σ12, e_σ12, h⟩ := zbd h
  refine zj_fP o (zdd k_D_init 17 rfl) fl_D_21 (Or.inr ⟨_, rfl⟩) hin rfl rfl e_σ12 ?_
  refine zj_aload_n o (zdd k_D_init 18 rfl) rfl 0 rfl ?_
  obtain ⟨σ13, e_σ13, h⟩ := zbd h
  refine zj_new (f := 2) (mc := 10) (ms := 700) o (zdd k_D_init 19 rfl) (by decide) cl_D_24 hrm (by decide) (by decide) ?_
  rw [Option.some.inj e_σ13]
  change zPJ X 5 97 _ _ _ _
  obtain ⟨a14, e_a14, h⟩ := zbd h
  rw [Option.some.inj e_a14]
  refine zj_dup o (zdd k_D_init 20 rfl) rfl ?_
  obtain ⟨σ15, e_σ15, h⟩ := zbd h
  refine zj_callI (mc := 10) (ms := 700) o (zdd k_D_init 21 rfl) (Or.inr ⟨_, nl_D_26⟩) mi_F_init (by decide) [] [.ref a14, .ref t] rfl (Nat.le_of_ble_eq_true rfl) rfl (m_F_init e_σ15) hrm (by decide) ?_
  change zPJ X 7 397 _ _ [.ref a14, .ref t] _
  obtain ⟨σ16, e_σ16, h⟩ := zbd h
  refine zj_fP o (zdd k_D_init 22 rfl) fl_D_27 (Or.inl ⟨_, rfl⟩) hin rfl rfl e_σ16 ?_
  refine zj_aload_n o (zdd k_D_init 23 rfl) rfl 0 rfl ?_
  obtain ⟨σ17, e_σ17, h⟩ := zbd h
  refine zj_new (f := 2) (mc := 10) (ms := 700) o (zdd k_D_init 24 rfl) (by decide) cl_D_24 hrm (by decide) (by decide) ?_
  rw [Option.some.inj e_σ17]
  change zPJ X 8 400 _ _ _ _
  obtain ⟨a18, e_a18, h⟩ := zbd h
  rw [Option.some.inj e_a18]
  refine zj_dup o (zdd k_D_init 25 rfl) rfl ?_
  obtain ⟨σ19, e_σ19, h⟩ := zbd h
  refine zj_callI (mc := 10) (ms := 700) o (zdd k_D_init 26 rfl) (Or.inr ⟨_, nl_D_26⟩) mi_F_init (by decide) [] [.ref a18, .ref t] rfl (Nat.le_of_ble_eq_true rfl) rfl (m_F_init e_σ19) hrm (by decide) ?_
  change zPJ X 10 700 _ _ [.ref a18, .ref t] _
  obtain ⟨σ20, e_σ20, h⟩ := zbd h
  refine zj_fP o (zdd k_D_init 27 rfl) fl_D_31 (Or.inl ⟨_, rfl⟩) hin rfl rfl e_σ20 ?_
  refine zj_aload_n o (zdd k_D_init 28 rfl) rfl 0 rfl ?_
  obtain ⟨σ21, e_σ21, h⟩ := zbd h
  refine zj_callV (mc := 10) (ms := 700) (mc' := 0) (ms' := 0) o (zdd k_D_init 29 rfl) ml_D_34 mv_D_forget ⟨rfl, by decide⟩ (zg_some e_σ21).1 (by decide) [] [] rfl (Nat.le_of_ble_eq_true rfl) rfl (m_D_forget e_σ21) hrm (by decide) ?_
  change zPJ X 10 700 _ _ [] _
  cases h
  exact zr_v o hr (zdd k_D_init 30 rfl)
def f_D_oddsOf_5 (k5 : zSt → Nat → Int32 → Int64 → Int32 → Option (Int64)) (σ : zSt) (v0 : Nat) (v1 : Int32) (v2 : Int64) (v4 : Int32) : Option (Int64) :=
(zgI σ 10 v0 2).bind fun x1 =>
if x1 ≤ v4 then (
some v2) else
if (v1 >>> (v4 &&& 31)) &&& 1 = 0 then (
(zgP σ 10 v0 10).bind fun a2 =>
(zaI σ 1 a2 v4).bind fun x3 =>
k5 σ v0 v1 (v2 * (Int32.toInt64 (100 - x3))) (v4 + 1)) else
(zgP σ 10 v0 10).bind fun a4 =>
(zaI σ 1 a4 v4).bind fun x5 =>
k5 σ v0 v1 (v2 * (Int32.toInt64 x5)) (v4 + 1)
set_option maxRecDepth 100000 in
set_option maxHeartbeats 4000000 in
theorem r_D_oddsOf_5 {X : zCX} (o : zOK X "WantShelves$Told" c_D_oddsOf n_D_oddsOf 1) {k5 : zSt → Nat → Int32 → Int64 → Int32 → Option (Int64)} (hk5 : ∀ {σ : zSt} {v0 : Nat} {v1 : Int32} {v2 : Int64} {v4 : Int32} {z : Int64}, k5 σ v0 v1 v2 v4 = some z → zRX X 0 0 (some (.long z)) σ → zPJ X 0 0 5 [(0, .ref v0), (1, .int v1), (2, .long v2), (4, .int v4)] [] σ) {σ : zSt} {v0 : Nat} {v1 : Int32} {v2 : Int64} {v4 : Int32} {z : Int64} (h : f_D_oddsOf_5 k5 σ v0 v1 v2 v4 = some z) (hr : zRX X 0 0 (some (.long z)) σ) : zPJ X 0 0 5 [(0, .ref v0), (1, .int v1), (2, .long v2), (4, .int v4)] [] σ := by
  unfold f_D_oddsOf_5 at h
  refine zj_iload o (zdd k_D_oddsOf 4 rfl) 3 rfl ?_
  refine zj_aload_n o (zdd k_D_oddsOf 5 rfl) rfl 0 rfl ?_
  obtain ⟨x1, e_x1, h⟩ := zbd h
  refine zj_gI o (zdd k_D_oddsOf 6 rfl) fl_D_44 rfl e_x1 ?_
  refine zj_icmp_ge (tgt := 54) o (zdd k_D_oddsOf 7 rfl) (by decide) (fun hc => ?_) (fun hc => ?_)
  · rw [if_pos hc] at h
    refine zj_lload_n o (zdd k_D_oddsOf 32 rfl) rfl 2 rfl ?_
    cases h
    exact zr_l o hr (zdd k_D_oddsOf 33 rfl)
  · rw [if_neg hc] at h
    refine zj_lload_n o (zdd k_D_oddsOf 8 rfl) rfl 2 rfl ?_
    refine zj_iload_n o (zdd k_D_oddsOf 9 rfl) rfl 1 rfl ?_
    refine zj_iload o (zdd k_D_oddsOf 10 rfl) 3 rfl ?_
    refine zj_ishr o (zdd k_D_oddsOf 11 rfl) ?_
    refine zj_iconst o (zdd k_D_oddsOf 12 rfl) zki_1 ?_
    refine zj_iand o (zdd k_D_oddsOf 13 rfl) ?_
    refine zj_if_eq (tgt := 35) o (zdd k_D_oddsOf 14 rfl) (by decide) (fun hc => ?_) (fun hc => ?_)
    · rw [if_pos hc] at h
      refine zj_bipush o (zdd k_D_oddsOf 21 rfl) zkb_100 ?_
      refine zj_aload_n o (zdd k_D_oddsOf 22 rfl) rfl 0 rfl ?_
      obtain ⟨a2, e_a2, h⟩ := zbd h
      refine zj_gP o (zdd k_D_oddsOf 23 rfl) fl_D_21 rfl e_a2 ?_
      refine zj_iload o (zdd k_D_oddsOf 24 rfl) 3 rfl ?_
      obtain ⟨x3, e_x3, h⟩ := zbd h
      refine zj_iald o (zdd k_D_oddsOf 25 rfl) e_x3 ?_
      refine zj_isub o (zdd k_D_oddsOf 26 rfl) ?_
      refine zj_i2l o (zdd k_D_oddsOf 27 rfl) ?_
      refine zj_lmul o (zdd k_D_oddsOf 28 rfl) ?_
      refine zj_lstore_n (loc' := [(2, .long (v2 * (Int32.toInt64 (100 - x3)))), (0, .ref v0), (1, .int v1), (4, .int v4)]) o (zdd k_D_oddsOf 29 rfl) rfl (by decide) rfl ?_
      refine zj_iinc (v := v4 + 1) (loc' := [(4, .int (v4 + 1)), (2, .long (v2 * (Int32.toInt64 (100 - x3)))), (0, .ref v0), (1, .int v1)]) o (zdd k_D_oddsOf 30 rfl) 3 rfl (by rw [zki_1]) (by decide) rfl ?_
      refine zj_goto (tgt := 5) o (zdd k_D_oddsOf 31 rfl) (by decide) ?_
      exact zj_sub [2, 3, 1, 0] rfl (hk5 h hr)
    · rw [if_neg hc] at h
      refine zj_aload_n o (zdd k_D_oddsOf 15 rfl) rfl 0 rfl ?_
      obtain ⟨a4, e_a4, h⟩ := zbd h
      refine zj_gP o (zdd k_D_oddsOf 16 rfl) fl_D_21 rfl e_a4 ?_
      refine zj_iload o (zdd k_D_oddsOf 17 rfl) 3 rfl ?_
      obtain ⟨x5, e_x5, h⟩ := zbd h
      refine zj_iald o (zdd k_D_oddsOf 18 rfl) e_x5 ?_
      refine zj_i2l o (zdd k_D_oddsOf 19 rfl) ?_
      refine zj_goto (tgt := 46) o (zdd k_D_oddsOf 20 rfl) (by decide) ?_
      refine zj_lmul o (zdd k_D_oddsOf 28 rfl) ?_
      refine zj_lstore_n (loc' := [(2, .long (v2 * (Int32.toInt64 x5))), (0, .ref v0), (1, .int v1), (4, .int v4)]) o (zdd k_D_oddsOf 29 rfl) rfl (by decide) rfl ?_
      refine zj_iinc (v := v4 + 1) (loc' := [(4, .int (v4 + 1)), (2, .long (v2 * (Int32.toInt64 x5))), (0, .ref v0), (1, .int v1)]) o (zdd k_D_oddsOf 30 rfl) 3 rfl (by rw [zki_1]) (by decide) rfl ?_
      refine zj_goto (tgt := 5) o (zdd k_D_oddsOf 31 rfl) (by decide) ?_
      exact zj_sub [2, 3, 1, 0] rfl (hk5 h hr)
def f_D_oddsOf_5L : Nat → zSt → Nat → Int32 → Int64 → Int32 → Option (Int64)
  | 0 => fun _ _ _ _ _ => none
  | n + 1 => f_D_oddsOf_5  (f_D_oddsOf_5L  n)
theorem r_D_oddsOf_5L {X : zCX} (o : zOK X "WantShelves$Told" c_D_oddsOf n_D_oddsOf 1) : ∀ (n : Nat) {σ : zSt} {v0 : Nat} {v1 : Int32} {v2 : Int64} {v4 : Int32} {z : Int64}, f_D_oddsOf_5L n σ v0 v1 v2 v4 = some z → zRX X 0 0 (some (.long z)) σ → zPJ X 0 0 5 [(0, .ref v0), (1, .int v1), (2, .long v2), (4, .int v4)] [] σ
  | 0 => fun h _ => by cases h
  | n + 1 => fun h hr => r_D_oddsOf_5 o (r_D_oddsOf_5L o  n) h hr
def f_D_oddsOf (σ : zSt) (t : Nat) (p0 : Int32) : Option (Int64) :=
zg σ 10 t (
f_D_oddsOf_5L zfu σ t p0 1 0)
set_option maxRecDepth 100000 in
set_option maxHeartbeats 4000000 in
theorem m_D_oddsOf {l : Launch} {b : Nat} {ex : Nat → Value} {D : va_G} {ca : Nat → ClassId} {σ : zSt} {t : Nat} {p0 : Int32} {z : Int64} (h : f_D_oddsOf σ t p0 = some z) : zMT l b ex D ca 1 y_D_oddsOf c_D_oddsOf n_D_oddsOf r_ret_D_oddsOf [.ref t, .int p0] σ (some (.long z)) σ 0 0 := by
  obtain ⟨_, hg0⟩ := zg_some h
  have h := hg0
  refine zmt_of (by decide) (Nat.le_of_ble_eq_true rfl) rfl (fun X o hin hrm _ _ _ _ _ hr => ?_)
  have hr := hr 0 0 (by decide) (by decide)
  have o : zOK X "WantShelves$Told" c_D_oddsOf n_D_oddsOf 1 := o
  change zPJ X 0 0 0 [(0, .ref t), (1, .int p0)] [] σ
  refine zj_lconst (v := 1) o (zdd k_D_oddsOf 0 rfl) rfl ?_
  refine zj_lstore_n (loc' := [(2, .long 1), (0, .ref t), (1, .int p0)]) o (zdd k_D_oddsOf 1 rfl) rfl (by decide) rfl ?_
  refine zj_iconst o (zdd k_D_oddsOf 2 rfl) zki_0 ?_
  refine zj_istore (loc' := [(4, .int 0), (2, .long 1), (0, .ref t), (1, .int p0)]) o (zdd k_D_oddsOf 3 rfl) (by decide) rfl ?_
  exact zj_sub [2, 3, 1, 0] rfl (r_D_oddsOf_5L o  zfu h hr)
