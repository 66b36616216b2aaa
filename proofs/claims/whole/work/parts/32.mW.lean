def f_W_init (σ : zSt) (t : Nat) : Option (zSt) :=
zg σ 11 t (
(some (znew σ (2, 1600))).bind fun (σ1 : zSt) =>
(some σ.1.length).bind fun (a2 : Nat) =>
(zsP σ1 11 t 0 a2).bind fun σ3 =>
(some (znew σ3 (0, 10))).bind fun (σ4 : zSt) =>
(some σ3.1.length).bind fun (a5 : Nat) =>
(f_D_init σ4 a5).bind fun σ6 =>
(zsP σ6 11 t 2 a5).bind fun σ7 =>
(some (znew σ7 (0, 10))).bind fun (σ8 : zSt) =>
(some σ7.1.length).bind fun (a9 : Nat) =>
(f_D_init σ8 a9).bind fun σ10 =>
(zsP σ10 11 t 3 a9).bind fun σ11 =>
(some (znew σ11 (0, 9))).bind fun (σ12 : zSt) =>
(some σ11.1.length).bind fun (a13 : Nat) =>
(zgP σ12 11 t 3).bind fun a14 =>
(f_T_init σ12 a13 a14).bind fun σ15 =>
(zsP σ15 11 t 4 a13).bind fun σ16 =>
(some (znew σ16 (0, 4))).bind fun (σ17 : zSt) =>
(some σ16.1.length).bind fun (a18 : Nat) =>
(f_N_init σ17 a18).bind fun σ19 =>
(zsP σ19 11 t 5 a18).bind fun σ20 =>
(some (znew σ20 (0, 4))).bind fun (σ21 : zSt) =>
(some σ20.1.length).bind fun (a22 : Nat) =>
(f_N_init σ21 a22).bind fun σ23 =>
(zsP σ23 11 t 6 a22).bind fun σ24 =>
(some (znew σ24 (5, 3))).bind fun (σ25 : zSt) =>
(some σ24.1.length).bind fun (a26 : Nat) =>
(zsP σ25 11 t 7 a26).bind fun σ27 =>
(some (znew σ27 (0, 0))).bind fun (σ28 : zSt) =>
(some σ27.1.length).bind fun (a29 : Nat) =>
(f_A_init σ28 a29).bind fun σ30 =>
(zsP σ30 11 t 8 a29).bind fun σ31 =>
(some (znew σ31 (0, 8))).bind fun (σ32 : zSt) =>
(some σ31.1.length).bind fun (a33 : Nat) =>
(zgP σ32 11 t 2).bind fun a34 =>
(f_S_init σ32 a33 a34).bind fun σ35 =>
(zsP σ35 11 t 9 a33).bind fun σ36 =>
(some (znew σ36 (0, 6))).bind fun (σ37 : zSt) =>
(some σ36.1.length).bind fun (a38 : Nat) =>
(f_R_init σ37 a38).bind fun σ39 =>
(zsP σ39 11 t 10 a38).bind fun σ40 =>
(some (znew σ40 (0, 6))).bind fun (σ41 : zSt) =>
(some σ40.1.length).bind fun (a42 : Nat) =>
(f_R_init σ41 a42).bind fun σ43 =>
(zsP σ43 11 t 11 a42).bind fun σ44 =>
(some (znew σ44 (0, 5))).bind fun (σ45 : zSt) =>
(some σ44.1.length).bind fun (a46 : Nat) =>
(f_O_init σ45 a46).bind fun σ47 =>
(zsP σ47 11 t 12 a46).bind fun σ48 =>
(some (znew σ48 (0, 1))).bind fun (σ49 : zSt) =>
(some σ48.1.length).bind fun (a50 : Nat) =>
(f_E_init σ49 a50).bind fun σ51 =>
(zsP σ51 11 t 13 a50).bind fun σ52 =>
(some (znew σ52 (0, 3))).bind fun (σ53 : zSt) =>
(some σ52.1.length).bind fun (a54 : Nat) =>
(f_L_init σ53 a54).bind fun σ55 =>
(zsP σ55 11 t 14 a54).bind fun σ56 =>
(some (znew σ56 (1, 10))).bind fun (σ57 : zSt) =>
(some σ56.1.length).bind fun (a58 : Nat) =>
(zsP σ57 11 t 15 a58).bind fun σ59 =>
(some (znew σ59 (1, 10))).bind fun (σ60 : zSt) =>
(some σ59.1.length).bind fun (a61 : Nat) =>
(zsP σ60 11 t 17 a61).bind fun σ62 =>
(zgP σ62 11 t 7).bind fun a63 =>
(some (znew σ62 (0, 4))).bind fun (σ64 : zSt) =>
(some σ62.1.length).bind fun (a65 : Nat) =>
(f_N_init σ64 a65).bind fun σ66 =>
(zwP σ66 4 a63 0 a65).bind fun σ67 =>
(zgP σ67 11 t 7).bind fun a68 =>
(some (znew σ67 (0, 4))).bind fun (σ69 : zSt) =>
(some σ67.1.length).bind fun (a70 : Nat) =>
(f_N_init σ69 a70).bind fun σ71 =>
(zwP σ71 4 a68 1 a70).bind fun σ72 =>
(zgP σ72 11 t 7).bind fun a73 =>
(some (znew σ72 (0, 4))).bind fun (σ74 : zSt) =>
(some σ72.1.length).bind fun (a75 : Nat) =>
(f_N_init σ74 a75).bind fun σ76 =>
(zwP σ76 4 a73 2 a75).bind fun σ77 =>
(zgP σ77 11 t 5).bind fun a78 =>
(zgP σ77 11 t 2).bind fun a79 =>
(f_N_begin σ77 a78 a79).bind fun σ80 =>
some σ80)
set_option maxRecDepth 100000 in
set_option maxHeartbeats 4000000 in
theorem m_W_init {l : Launch} {b : Nat} {ex : Nat → Value} {D : va_G} {ca : Nat → ClassId} {σ : zSt} {t : Nat} {z : zSt} (h : f_W_init σ t = some z) : zMT l b ex D ca 5 y_W_init c_W_init n_W_init r_ret_W_init [.ref t] σ none z 90 27901 := by
  obtain ⟨_, hg0⟩ := zg_some h
  have h := hg0
  refine zmt_of (by decide) (Nat.le_of_ble_eq_true rfl) rfl (fun X o hin hrm _ _ _ _ _ hr => ?_)
  have hin := hin rfl
  have hr := hr 90 27901 (by decide) (by decide)
  have o : zOK X "WantShelves" c_W_init n_W_init 5 := o
  change zPJ X 0 0 0 [(0, .ref t)] [] σ
  refine zj_aload_n o (zdd k_W_init 0 rfl) rfl 0 rfl ?_
  refine zj_objInit o (zdd k_W_init 1 rfl) ml_W_1 ob_im ob_code (by decide) (Nat.le_of_ble_eq_true rfl) ?_
  refine zj_aload_n o (zdd k_W_init 2 rfl) rfl 0 rfl ?_
  refine zj_sipush o (zdd k_W_init 3 rfl) zks_1600 ?_
  obtain ⟨σ1, e_σ1, h⟩ := zbd h
  refine zj_newa_byte (N := 1600) (mc := 90) (ms := 27901) o (zdd k_W_init 4 rfl) ac_byte (by decide) (by decide) (by decide) hrm (by decide) (by decide) ?_
  rw [Option.some.inj e_σ1]
  change zPJ X 1 1600 _ _ _ _
  obtain ⟨a2, e_a2, h⟩ := zbd h
  rw [Option.some.inj e_a2]
  obtain ⟨σ3, e_σ3, h⟩ := zbd h
  refine zj_fP o (zdd k_W_init 5 rfl) fl_W_9 (Or.inr ⟨_, rfl⟩) hin rfl rfl e_σ3 ?_
  refine zj_aload_n o (zdd k_W_init 6 rfl) rfl 0 rfl ?_
  obtain ⟨σ4, e_σ4, h⟩ := zbd h
  refine zj_new (f := 10) (mc := 90) (ms := 27901) o (zdd k_W_init 7 rfl) (by decide) cl_W_13 hrm (by decide) (by decide) ?_
  rw [Option.some.inj e_σ4]
  change zPJ X 2 1613 _ _ _ _
  obtain ⟨a5, e_a5, h⟩ := zbd h
  rw [Option.some.inj e_a5]
  refine zj_dup o (zdd k_W_init 8 rfl) rfl ?_
  obtain ⟨σ6, e_σ6, h⟩ := zbd h
  refine zj_callI (mc := 90) (ms := 27901) o (zdd k_W_init 9 rfl) (Or.inl ml_W_15) mi_D_init (by decide) [] [.ref a5, .ref t] rfl (Nat.le_of_ble_eq_true rfl) rfl (m_D_init e_σ6) hrm (by decide) ?_
  change zPJ X 12 2313 _ _ [.ref a5, .ref t] _
  obtain ⟨σ7, e_σ7, h⟩ := zbd h
  refine zj_pP o (zdd k_W_init 10 rfl) fl_W_16 (Or.inl ⟨_, rfl⟩) rfl e_σ7 ?_
  refine zj_aload_n o (zdd k_W_init 11 rfl) rfl 0 rfl ?_
  obtain ⟨σ8, e_σ8, h⟩ := zbd h
  refine zj_new (f := 10) (mc := 90) (ms := 27901) o (zdd k_W_init 12 rfl) (by decide) cl_W_13 hrm (by decide) (by decide) ?_
  rw [Option.some.inj e_σ8]
  change zPJ X 13 2326 _ _ _ _
  obtain ⟨a9, e_a9, h⟩ := zbd h
  rw [Option.some.inj e_a9]
  refine zj_dup o (zdd k_W_init 13 rfl) rfl ?_
  obtain ⟨σ10, e_σ10, h⟩ := zbd h
  refine zj_callI (mc := 90) (ms := 27901) o (zdd k_W_init 14 rfl) (Or.inl ml_W_15) mi_D_init (by decide) [] [.ref a9, .ref t] rfl (Nat.le_of_ble_eq_true rfl) rfl (m_D_init e_σ10) hrm (by decide) ?_
  change zPJ X 23 3026 _ _ [.ref a9, .ref t] _
  obtain ⟨σ11, e_σ11, h⟩ := zbd h
  refine zj_pP o (zdd k_W_init 15 rfl) fl_W_20 (Or.inl ⟨_, rfl⟩) rfl e_σ11 ?_
  refine zj_aload_n o (zdd k_W_init 16 rfl) rfl 0 rfl ?_
  obtain ⟨σ12, e_σ12, h⟩ := zbd h
  refine zj_new (f := 9) (mc := 90) (ms := 27901) o (zdd k_W_init 17 rfl) (by decide) cl_W_23 hrm (by decide) (by decide) ?_
  rw [Option.some.inj e_σ12]
  change zPJ X 24 3037 _ _ _ _
  obtain ⟨a13, e_a13, h⟩ := zbd h
  rw [Option.some.inj e_a13]
  refine zj_dup o (zdd k_W_init 18 rfl) rfl ?_
  refine zj_aload_n o (zdd k_W_init 19 rfl) rfl 0 rfl ?_
  obtain ⟨a14, e_a14, h⟩ := zbd h
  refine zj_gP o (zdd k_W_init 20 rfl) fl_W_20 rfl e_a14 ?_
  obtain ⟨σ15, e_σ15, h⟩ := zbd h
  refine zj_callI (mc := 90) (ms := 27901) o (zdd k_W_init 21 rfl) (Or.inl ml_W_25) mi_T_init (by decide) [.ref a14] [.ref a13, .ref t] rfl (Nat.le_of_ble_eq_true rfl) rfl (m_T_init e_σ15) hrm (by decide) ?_
  change zPJ X 29 3064 _ _ [.ref a13, .ref t] _
  obtain ⟨σ16, e_σ16, h⟩ := zbd h
  refine zj_fP o (zdd k_W_init 22 rfl) fl_W_28 (Or.inl ⟨_, rfl⟩) hin rfl rfl e_σ16 ?_
  refine zj_aload_n o (zdd k_W_init 23 rfl) rfl 0 rfl ?_
  obtain ⟨σ17, e_σ17, h⟩ := zbd h
  refine zj_new (f := 4) (mc := 90) (ms := 27901) o (zdd k_W_init 24 rfl) (by decide) cl_W_32 hrm (by decide) (by decide) ?_
  rw [Option.some.inj e_σ17]
  change zPJ X 30 3071 _ _ _ _
  obtain ⟨a18, e_a18, h⟩ := zbd h
  rw [Option.some.inj e_a18]
  refine zj_dup o (zdd k_W_init 25 rfl) rfl ?_
  obtain ⟨σ19, e_σ19, h⟩ := zbd h
  refine zj_callI (mc := 90) (ms := 27901) o (zdd k_W_init 26 rfl) (Or.inr ⟨_, nl_W_34⟩) mi_N_init (by decide) [] [.ref a18, .ref t] rfl (Nat.le_of_ble_eq_true rfl) rfl (m_N_init e_σ19) hrm (by decide) ?_
  change zPJ X 34 3167 _ _ [.ref a18, .ref t] _
  obtain ⟨σ20, e_σ20, h⟩ := zbd h
  refine zj_fP o (zdd k_W_init 27 rfl) fl_W_35 (Or.inl ⟨_, rfl⟩) hin rfl rfl e_σ20 ?_
  refine zj_aload_n o (zdd k_W_init 28 rfl) rfl 0 rfl ?_
  obtain ⟨σ21, e_σ21, h⟩ := zbd h
  refine zj_new (f := 4) (mc := 90) (ms := 27901) o (zdd k_W_init 29 rfl) (by decide) cl_W_32 hrm (by decide) (by decide) ?_
  rw [Option.some.inj e_σ21]
  change zPJ X 35 3174 _ _ _ _
  obtain ⟨a22, e_a22, h⟩ := zbd h
  rw [Option.some.inj e_a22]
  refine zj_dup o (zdd k_W_init 30 rfl) rfl ?_
  obtain ⟨σ23, e_σ23, h⟩ := zbd h
  refine zj_callI (mc := 90) (ms := 27901) o (zdd k_W_init 31 rfl) (Or.inr ⟨_, nl_W_34⟩) mi_N_init (by decide) [] [.ref a22, .ref t] rfl (Nat.le_of_ble_eq_true rfl) rfl (m_N_init e_σ23) hrm (by decide) ?_
  change zPJ X 39 3270 _ _ [.ref a22, .ref t] _
  obtain ⟨σ24, e_σ24, h⟩ := zbd h
  refine zj_fP o (zdd k_W_init 32 rfl) fl_W_39 (Or.inl ⟨_, rfl⟩) hin rfl rfl e_σ24 ?_
  refine zj_aload_n o (zdd k_W_init 33 rfl) rfl 0 rfl ?_
  refine zj_iconst o (zdd k_W_init 34 rfl) zki_3 ?_
  obtain ⟨σ25, e_σ25, h⟩ := zbd h
  refine zj_anew (N := 3) (mc := 90) (ms := 27901) o (zdd k_W_init 35 rfl) an_W_32 (by decide) (by decide) (by decide) hrm (by decide) (by decide) ?_
  rw [Option.some.inj e_σ25]
  change zPJ X 40 3273 _ _ _ _
  obtain ⟨a26, e_a26, h⟩ := zbd h
  rw [Option.some.inj e_a26]
  obtain ⟨σ27, e_σ27, h⟩ := zbd h
  refine zj_fP o (zdd k_W_init 36 rfl) fl_W_42 (Or.inr ⟨_, rfl⟩) hin rfl rfl e_σ27 ?_
  refine zj_aload_n o (zdd k_W_init 37 rfl) rfl 0 rfl ?_
  obtain ⟨σ28, e_σ28, h⟩ := zbd h
  refine zj_new (f := 0) (mc := 90) (ms := 27901) o (zdd k_W_init 38 rfl) (by decide) cl_W_46 hrm (by decide) (by decide) ?_
  rw [Option.some.inj e_σ28]
  change zPJ X 41 3281 _ _ _ _
  obtain ⟨a29, e_a29, h⟩ := zbd h
  rw [Option.some.inj e_a29]
  refine zj_dup o (zdd k_W_init 39 rfl) rfl ?_
  obtain ⟨σ30, e_σ30, h⟩ := zbd h
  refine zj_callI (mc := 90) (ms := 27901) o (zdd k_W_init 40 rfl) (Or.inr ⟨_, nl_W_48⟩) mi_A_init (by decide) [] [.ref a29, .ref t] rfl (Nat.le_of_ble_eq_true rfl) rfl (m_A_init e_σ30) hrm (by decide) ?_
  change zPJ X 46 3601 _ _ [.ref a29, .ref t] _
  obtain ⟨σ31, e_σ31, h⟩ := zbd h
  refine zj_fP o (zdd k_W_init 41 rfl) fl_W_49 (Or.inl ⟨_, rfl⟩) hin rfl rfl e_σ31 ?_
  refine zj_aload_n o (zdd k_W_init 42 rfl) rfl 0 rfl ?_
  obtain ⟨σ32, e_σ32, h⟩ := zbd h
  refine zj_new (f := 8) (mc := 90) (ms := 27901) o (zdd k_W_init 43 rfl) (by decide) cl_W_53 hrm (by decide) (by decide) ?_
  rw [Option.some.inj e_σ32]
  change zPJ X 47 3608 _ _ _ _
  obtain ⟨a33, e_a33, h⟩ := zbd h
  rw [Option.some.inj e_a33]
  refine zj_dup o (zdd k_W_init 44 rfl) rfl ?_
  refine zj_aload_n o (zdd k_W_init 45 rfl) rfl 0 rfl ?_
  obtain ⟨a34, e_a34, h⟩ := zbd h
  refine zj_gP o (zdd k_W_init 46 rfl) fl_W_16 rfl e_a34 ?_
  obtain ⟨σ35, e_σ35, h⟩ := zbd h
  refine zj_callI (mc := 90) (ms := 27901) o (zdd k_W_init 47 rfl) (Or.inl ml_W_55) mi_S_init (by decide) [.ref a34] [.ref a33, .ref t] rfl (Nat.le_of_ble_eq_true rfl) rfl (m_S_init e_σ35) hrm (by decide) ?_
  change zPJ X 51 3694 _ _ [.ref a33, .ref t] _
  obtain ⟨σ36, e_σ36, h⟩ := zbd h
  refine zj_fP o (zdd k_W_init 48 rfl) fl_W_56 (Or.inl ⟨_, rfl⟩) hin rfl rfl e_σ36 ?_
  refine zj_aload_n o (zdd k_W_init 49 rfl) rfl 0 rfl ?_
  obtain ⟨σ37, e_σ37, h⟩ := zbd h
  refine zj_new (f := 6) (mc := 90) (ms := 27901) o (zdd k_W_init 50 rfl) (by decide) cl_W_60 hrm (by decide) (by decide) ?_
  rw [Option.some.inj e_σ37]
  change zPJ X 52 3702 _ _ _ _
  obtain ⟨a38, e_a38, h⟩ := zbd h
  rw [Option.some.inj e_a38]
  refine zj_dup o (zdd k_W_init 51 rfl) rfl ?_
  obtain ⟨σ39, e_σ39, h⟩ := zbd h
  refine zj_callI (mc := 90) (ms := 27901) o (zdd k_W_init 52 rfl) (Or.inr ⟨_, nl_W_62⟩) mi_R_init (by decide) [] [.ref a38, .ref t] rfl (Nat.le_of_ble_eq_true rfl) rfl (m_R_init e_σ39) hrm (by decide) ?_
  change zPJ X 55 13077 _ _ [.ref a38, .ref t] _
  obtain ⟨σ40, e_σ40, h⟩ := zbd h
  refine zj_fP o (zdd k_W_init 53 rfl) fl_W_63 (Or.inl ⟨_, rfl⟩) hin rfl rfl e_σ40 ?_
  refine zj_aload_n o (zdd k_W_init 54 rfl) rfl 0 rfl ?_
  obtain ⟨σ41, e_σ41, h⟩ := zbd h
  refine zj_new (f := 6) (mc := 90) (ms := 27901) o (zdd k_W_init 55 rfl) (by decide) cl_W_60 hrm (by decide) (by decide) ?_
  rw [Option.some.inj e_σ41]
  change zPJ X 56 13085 _ _ _ _
  obtain ⟨a42, e_a42, h⟩ := zbd h
  rw [Option.some.inj e_a42]
  refine zj_dup o (zdd k_W_init 56 rfl) rfl ?_
  obtain ⟨σ43, e_σ43, h⟩ := zbd h
  refine zj_callI (mc := 90) (ms := 27901) o (zdd k_W_init 57 rfl) (Or.inr ⟨_, nl_W_62⟩) mi_R_init (by decide) [] [.ref a42, .ref t] rfl (Nat.le_of_ble_eq_true rfl) rfl (m_R_init e_σ43) hrm (by decide) ?_
  change zPJ X 59 22460 _ _ [.ref a42, .ref t] _
  obtain ⟨σ44, e_σ44, h⟩ := zbd h
  refine zj_fP o (zdd k_W_init 58 rfl) fl_W_67 (Or.inl ⟨_, rfl⟩) hin rfl rfl e_σ44 ?_
  refine zj_aload_n o (zdd k_W_init 59 rfl) rfl 0 rfl ?_
  obtain ⟨σ45, e_σ45, h⟩ := zbd h
  refine zj_new (f := 5) (mc := 90) (ms := 27901) o (zdd k_W_init 60 rfl) (by decide) cl_W_70 hrm (by decide) (by decide) ?_
  rw [Option.some.inj e_σ45]
  change zPJ X 60 22465 _ _ _ _
  obtain ⟨a46, e_a46, h⟩ := zbd h
  rw [Option.some.inj e_a46]
  refine zj_dup o (zdd k_W_init 61 rfl) rfl ?_
  obtain ⟨σ47, e_σ47, h⟩ := zbd h
  refine zj_callI (mc := 90) (ms := 27901) o (zdd k_W_init 62 rfl) (Or.inr ⟨_, nl_W_72⟩) mi_O_init (by decide) [] [.ref a46, .ref t] rfl (Nat.le_of_ble_eq_true rfl) rfl (m_O_init e_σ47) hrm (by decide) ?_
  change zPJ X 63 24340 _ _ [.ref a46, .ref t] _
  obtain ⟨σ48, e_σ48, h⟩ := zbd h
  refine zj_fP o (zdd k_W_init 63 rfl) fl_W_73 (Or.inl ⟨_, rfl⟩) hin rfl rfl e_σ48 ?_
  refine zj_aload_n o (zdd k_W_init 64 rfl) rfl 0 rfl ?_
  obtain ⟨σ49, e_σ49, h⟩ := zbd h
  refine zj_new (f := 1) (mc := 90) (ms := 27901) o (zdd k_W_init 65 rfl) (by decide) cl_W_77 hrm (by decide) (by decide) ?_
  rw [Option.some.inj e_σ49]
  change zPJ X 64 24343 _ _ _ _
  obtain ⟨a50, e_a50, h⟩ := zbd h
  rw [Option.some.inj e_a50]
  refine zj_dup o (zdd k_W_init 66 rfl) rfl ?_
  obtain ⟨σ51, e_σ51, h⟩ := zbd h
  refine zj_callI (mc := 90) (ms := 27901) o (zdd k_W_init 67 rfl) (Or.inr ⟨_, nl_W_79⟩) mi_E_init (by decide) [] [.ref a50, .ref t] rfl (Nat.le_of_ble_eq_true rfl) rfl (m_E_init e_σ51) hrm (by decide) ?_
  change zPJ X 67 27415 _ _ [.ref a50, .ref t] _
  obtain ⟨σ52, e_σ52, h⟩ := zbd h
  refine zj_fP o (zdd k_W_init 68 rfl) fl_W_80 (Or.inl ⟨_, rfl⟩) hin rfl rfl e_σ52 ?_
  refine zj_aload_n o (zdd k_W_init 69 rfl) rfl 0 rfl ?_
  obtain ⟨σ53, e_σ53, h⟩ := zbd h
  refine zj_new (f := 3) (mc := 90) (ms := 27901) o (zdd k_W_init 70 rfl) (by decide) cl_W_84 hrm (by decide) (by decide) ?_
  rw [Option.some.inj e_σ53]
  change zPJ X 68 27422 _ _ _ _
  obtain ⟨a54, e_a54, h⟩ := zbd h
  rw [Option.some.inj e_a54]
  refine zj_dup o (zdd k_W_init 71 rfl) rfl ?_
  obtain ⟨σ55, e_σ55, h⟩ := zbd h
  refine zj_callI (mc := 90) (ms := 27901) o (zdd k_W_init 72 rfl) (Or.inr ⟨_, nl_W_86⟩) mi_L_init (by decide) [] [.ref a54, .ref t] rfl (Nat.le_of_ble_eq_true rfl) rfl (m_L_init e_σ55) hrm (by decide) ?_
  change zPJ X 73 27572 _ _ [.ref a54, .ref t] _
  obtain ⟨σ56, e_σ56, h⟩ := zbd h
  refine zj_fP o (zdd k_W_init 73 rfl) fl_W_87 (Or.inl ⟨_, rfl⟩) hin rfl rfl e_σ56 ?_
  refine zj_aload_n o (zdd k_W_init 74 rfl) rfl 0 rfl ?_
  refine zj_bipush o (zdd k_W_init 75 rfl) zkb_10 ?_
  obtain ⟨σ57, e_σ57, h⟩ := zbd h
  refine zj_newa_int (N := 10) (mc := 90) (ms := 27901) o (zdd k_W_init 76 rfl) ac_int (by decide) (by decide) (by decide) hrm (by decide) (by decide) ?_
  rw [Option.some.inj e_σ57]
  change zPJ X 74 27582 _ _ _ _
  obtain ⟨a58, e_a58, h⟩ := zbd h
  rw [Option.some.inj e_a58]
  obtain ⟨σ59, e_σ59, h⟩ := zbd h
  refine zj_fP o (zdd k_W_init 77 rfl) fl_W_91 (Or.inr ⟨_, rfl⟩) hin rfl rfl e_σ59 ?_
  refine zj_aload_n o (zdd k_W_init 78 rfl) rfl 0 rfl ?_
  refine zj_bipush o (zdd k_W_init 79 rfl) zkb_10 ?_
  obtain ⟨σ60, e_σ60, h⟩ := zbd h
  refine zj_newa_int (N := 10) (mc := 90) (ms := 27901) o (zdd k_W_init 80 rfl) ac_int (by decide) (by decide) (by decide) hrm (by decide) (by decide) ?_
  rw [Option.some.inj e_σ60]
  change zPJ X 75 27592 _ _ _ _
  obtain ⟨a61, e_a61, h⟩ := zbd h
  rw [Option.some.inj e_a61]
  obtain ⟨σ62, e_σ62, h⟩ := zbd h
  refine zj_fP o (zdd k_W_init 81 rfl) fl_W_95 (Or.inr ⟨_, rfl⟩) hin rfl rfl e_σ62 ?_
  refine zj_iconst o (zdd k_W_init 82 rfl) zki_0 ?_
  refine zj_istore_n (loc' := [(1, .int 0), (0, .ref t)]) o (zdd k_W_init 83 rfl) rfl (by decide) rfl ?_
  refine zj_iload_n o (zdd k_W_init 84 rfl) rfl 0 rfl ?_
  refine zj_iconst o (zdd k_W_init 85 rfl) zki_3 ?_
  refine zj_icmp_ge (tgt := 203) o (zdd k_W_init 86 rfl) (by decide) (fun hc => absurd hc (by decide)) (fun _ => ?_)
  refine zj_aload_n o (zdd k_W_init 87 rfl) rfl 1 rfl ?_
  obtain ⟨a63, e_a63, h⟩ := zbd h
  refine zj_gP o (zdd k_W_init 88 rfl) fl_W_42 rfl e_a63 ?_
  refine zj_iload_n o (zdd k_W_init 89 rfl) rfl 0 rfl ?_
  obtain ⟨σ64, e_σ64, h⟩ := zbd h
  refine zj_new (f := 4) (mc := 90) (ms := 27901) o (zdd k_W_init 90 rfl) (by decide) cl_W_32 hrm (by decide) (by decide) ?_
  rw [Option.some.inj e_σ64]
  change zPJ X 76 27599 _ _ _ _
  obtain ⟨a65, e_a65, h⟩ := zbd h
  rw [Option.some.inj e_a65]
  refine zj_dup o (zdd k_W_init 91 rfl) rfl ?_
  obtain ⟨σ66, e_σ66, h⟩ := zbd h
  refine zj_callI (mc := 90) (ms := 27901) o (zdd k_W_init 92 rfl) (Or.inr ⟨_, nl_W_34⟩) mi_N_init (by decide) [] [.ref a65, .int 0, .ref a63] rfl (Nat.le_of_ble_eq_true rfl) rfl (m_N_init e_σ66) hrm (by decide) ?_
  change zPJ X 80 27695 _ _ [.ref a65, .int 0, .ref a63] _
  obtain ⟨σ67, e_σ67, h⟩ := zbd h
  refine zj_aast o (zdd k_W_init 93 rfl) e_σ67 ?_
  refine zj_iinc (v := 1) (loc' := [(1, .int 1), (0, .ref t)]) o (zdd k_W_init 94 rfl) 0 rfl (by decide) (by decide) rfl ?_
  refine zj_goto (tgt := 179) o (zdd k_W_init 95 rfl) (by decide) ?_
  refine zj_iload_n o (zdd k_W_init 84 rfl) rfl 0 rfl ?_
  refine zj_iconst o (zdd k_W_init 85 rfl) zki_3 ?_
  refine zj_icmp_ge (tgt := 203) o (zdd k_W_init 86 rfl) (by decide) (fun hc => absurd hc (by decide)) (fun _ => ?_)
  refine zj_aload_n o (zdd k_W_init 87 rfl) rfl 1 rfl ?_
  obtain ⟨a68, e_a68, h⟩ := zbd h
  refine zj_gP o (zdd k_W_init 88 rfl) fl_W_42 rfl e_a68 ?_
  refine zj_iload_n o (zdd k_W_init 89 rfl) rfl 0 rfl ?_
  obtain ⟨σ69, e_σ69, h⟩ := zbd h
  refine zj_new (f := 4) (mc := 90) (ms := 27901) o (zdd k_W_init 90 rfl) (by decide) cl_W_32 hrm (by decide) (by decide) ?_
  rw [Option.some.inj e_σ69]
  change zPJ X 81 27702 _ _ _ _
  obtain ⟨a70, e_a70, h⟩ := zbd h
  rw [Option.some.inj e_a70]
  refine zj_dup o (zdd k_W_init 91 rfl) rfl ?_
  obtain ⟨σ71, e_σ71, h⟩ := zbd h
  refine zj_callI (mc := 90) (ms := 27901) o (zdd k_W_init 92 rfl) (Or.inr ⟨_, nl_W_34⟩) mi_N_init (by decide) [] [.ref a70, .int 1, .ref a68] rfl (Nat.le_of_ble_eq_true rfl) rfl (m_N_init e_σ71) hrm (by decide) ?_
  change zPJ X 85 27798 _ _ [.ref a70, .int 1, .ref a68] _
  obtain ⟨σ72, e_σ72, h⟩ := zbd h
  refine zj_aast o (zdd k_W_init 93 rfl) e_σ72 ?_
  refine zj_iinc (v := 2) (loc' := [(1, .int 2), (0, .ref t)]) o (zdd k_W_init 94 rfl) 0 rfl (by decide) (by decide) rfl ?_
  refine zj_goto (tgt := 179) o (zdd k_W_init 95 rfl) (by decide) ?_
  refine zj_iload_n o (zdd k_W_init 84 rfl) rfl 0 rfl ?_
  refine zj_iconst o (zdd k_W_init 85 rfl) zki_3 ?_
  refine zj_icmp_ge (tgt := 203) o (zdd k_W_init 86 rfl) (by decide) (fun hc => absurd hc (by decide)) (fun _ => ?_)
  refine zj_aload_n o (zdd k_W_init 87 rfl) rfl 1 rfl ?_
  obtain ⟨a73, e_a73, h⟩ := zbd h
  refine zj_gP o (zdd k_W_init 88 rfl) fl_W_42 rfl e_a73 ?_
  refine zj_iload_n o (zdd k_W_init 89 rfl) rfl 0 rfl ?_
  obtain ⟨σ74, e_σ74, h⟩ := zbd h
  refine zj_new (f := 4) (mc := 90) (ms := 27901) o (zdd k_W_init 90 rfl) (by decide) cl_W_32 hrm (by decide) (by decide) ?_
  rw [Option.some.inj e_σ74]
  change zPJ X 86 27805 _ _ _ _
  obtain ⟨a75, e_a75, h⟩ := zbd h
  rw [Option.some.inj e_a75]
  refine zj_dup o (zdd k_W_init 91 rfl) rfl ?_
  obtain ⟨σ76, e_σ76, h⟩ := zbd h
  refine zj_callI (mc := 90) (ms := 27901) o (zdd k_W_init 92 rfl) (Or.inr ⟨_, nl_W_34⟩) mi_N_init (by decide) [] [.ref a75, .int 2, .ref a73] rfl (Nat.le_of_ble_eq_true rfl) rfl (m_N_init e_σ76) hrm (by decide) ?_
  change zPJ X 90 27901 _ _ [.ref a75, .int 2, .ref a73] _
  obtain ⟨σ77, e_σ77, h⟩ := zbd h
  refine zj_aast o (zdd k_W_init 93 rfl) e_σ77 ?_
  refine zj_iinc (v := 3) (loc' := [(1, .int 3), (0, .ref t)]) o (zdd k_W_init 94 rfl) 0 rfl (by decide) (by decide) rfl ?_
  refine zj_goto (tgt := 179) o (zdd k_W_init 95 rfl) (by decide) ?_
  refine zj_iload_n o (zdd k_W_init 84 rfl) rfl 0 rfl ?_
  refine zj_iconst o (zdd k_W_init 85 rfl) zki_3 ?_
  refine zj_icmp_ge (tgt := 203) o (zdd k_W_init 86 rfl) (by decide) (fun _ => ?_) (fun hc => absurd hc (by decide))
  refine zj_aload_n o (zdd k_W_init 96 rfl) rfl 1 rfl ?_
  obtain ⟨a78, e_a78, h⟩ := zbd h
  refine zj_gP o (zdd k_W_init 97 rfl) fl_W_35 rfl e_a78 ?_
  refine zj_aload_n o (zdd k_W_init 98 rfl) rfl 1 rfl ?_
  obtain ⟨a79, e_a79, h⟩ := zbd h
  refine zj_gP o (zdd k_W_init 99 rfl) fl_W_16 rfl e_a79 ?_
  obtain ⟨σ80, e_σ80, h⟩ := zbd h
  refine zj_callV (mc := 90) (ms := 27901) (mc' := 0) (ms' := 0) o (zdd k_W_init 100 rfl) ml_W_98 mv_N_begin ⟨rfl, by decide⟩ (zg_some e_σ80).1 (by decide) [.ref a79] [] rfl (Nat.le_of_ble_eq_true rfl) rfl (m_N_begin e_σ80) hrm (by decide) ?_
  change zPJ X 90 27901 _ _ [] _
  cases h
  exact zr_v o hr (zdd k_W_init 101 rfl)
def f_W_putOnTape_3 (k3 : zSt → Nat → Int32 → Int32 → Option (zSt)) (σ : zSt) (v0 : Nat) (v1 : Int32) (v2 : Int32) : Option (zSt) :=
if v2 < 0 then (
some σ) else
(zgI σ 11 v0 1).bind fun x1 =>
if 1600 ≤ x1 then (
k3 σ v0 v1 (v2 + (-8))) else
(zgP σ 11 v0 0).bind fun a2 =>
(zgI σ 11 v0 1).bind fun x3 =>
(zwI σ 2 a2 x3 (zbyt (((v1 : Int32).toUInt32 >>> ((v2 : Int32).toUInt32 &&& Int32.toUInt32 31)).toInt32))).bind fun σ4 =>
(zgI σ4 11 v0 1).bind fun x5 =>
(zsI σ4 11 v0 1 (x5 + 1)).bind fun σ6 =>
k3 σ6 v0 v1 (v2 + (-8))
set_option maxRecDepth 100000 in
set_option maxHeartbeats 4000000 in
theorem r_W_putOnTape_3 {X : zCX} (o : zOK X "WantShelves" c_W_putOnTape n_W_putOnTape 1) {k3 : zSt → Nat → Int32 → Int32 → Option (zSt)} (hk3 : ∀ {σ : zSt} {v0 : Nat} {v1 : Int32} {v2 : Int32} {z : zSt}, k3 σ v0 v1 v2 = some z → zRX X 0 0 none z → zPJ X 0 0 3 [(0, .ref v0), (1, .int v1), (2, .int v2)] [] σ) {σ : zSt} {v0 : Nat} {v1 : Int32} {v2 : Int32} {z : zSt} (h : f_W_putOnTape_3 k3 σ v0 v1 v2 = some z) (hr : zRX X 0 0 none z) : zPJ X 0 0 3 [(0, .ref v0), (1, .int v1), (2, .int v2)] [] σ := by
  unfold f_W_putOnTape_3 at h
  refine zj_iload_n o (zdd k_W_putOnTape 2 rfl) rfl 2 rfl ?_
  refine zj_if_lt (tgt := 46) o (zdd k_W_putOnTape 3 rfl) (by decide) (fun hc => ?_) (fun hc => ?_)
  · rw [if_pos hc] at h
    cases h
    exact zr_v o hr (zdd k_W_putOnTape 25 rfl)
  · rw [if_neg hc] at h
    refine zj_aload_n o (zdd k_W_putOnTape 4 rfl) rfl 0 rfl ?_
    obtain ⟨x1, e_x1, h⟩ := zbd h
    refine zj_gI o (zdd k_W_putOnTape 5 rfl) fl_W_101 rfl e_x1 ?_
    refine zj_sipush o (zdd k_W_putOnTape 6 rfl) zks_1600 ?_
    refine zj_icmp_ge (tgt := 40) o (zdd k_W_putOnTape 7 rfl) (by decide) (fun hc => ?_) (fun hc => ?_)
    · rw [if_pos hc] at h
      refine zj_iinc (v := v2 + (-8)) (loc' := [(2, .int (v2 + (-8))), (0, .ref v0), (1, .int v1)]) o (zdd k_W_putOnTape 23 rfl) 2 rfl (by rw [zki_m8]) (by decide) rfl ?_
      refine zj_goto (tgt := 3) o (zdd k_W_putOnTape 24 rfl) (by decide) ?_
      exact zj_sub [1, 2, 0] rfl (hk3 h hr)
    · rw [if_neg hc] at h
      refine zj_aload_n o (zdd k_W_putOnTape 8 rfl) rfl 0 rfl ?_
      obtain ⟨a2, e_a2, h⟩ := zbd h
      refine zj_gP o (zdd k_W_putOnTape 9 rfl) fl_W_9 rfl e_a2 ?_
      refine zj_aload_n o (zdd k_W_putOnTape 10 rfl) rfl 0 rfl ?_
      obtain ⟨x3, e_x3, h⟩ := zbd h
      refine zj_gI o (zdd k_W_putOnTape 11 rfl) fl_W_101 rfl e_x3 ?_
      refine zj_iload_n o (zdd k_W_putOnTape 12 rfl) rfl 1 rfl ?_
      refine zj_iload_n o (zdd k_W_putOnTape 13 rfl) rfl 2 rfl ?_
      refine zj_iushr o (zdd k_W_putOnTape 14 rfl) ?_
      refine zj_i2b o (zdd k_W_putOnTape 15 rfl) ?_
      change zPJ X 0 0 _ _ [.int (zbyt (((v1 : Int32).toUInt32 >>> ((v2 : Int32).toUInt32 &&& Int32.toUInt32 31)).toInt32)), .int x3, .ref a2] _
      obtain ⟨σ4, e_σ4, h⟩ := zbd h
      refine zj_bast o (zdd k_W_putOnTape 16 rfl) e_σ4 ?_
      refine zj_aload_n o (zdd k_W_putOnTape 17 rfl) rfl 0 rfl ?_
      refine zj_dup o (zdd k_W_putOnTape 18 rfl) rfl ?_
      obtain ⟨x5, e_x5, h⟩ := zbd h
      refine zj_gI o (zdd k_W_putOnTape 19 rfl) fl_W_101 rfl e_x5 ?_
      refine zj_iconst o (zdd k_W_putOnTape 20 rfl) zki_1 ?_
      refine zj_iadd o (zdd k_W_putOnTape 21 rfl) ?_
      obtain ⟨σ6, e_σ6, h⟩ := zbd h
      refine zj_pI o (zdd k_W_putOnTape 22 rfl) fl_W_101 rfl rfl e_σ6 ?_
      refine zj_iinc (v := v2 + (-8)) (loc' := [(2, .int (v2 + (-8))), (0, .ref v0), (1, .int v1)]) o (zdd k_W_putOnTape 23 rfl) 2 rfl (by rw [zki_m8]) (by decide) rfl ?_
      refine zj_goto (tgt := 3) o (zdd k_W_putOnTape 24 rfl) (by decide) ?_
      exact zj_sub [1, 2, 0] rfl (hk3 h hr)
def f_W_putOnTape_3L : Nat → zSt → Nat → Int32 → Int32 → Option (zSt)
  | 0 => fun _ _ _ _ => none
  | n + 1 => f_W_putOnTape_3  (f_W_putOnTape_3L  n)
theorem r_W_putOnTape_3L {X : zCX} (o : zOK X "WantShelves" c_W_putOnTape n_W_putOnTape 1) : ∀ (n : Nat) {σ : zSt} {v0 : Nat} {v1 : Int32} {v2 : Int32} {z : zSt}, f_W_putOnTape_3L n σ v0 v1 v2 = some z → zRX X 0 0 none z → zPJ X 0 0 3 [(0, .ref v0), (1, .int v1), (2, .int v2)] [] σ
  | 0 => fun h _ => by cases h
  | n + 1 => fun h hr => r_W_putOnTape_3 o (r_W_putOnTape_3L o  n) h hr
def f_W_putOnTape (σ : zSt) (t : Nat) (p0 : Int32) : Option (zSt) :=
zg σ 11 t (
f_W_putOnTape_3L zfu σ t p0 24)
set_option maxRecDepth 100000 in
set_option maxHeartbeats 4000000 in
theorem m_W_putOnTape {l : Launch} {b : Nat} {ex : Nat → Value} {D : va_G} {ca : Nat → ClassId} {σ : zSt} {t : Nat} {p0 : Int32} {z : zSt} (h : f_W_putOnTape σ t p0 = some z) : zMT l b ex D ca 1 y_W_putOnTape c_W_putOnTape n_W_putOnTape r_ret_W_putOnTape [.ref t, .int p0] σ none z 0 0 := by
  obtain ⟨_, hg0⟩ := zg_some h
  have h := hg0
  refine zmt_of (by decide) (Nat.le_of_ble_eq_true rfl) rfl (fun X o hin hrm _ _ _ _ _ hr => ?_)
  have hr := hr 0 0 (by decide) (by decide)
  have o : zOK X "WantShelves" c_W_putOnTape n_W_putOnTape 1 := o
  change zPJ X 0 0 0 [(0, .ref t), (1, .int p0)] [] σ
  refine zj_bipush o (zdd k_W_putOnTape 0 rfl) zkb_24 ?_
  refine zj_istore_n (loc' := [(2, .int 24), (0, .ref t), (1, .int p0)]) o (zdd k_W_putOnTape 1 rfl) rfl (by decide) rfl ?_
  exact zj_sub [1, 2, 0] rfl (r_W_putOnTape_3L o  zfu h hr)
def f_W_feed (σ : zSt) (t : Nat) (p0 : Int32) (p1 : Int32) (p2 : Int32) (p3 : Int32) (p4 : Int32) : Option (Int32 × zSt) :=
zg σ 11 t (
(zgI σ 11 t 1).bind fun x1 =>
if x1 + 20 ≤ 1600 then (
(f_W_putOnTape σ t p0).bind fun σ2 =>
(f_W_putOnTape σ2 t p1).bind fun σ3 =>
(f_W_putOnTape σ3 t p2).bind fun σ4 =>
(f_W_putOnTape σ4 t p3).bind fun σ5 =>
(f_W_putOnTape σ5 t p4).bind fun σ6 =>
(zgI σ6 11 t 1).bind fun x7 =>
some (x7, σ6)) else
some ((-1), σ))
set_option maxRecDepth 100000 in
set_option maxHeartbeats 4000000 in
theorem m_W_feed {l : Launch} {b : Nat} {ex : Nat → Value} {D : va_G} {ca : Nat → ClassId} {σ : zSt} {t : Nat} {p0 : Int32} {p1 : Int32} {p2 : Int32} {p3 : Int32} {p4 : Int32} {z : Int32 × zSt} (h : f_W_feed σ t p0 p1 p2 p3 p4 = some z) : zMT l b ex D ca 2 y_W_feed c_W_feed n_W_feed r_ret_W_feed [.ref t, .int p0, .int p1, .int p2, .int p3, .int p4] σ (some (.int z.1)) z.2 0 0 := by
  obtain ⟨_, hg0⟩ := zg_some h
  have h := hg0
  refine zmt_of (by decide) (Nat.le_of_ble_eq_true rfl) ⟨.int, rfl, rfl⟩ (fun X o hin hrm _ _ _ _ _ hr => ?_)
  have hr := hr 0 0 (by decide) (by decide)
  have o : zOK X "WantShelves" c_W_feed n_W_feed 2 := o
  change zPJ X 0 0 0 [(0, .ref t), (1, .int p0), (2, .int p1), (3, .int p2), (4, .int p3), (5, .int p4)] [] σ
  refine zj_aload_n o (zdd k_W_feed 0 rfl) rfl 0 rfl ?_
  obtain ⟨x1, e_x1, h⟩ := zbd h
  refine zj_gI o (zdd k_W_feed 1 rfl) fl_W_101 rfl e_x1 ?_
  refine zj_bipush o (zdd k_W_feed 2 rfl) zkb_20 ?_
  refine zj_iadd o (zdd k_W_feed 3 rfl) ?_
  refine zj_sipush o (zdd k_W_feed 4 rfl) zks_1600 ?_
  refine zj_icmp_le (tgt := 15) o (zdd k_W_feed 5 rfl) (by decide) (fun hc => ?_) (fun hc => ?_)
  · rw [if_pos hc] at h
    refine zj_aload_n o (zdd k_W_feed 8 rfl) rfl 0 rfl ?_
    refine zj_iload_n o (zdd k_W_feed 9 rfl) rfl 1 rfl ?_
    obtain ⟨σ2, e_σ2, h⟩ := zbd h
    refine zc_V o (zdd k_W_feed 10 rfl) ml_W_105 mv_W_putOnTape ⟨rfl, by decide⟩ (zg_some e_σ2).1 (by decide) [.int p0] [] rfl (Nat.le_of_ble_eq_true rfl) rfl (m_W_putOnTape e_σ2) ?_
    change zPJ X 0 0 _ _ [] _
    refine zj_aload_n o (zdd k_W_feed 11 rfl) rfl 0 rfl ?_
    refine zj_iload_n o (zdd k_W_feed 12 rfl) rfl 2 rfl ?_
    obtain ⟨σ3, e_σ3, h⟩ := zbd h
    refine zc_V o (zdd k_W_feed 13 rfl) ml_W_105 mv_W_putOnTape ⟨rfl, by decide⟩ (zg_some e_σ3).1 (by decide) [.int p1] [] rfl (Nat.le_of_ble_eq_true rfl) rfl (m_W_putOnTape e_σ3) ?_
    change zPJ X 0 0 _ _ [] _
    refine zj_aload_n o (zdd k_W_feed 14 rfl) rfl 0 rfl ?_
    refine zj_iload_n o (zdd k_W_feed 15 rfl) rfl 3 rfl ?_
    obtain ⟨σ4, e_σ4, h⟩ := zbd h
    refine zc_V o (zdd k_W_feed 16 rfl) ml_W_105 mv_W_putOnTape ⟨rfl, by decide⟩ (zg_some e_σ4).1 (by decide) [.int p2] [] rfl (Nat.le_of_ble_eq_true rfl) rfl (m_W_putOnTape e_σ4) ?_
    change zPJ X 0 0 _ _ [] _
    refine zj_aload_n o (zdd k_W_feed 17 rfl) rfl 0 rfl ?_
    refine zj_iload o (zdd k_W_feed 18 rfl) 4 rfl ?_
    obtain ⟨σ5, e_σ5, h⟩ := zbd h
    refine zc_V o (zdd k_W_feed 19 rfl) ml_W_105 mv_W_putOnTape ⟨rfl, by decide⟩ (zg_some e_σ5).1 (by decide) [.int p3] [] rfl (Nat.le_of_ble_eq_true rfl) rfl (m_W_putOnTape e_σ5) ?_
    change zPJ X 0 0 _ _ [] _
    refine zj_aload_n o (zdd k_W_feed 20 rfl) rfl 0 rfl ?_
    refine zj_iload o (zdd k_W_feed 21 rfl) 5 rfl ?_
    obtain ⟨σ6, e_σ6, h⟩ := zbd h
    refine zc_V o (zdd k_W_feed 22 rfl) ml_W_105 mv_W_putOnTape ⟨rfl, by decide⟩ (zg_some e_σ6).1 (by decide) [.int p4] [] rfl (Nat.le_of_ble_eq_true rfl) rfl (m_W_putOnTape e_σ6) ?_
    change zPJ X 0 0 _ _ [] _
    refine zj_aload_n o (zdd k_W_feed 23 rfl) rfl 0 rfl ?_
    obtain ⟨x7, e_x7, h⟩ := zbd h
    refine zj_gI o (zdd k_W_feed 24 rfl) fl_W_101 rfl e_x7 ?_
    cases h
    exact zr_i o hr (zdd k_W_feed 25 rfl)
  · rw [if_neg hc] at h
    refine zj_iconst o (zdd k_W_feed 6 rfl) zki_m1 ?_
    cases h
    exact zr_i o hr (zdd k_W_feed 7 rfl)
def f_W_end (σ : zSt) (t : Nat) (p0 : Int32) : Option (Int32 × zSt) :=
zg σ 11 t (
if p0 < 0 then (
some ((-1), σ)) else
(zgI σ 11 t 1).bind fun x1 =>
if p0 ≤ x1 then (
(zsI σ 11 t 1 p0).bind fun σ2 =>
some (p0, σ2)) else
some ((-1), σ))
set_option maxRecDepth 100000 in
set_option maxHeartbeats 4000000 in
theorem m_W_end {l : Launch} {b : Nat} {ex : Nat → Value} {D : va_G} {ca : Nat → ClassId} {σ : zSt} {t : Nat} {p0 : Int32} {z : Int32 × zSt} (h : f_W_end σ t p0 = some z) : zMT l b ex D ca 1 y_W_end c_W_end n_W_end r_ret_W_end [.ref t, .int p0] σ (some (.int z.1)) z.2 0 0 := by
  obtain ⟨_, hg0⟩ := zg_some h
  have h := hg0
  refine zmt_of (by decide) (Nat.le_of_ble_eq_true rfl) ⟨.int, rfl, rfl⟩ (fun X o hin hrm _ _ _ _ _ hr => ?_)
  have hr := hr 0 0 (by decide) (by decide)
  have o : zOK X "WantShelves" c_W_end n_W_end 1 := o
  change zPJ X 0 0 0 [(0, .ref t), (1, .int p0)] [] σ
  refine zj_iload_n o (zdd k_W_end 0 rfl) rfl 1 rfl ?_
  refine zj_if_lt (tgt := 12) o (zdd k_W_end 1 rfl) (by decide) (fun hc => ?_) (fun hc => ?_)
  · rw [if_pos hc] at h
    refine zj_iconst o (zdd k_W_end 6 rfl) zki_m1 ?_
    cases h
    exact zr_i o hr (zdd k_W_end 7 rfl)
  · rw [if_neg hc] at h
    refine zj_iload_n o (zdd k_W_end 2 rfl) rfl 1 rfl ?_
    refine zj_aload_n o (zdd k_W_end 3 rfl) rfl 0 rfl ?_
    obtain ⟨x1, e_x1, h⟩ := zbd h
    refine zj_gI o (zdd k_W_end 4 rfl) fl_W_101 rfl e_x1 ?_
    refine zj_icmp_le (tgt := 14) o (zdd k_W_end 5 rfl) (by decide) (fun hc => ?_) (fun hc => ?_)
    · rw [if_pos hc] at h
      refine zj_aload_n o (zdd k_W_end 8 rfl) rfl 0 rfl ?_
      refine zj_iload_n o (zdd k_W_end 9 rfl) rfl 1 rfl ?_
      obtain ⟨σ2, e_σ2, h⟩ := zbd h
      refine zj_pI o (zdd k_W_end 10 rfl) fl_W_101 rfl rfl e_σ2 ?_
      refine zj_iload_n o (zdd k_W_end 11 rfl) rfl 1 rfl ?_
      cases h
      exact zr_i o hr (zdd k_W_end 12 rfl)
    · rw [if_neg hc] at h
      refine zj_iconst o (zdd k_W_end 6 rfl) zki_m1 ?_
      cases h
      exact zr_i o hr (zdd k_W_end 7 rfl)
def f_W_library_97 (σ : zSt) (v0 : Nat) : Option (Int32 × zSt) :=
(zsI σ 11 v0 16 0).bind fun σ1 =>
(zsI σ1 11 v0 18 0).bind fun σ2 =>
(zgP σ2 11 v0 2).bind fun a3 =>
(zgI σ2 10 a3 1).bind fun x4 =>
some (x4, σ2)
set_option maxRecDepth 100000 in
set_option maxHeartbeats 4000000 in
theorem r_W_library_97 {X : zCX} (o : zOK X "WantShelves" c_W_library n_W_library 132) {σ : zSt} {v0 : Nat} {z : Int32 × zSt} (h : f_W_library_97 σ v0 = some z) (hr : zRX X 0 0 (some (.int z.1)) z.2) : zPJ X 0 0 97 [(0, .ref v0)] [] σ := by
  unfold f_W_library_97 at h
  refine zj_aload_n o (zdd k_W_library 51 rfl) rfl 0 rfl ?_
  refine zj_iconst o (zdd k_W_library 52 rfl) zki_0 ?_
  obtain ⟨σ1, e_σ1, h⟩ := zbd h
  refine zj_pI o (zdd k_W_library 53 rfl) fl_W_121 rfl rfl e_σ1 ?_
  refine zj_aload_n o (zdd k_W_library 54 rfl) rfl 0 rfl ?_
  refine zj_iconst o (zdd k_W_library 55 rfl) zki_0 ?_
  obtain ⟨σ2, e_σ2, h⟩ := zbd h
  refine zj_pI o (zdd k_W_library 56 rfl) fl_W_124 rfl rfl e_σ2 ?_
  refine zj_aload_n o (zdd k_W_library 57 rfl) rfl 0 rfl ?_
  obtain ⟨a3, e_a3, h⟩ := zbd h
  refine zj_gP o (zdd k_W_library 58 rfl) fl_W_16 rfl e_a3 ?_
  obtain ⟨x4, e_x4, h⟩ := zbd h
  refine zj_gI o (zdd k_W_library 59 rfl) fl_W_127 rfl e_x4 ?_
  cases h
  exact zr_i o hr (zdd k_W_library 60 rfl)
def f_W_library_76 (k76 : zSt → Nat → Int32 → Option (Int32 × zSt)) (σ : zSt) (v0 : Nat) (v3 : Int32) : Option (Int32 × zSt) :=
if 3 ≤ v3 then (
f_W_library_97 σ v0) else
(zgP σ 11 v0 7).bind fun a1 =>
(zaP σ a1 v3).bind fun a2 =>
(zsI σ 4 a2 5 0).bind fun σ3 =>
k76 σ3 v0 (v3 + 1)
set_option maxRecDepth 100000 in
set_option maxHeartbeats 4000000 in
theorem r_W_library_76 {X : zCX} (o : zOK X "WantShelves" c_W_library n_W_library 132) {k76 : zSt → Nat → Int32 → Option (Int32 × zSt)} (hk76 : ∀ {σ : zSt} {v0 : Nat} {v3 : Int32} {z : Int32 × zSt}, k76 σ v0 v3 = some z → zRX X 0 0 (some (.int z.1)) z.2 → zPJ X 0 0 76 [(0, .ref v0), (3, .int v3)] [] σ) {σ : zSt} {v0 : Nat} {v3 : Int32} {z : Int32 × zSt} (h : f_W_library_76 k76 σ v0 v3 = some z) (hr : zRX X 0 0 (some (.int z.1)) z.2) : zPJ X 0 0 76 [(0, .ref v0), (3, .int v3)] [] σ := by
  unfold f_W_library_76 at h
  refine zj_iload_n o (zdd k_W_library 40 rfl) rfl 1 rfl ?_
  refine zj_iconst o (zdd k_W_library 41 rfl) zki_3 ?_
  refine zj_icmp_ge (tgt := 97) o (zdd k_W_library 42 rfl) (by decide) (fun hc => ?_) (fun hc => ?_)
  · rw [if_pos hc] at h
    exact zj_sub [0] rfl (r_W_library_97 o  h hr)
  · rw [if_neg hc] at h
    refine zj_aload_n o (zdd k_W_library 43 rfl) rfl 0 rfl ?_
    obtain ⟨a1, e_a1, h⟩ := zbd h
    refine zj_gP o (zdd k_W_library 44 rfl) fl_W_42 rfl e_a1 ?_
    refine zj_iload_n o (zdd k_W_library 45 rfl) rfl 1 rfl ?_
    obtain ⟨a2, e_a2, h⟩ := zbd h
    refine zj_aald o (zdd k_W_library 46 rfl) e_a2 ?_
    refine zj_iconst o (zdd k_W_library 47 rfl) zki_0 ?_
    obtain ⟨σ3, e_σ3, h⟩ := zbd h
    refine zj_pZ o (zdd k_W_library 48 rfl) fl_W_117 rfl (by decide) rfl e_σ3 ?_
    refine zj_iinc (v := v3 + 1) (loc' := [(3, .int (v3 + 1)), (0, .ref v0)]) o (zdd k_W_library 49 rfl) 1 rfl (by rw [zki_1]) (by decide) rfl ?_
    refine zj_goto (tgt := 76) o (zdd k_W_library 50 rfl) (by decide) ?_
    exact zj_sub [1, 0] rfl (hk76 h hr)
def f_W_library_76L : Nat → zSt → Nat → Int32 → Option (Int32 × zSt)
  | 0 => fun _ _ _ => none
  | n + 1 => f_W_library_76  (f_W_library_76L  n)
theorem r_W_library_76L {X : zCX} (o : zOK X "WantShelves" c_W_library n_W_library 132) : ∀ (n : Nat) {σ : zSt} {v0 : Nat} {v3 : Int32} {z : Int32 × zSt}, f_W_library_76L n σ v0 v3 = some z → zRX X 0 0 (some (.int z.1)) z.2 → zPJ X 0 0 76 [(0, .ref v0), (3, .int v3)] [] σ
  | 0 => fun h _ => by cases h
  | n + 1 => fun h hr => r_W_library_76 o (r_W_library_76L o  n) h hr
def f_W_library (σ : zSt) (t : Nat) : Option (Int32 × zSt) :=
zg σ 11 t (
(zgP σ 11 t 4).bind fun a1 =>
(zgP σ 11 t 0).bind fun a2 =>
(zgI σ 11 t 1).bind fun x3 =>
(zgP σ 11 t 3).bind fun a4 =>
(f_T_tell σ a1 a2 x3 a4).bind fun q5 =>
(zsI q5.2 11 t 1 0).bind fun σ6 =>
if q5.1 = 0 then (
some ((-1), σ6)) else
(zgP σ6 11 t 2).bind fun a7 =>
(zgP σ6 11 t 3).bind fun a8 =>
(zsP σ6 11 t 2 a8).bind fun σ9 =>
(zsP σ9 11 t 3 a7).bind fun σ10 =>
(zgP σ10 11 t 5).bind fun a11 =>
(zgP σ10 11 t 2).bind fun a12 =>
(f_N_begin σ10 a11 a12).bind fun σ13 =>
(zgP σ13 11 t 8).bind fun a14 =>
(f_A_clear σ13 a14).bind fun σ15 =>
(zgP σ15 11 t 14).bind fun a16 =>
(f_L_clear σ15 a16).bind fun σ17 =>
f_W_library_76L zfu σ17 t 0)
set_option maxRecDepth 100000 in
set_option maxHeartbeats 4000000 in
theorem m_W_library {l : Launch} {b : Nat} {ex : Nat → Value} {D : va_G} {ca : Nat → ClassId} {σ : zSt} {t : Nat} {z : Int32 × zSt} (h : f_W_library σ t = some z) : zMT l b ex D ca 132 y_W_library c_W_library n_W_library r_ret_W_library [.ref t] σ (some (.int z.1)) z.2 0 0 := by
  obtain ⟨_, hg0⟩ := zg_some h
  have h := hg0
  refine zmt_of (by decide) (Nat.le_of_ble_eq_true rfl) ⟨.int, rfl, rfl⟩ (fun X o hin hrm _ _ _ _ _ hr => ?_)
  have hr := hr 0 0 (by decide) (by decide)
  have o : zOK X "WantShelves" c_W_library n_W_library 132 := o
  change zPJ X 0 0 0 [(0, .ref t)] [] σ
  refine zj_aload_n o (zdd k_W_library 0 rfl) rfl 0 rfl ?_
  obtain ⟨a1, e_a1, h⟩ := zbd h
  refine zj_gP o (zdd k_W_library 1 rfl) fl_W_28 rfl e_a1 ?_
  refine zj_aload_n o (zdd k_W_library 2 rfl) rfl 0 rfl ?_
  obtain ⟨a2, e_a2, h⟩ := zbd h
  refine zj_gP o (zdd k_W_library 3 rfl) fl_W_9 rfl e_a2 ?_
  refine zj_aload_n o (zdd k_W_library 4 rfl) rfl 0 rfl ?_
  obtain ⟨x3, e_x3, h⟩ := zbd h
  refine zj_gI o (zdd k_W_library 5 rfl) fl_W_101 rfl e_x3 ?_
  refine zj_aload_n o (zdd k_W_library 6 rfl) rfl 0 rfl ?_
  obtain ⟨a4, e_a4, h⟩ := zbd h
  refine zj_gP o (zdd k_W_library 7 rfl) fl_W_20 rfl e_a4 ?_
  obtain ⟨q5, e_q5, h⟩ := zbd h
  refine zc_V o (zdd k_W_library 8 rfl) ml_W_109 mv_T_tell ⟨rfl, by decide⟩ (zg_some e_q5).1 (by decide) [.ref a2, .int x3, .ref a4] [] rfl (Nat.le_of_ble_eq_true rfl) rfl (m_T_tell e_q5) ?_
  change zPJ X 0 0 _ _ [.int q5.1] _
  refine zj_istore_n (loc' := [(1, .int q5.1), (0, .ref t)]) o (zdd k_W_library 9 rfl) rfl (by decide) rfl ?_
  refine zj_aload_n o (zdd k_W_library 10 rfl) rfl 1 rfl ?_
  refine zj_iconst o (zdd k_W_library 11 rfl) zki_0 ?_
  obtain ⟨σ6, e_σ6, h⟩ := zbd h
  refine zj_pI o (zdd k_W_library 12 rfl) fl_W_101 rfl rfl e_σ6 ?_
  refine zj_iload_n o (zdd k_W_library 13 rfl) rfl 0 rfl ?_
  refine zj_if_ne (tgt := 31) o (zdd k_W_library 14 rfl) (by decide) (fun hc => ?_) (fun hc => ?_)
  · rw [if_neg hc] at h
    refine zj_aload_n o (zdd k_W_library 17 rfl) rfl 1 rfl ?_
    obtain ⟨a7, e_a7, h⟩ := zbd h
    refine zj_gP o (zdd k_W_library 18 rfl) fl_W_16 rfl e_a7 ?_
    refine zj_astore_n (loc' := [(2, .ref a7), (1, .int q5.1), (0, .ref t)]) o (zdd k_W_library 19 rfl) rfl (by decide) rfl ?_
    refine zj_aload_n o (zdd k_W_library 20 rfl) rfl 2 rfl ?_
    refine zj_aload_n o (zdd k_W_library 21 rfl) rfl 2 rfl ?_
    obtain ⟨a8, e_a8, h⟩ := zbd h
    refine zj_gP o (zdd k_W_library 22 rfl) fl_W_20 rfl e_a8 ?_
    obtain ⟨σ9, e_σ9, h⟩ := zbd h
    refine zj_pP o (zdd k_W_library 23 rfl) fl_W_16 (Or.inl ⟨_, rfl⟩) rfl e_σ9 ?_
    refine zj_aload_n o (zdd k_W_library 24 rfl) rfl 2 rfl ?_
    refine zj_aload_n o (zdd k_W_library 25 rfl) rfl 0 rfl ?_
    obtain ⟨σ10, e_σ10, h⟩ := zbd h
    refine zj_pP o (zdd k_W_library 26 rfl) fl_W_20 (Or.inl ⟨_, rfl⟩) rfl e_σ10 ?_
    refine zj_aload_n o (zdd k_W_library 27 rfl) rfl 2 rfl ?_
    obtain ⟨a11, e_a11, h⟩ := zbd h
    refine zj_gP o (zdd k_W_library 28 rfl) fl_W_35 rfl e_a11 ?_
    refine zj_aload_n o (zdd k_W_library 29 rfl) rfl 2 rfl ?_
    obtain ⟨a12, e_a12, h⟩ := zbd h
    refine zj_gP o (zdd k_W_library 30 rfl) fl_W_16 rfl e_a12 ?_
    obtain ⟨σ13, e_σ13, h⟩ := zbd h
    refine zc_V o (zdd k_W_library 31 rfl) ml_W_98 mv_N_begin ⟨rfl, by decide⟩ (zg_some e_σ13).1 (by decide) [.ref a12] [] rfl (Nat.le_of_ble_eq_true rfl) rfl (m_N_begin e_σ13) ?_
    change zPJ X 0 0 _ _ [] _
    refine zj_aload_n o (zdd k_W_library 32 rfl) rfl 2 rfl ?_
    obtain ⟨a14, e_a14, h⟩ := zbd h
    refine zj_gP o (zdd k_W_library 33 rfl) fl_W_49 rfl e_a14 ?_
    obtain ⟨σ15, e_σ15, h⟩ := zbd h
    refine zc_V o (zdd k_W_library 34 rfl) ml_W_113 mv_A_clear ⟨rfl, by decide⟩ (zg_some e_σ15).1 (by decide) [] [] rfl (Nat.le_of_ble_eq_true rfl) rfl (m_A_clear e_σ15) ?_
    change zPJ X 0 0 _ _ [] _
    refine zj_aload_n o (zdd k_W_library 35 rfl) rfl 2 rfl ?_
    obtain ⟨a16, e_a16, h⟩ := zbd h
    refine zj_gP o (zdd k_W_library 36 rfl) fl_W_87 rfl e_a16 ?_
    obtain ⟨σ17, e_σ17, h⟩ := zbd h
    refine zc_V o (zdd k_W_library 37 rfl) ml_W_116 mv_L_clear ⟨rfl, by decide⟩ (zg_some e_σ17).1 (by decide) [] [] rfl (Nat.le_of_ble_eq_true rfl) rfl (m_L_clear e_σ17) ?_
    change zPJ X 0 0 _ _ [] _
    refine zj_iconst o (zdd k_W_library 38 rfl) zki_0 ?_
    refine zj_istore_n (loc' := [(3, .int 0), (2, .ref a7), (1, .int q5.1), (0, .ref t)]) o (zdd k_W_library 39 rfl) rfl (by decide) rfl ?_
    exact zj_sub [3, 0] rfl (r_W_library_76L o  zfu h hr)
  · rw [if_pos hc] at h
    refine zj_iconst o (zdd k_W_library 15 rfl) zki_m1 ?_
    cases h
    exact zr_i o hr (zdd k_W_library 16 rfl)
def f_W_fault (σ : zSt) (t : Nat) (p0 : Int32) : Option (Int32) :=
zg σ 11 t (
if p0 = 0 then (
(zgP σ 11 t 4).bind fun a1 =>
(zgI σ 9 a1 0).bind fun x2 =>
some x2) else
if p0 = 1 then (
(zgP σ 11 t 4).bind fun a3 =>
(zgI σ 9 a3 1).bind fun x4 =>
some x4) else
some (-1))
set_option maxRecDepth 100000 in
set_option maxHeartbeats 4000000 in
theorem m_W_fault {l : Launch} {b : Nat} {ex : Nat → Value} {D : va_G} {ca : Nat → ClassId} {σ : zSt} {t : Nat} {p0 : Int32} {z : Int32} (h : f_W_fault σ t p0 = some z) : zMT l b ex D ca 1 y_W_fault c_W_fault n_W_fault r_ret_W_fault [.ref t, .int p0] σ (some (.int z)) σ 0 0 := by
  obtain ⟨_, hg0⟩ := zg_some h
  have h := hg0
  refine zmt_of (by decide) (Nat.le_of_ble_eq_true rfl) ⟨.int, rfl, rfl⟩ (fun X o hin hrm _ _ _ _ _ hr => ?_)
  have hr := hr 0 0 (by decide) (by decide)
  have o : zOK X "WantShelves" c_W_fault n_W_fault 1 := o
  change zPJ X 0 0 0 [(0, .ref t), (1, .int p0)] [] σ
  refine zj_iload_n o (zdd k_W_fault 0 rfl) rfl 1 rfl ?_
  refine zj_lookupC (dt := 44) o [(0, 28), (1, 36)] (zdd k_W_fault 1 rfl) (by decide) (by decide) (by decide) ?_
  by_cases hc : p0 = 0
  · rw [if_pos hc] at h
    rw [zcase_pos hc]
    refine zj_aload_n o (zdd k_W_fault 2 rfl) rfl 0 rfl ?_
    obtain ⟨a1, e_a1, h⟩ := zbd h
    refine zj_gP o (zdd k_W_fault 3 rfl) fl_W_28 rfl e_a1 ?_
    obtain ⟨x2, e_x2, h⟩ := zbd h
    refine zj_gI o (zdd k_W_fault 4 rfl) fl_W_130 rfl e_x2 ?_
    cases h
    exact zr_i o hr (zdd k_W_fault 5 rfl)
  · rw [if_neg hc] at h
    rw [zcase_neg hc]
    by_cases hc : p0 = 1
    · rw [if_pos hc] at h
      rw [zcase_pos hc]
      refine zj_aload_n o (zdd k_W_fault 6 rfl) rfl 0 rfl ?_
      obtain ⟨a3, e_a3, h⟩ := zbd h
      refine zj_gP o (zdd k_W_fault 7 rfl) fl_W_28 rfl e_a3 ?_
      obtain ⟨x4, e_x4, h⟩ := zbd h
      refine zj_gI o (zdd k_W_fault 8 rfl) fl_W_133 rfl e_x4 ?_
      cases h
      exact zr_i o hr (zdd k_W_fault 9 rfl)
    · rw [if_neg hc] at h
      rw [zcase_neg hc]
      change zPJ X 0 0 44 _ _ _
      refine zj_iconst o (zdd k_W_fault 10 rfl) zki_m1 ?_
      cases h
      exact zr_i o hr (zdd k_W_fault 11 rfl)
def f_W_isBook (σ : zSt) (t : Nat) (p0 : Int32) : Option (Int32) :=
zg σ 11 t (
(if p0 < 0 then (
some 0) else
(zgP σ 11 t 2).bind fun a1 =>
(zgI σ 10 a1 1).bind fun x2 =>
if x2 ≤ p0 then (
some 0) else
some 1).bind zbool)
set_option maxRecDepth 100000 in
set_option maxHeartbeats 4000000 in
theorem m_W_isBook {l : Launch} {b : Nat} {ex : Nat → Value} {D : va_G} {ca : Nat → ClassId} {σ : zSt} {t : Nat} {p0 : Int32} {z : Int32} (h : f_W_isBook σ t p0 = some z) : zMT l b ex D ca 1 y_W_isBook c_W_isBook n_W_isBook r_ret_W_isBook [.ref t, .int p0] σ (some (.int z)) σ 0 0 := by
  obtain ⟨_, hg0⟩ := zg_some h
  obtain ⟨z0, hbd, hz⟩ := zbd hg0
  obtain ⟨hzb, rfl⟩ := zbool_some hz
  have h := hbd
  refine zmt_of (by decide) (Nat.le_of_ble_eq_true rfl) ⟨.boolean, rfl, zb_nar hzb⟩ (fun X o hin hrm _ _ _ _ _ hr => ?_)
  have hr := hr 0 0 (by decide) (by decide)
  have o : zOK X "WantShelves" c_W_isBook n_W_isBook 1 := o
  change zPJ X 0 0 0 [(0, .ref t), (1, .int p0)] [] σ
  refine zj_iload_n o (zdd k_W_isBook 0 rfl) rfl 1 rfl ?_
  refine zj_if_lt (tgt := 19) o (zdd k_W_isBook 1 rfl) (by decide) (fun hc => ?_) (fun hc => ?_)
  · rw [if_pos hc] at h
    refine zj_iconst o (zdd k_W_isBook 9 rfl) zki_0 ?_
    cases h
    exact zr_i o hr (zdd k_W_isBook 10 rfl)
  · rw [if_neg hc] at h
    refine zj_iload_n o (zdd k_W_isBook 2 rfl) rfl 1 rfl ?_
    refine zj_aload_n o (zdd k_W_isBook 3 rfl) rfl 0 rfl ?_
    obtain ⟨a1, e_a1, h⟩ := zbd h
    refine zj_gP o (zdd k_W_isBook 4 rfl) fl_W_16 rfl e_a1 ?_
    obtain ⟨x2, e_x2, h⟩ := zbd h
    refine zj_gI o (zdd k_W_isBook 5 rfl) fl_W_127 rfl e_x2 ?_
    refine zj_icmp_ge (tgt := 19) o (zdd k_W_isBook 6 rfl) (by decide) (fun hc => ?_) (fun hc => ?_)
    · rw [if_pos hc] at h
      refine zj_iconst o (zdd k_W_isBook 9 rfl) zki_0 ?_
      cases h
      exact zr_i o hr (zdd k_W_isBook 10 rfl)
    · rw [if_neg hc] at h
      refine zj_iconst o (zdd k_W_isBook 7 rfl) zki_1 ?_
      refine zj_goto (tgt := 20) o (zdd k_W_isBook 8 rfl) (by decide) ?_
      cases h
      exact zr_i o hr (zdd k_W_isBook 10 rfl)
def f_W_isTopic (σ : zSt) (t : Nat) (p0 : Int32) : Option (Int32) :=
zg σ 11 t (
(if p0 < 0 then (
some 0) else
(zgP σ 11 t 2).bind fun a1 =>
(zgI σ 10 a1 0).bind fun x2 =>
if x2 ≤ p0 then (
some 0) else
some 1).bind zbool)
set_option maxRecDepth 100000 in
set_option maxHeartbeats 4000000 in
theorem m_W_isTopic {l : Launch} {b : Nat} {ex : Nat → Value} {D : va_G} {ca : Nat → ClassId} {σ : zSt} {t : Nat} {p0 : Int32} {z : Int32} (h : f_W_isTopic σ t p0 = some z) : zMT l b ex D ca 1 y_W_isTopic c_W_isTopic n_W_isTopic r_ret_W_isTopic [.ref t, .int p0] σ (some (.int z)) σ 0 0 := by
  obtain ⟨_, hg0⟩ := zg_some h
  obtain ⟨z0, hbd, hz⟩ := zbd hg0
  obtain ⟨hzb, rfl⟩ := zbool_some hz
  have h := hbd
  refine zmt_of (by decide) (Nat.le_of_ble_eq_true rfl) ⟨.boolean, rfl, zb_nar hzb⟩ (fun X o hin hrm _ _ _ _ _ hr => ?_)
  have hr := hr 0 0 (by decide) (by decide)
  have o : zOK X "WantShelves" c_W_isTopic n_W_isTopic 1 := o
  change zPJ X 0 0 0 [(0, .ref t), (1, .int p0)] [] σ
  refine zj_iload_n o (zdd k_W_isTopic 0 rfl) rfl 1 rfl ?_
  refine zj_if_lt (tgt := 19) o (zdd k_W_isTopic 1 rfl) (by decide) (fun hc => ?_) (fun hc => ?_)
  · rw [if_pos hc] at h
    refine zj_iconst o (zdd k_W_isTopic 9 rfl) zki_0 ?_
    cases h
    exact zr_i o hr (zdd k_W_isTopic 10 rfl)
  · rw [if_neg hc] at h
    refine zj_iload_n o (zdd k_W_isTopic 2 rfl) rfl 1 rfl ?_
    refine zj_aload_n o (zdd k_W_isTopic 3 rfl) rfl 0 rfl ?_
    obtain ⟨a1, e_a1, h⟩ := zbd h
    refine zj_gP o (zdd k_W_isTopic 4 rfl) fl_W_16 rfl e_a1 ?_
    obtain ⟨x2, e_x2, h⟩ := zbd h
    refine zj_gI o (zdd k_W_isTopic 5 rfl) fl_W_239 rfl e_x2 ?_
    refine zj_icmp_ge (tgt := 19) o (zdd k_W_isTopic 6 rfl) (by decide) (fun hc => ?_) (fun hc => ?_)
    · rw [if_pos hc] at h
      refine zj_iconst o (zdd k_W_isTopic 9 rfl) zki_0 ?_
      cases h
      exact zr_i o hr (zdd k_W_isTopic 10 rfl)
    · rw [if_neg hc] at h
      refine zj_iconst o (zdd k_W_isTopic 7 rfl) zki_1 ?_
      refine zj_goto (tgt := 20) o (zdd k_W_isTopic 8 rfl) (by decide) ?_
      cases h
      exact zr_i o hr (zdd k_W_isTopic 10 rfl)
def f_W_weight (σ : zSt) (t : Nat) (p0 : Int32) (p1 : Int32) : Option (Int32) :=
zg σ 11 t (
(f_W_isBook σ t p0).bind fun x1 =>
if x1 = 0 then (
some (-1)) else
(f_W_isTopic σ t p1).bind fun x2 =>
if x2 = 0 then (
some (-1)) else
(zgP σ 11 t 2).bind fun a3 =>
(zgP σ 10 a3 7).bind fun a4 =>
(zaI σ 1 a4 ((p0 * 4) + p1)).bind fun x5 =>
some x5)
set_option maxRecDepth 100000 in
set_option maxHeartbeats 4000000 in
theorem m_W_weight {l : Launch} {b : Nat} {ex : Nat → Value} {D : va_G} {ca : Nat → ClassId} {σ : zSt} {t : Nat} {p0 : Int32} {p1 : Int32} {z : Int32} (h : f_W_weight σ t p0 p1 = some z) : zMT l b ex D ca 2 y_W_weight c_W_weight n_W_weight r_ret_W_weight [.ref t, .int p0, .int p1] σ (some (.int z)) σ 0 0 := by
  obtain ⟨_, hg0⟩ := zg_some h
  have h := hg0
  refine zmt_of (by decide) (Nat.le_of_ble_eq_true rfl) ⟨.int, rfl, rfl⟩ (fun X o hin hrm _ _ _ _ _ hr => ?_)
  have hr := hr 0 0 (by decide) (by decide)
  have o : zOK X "WantShelves" c_W_weight n_W_weight 2 := o
  change zPJ X 0 0 0 [(0, .ref t), (1, .int p0), (2, .int p1)] [] σ
  refine zj_aload_n o (zdd k_W_weight 0 rfl) rfl 0 rfl ?_
  refine zj_iload_n o (zdd k_W_weight 1 rfl) rfl 1 rfl ?_
  obtain ⟨x1, e_x1, h⟩ := zbd h
  refine zc_V o (zdd k_W_weight 2 rfl) ml_W_136 mv_W_isBook ⟨rfl, by decide⟩ (zg_some e_x1).1 (by decide) [.int p0] [] rfl (Nat.le_of_ble_eq_true rfl) rfl (m_W_isBook e_x1) ?_
  change zPJ X 0 0 _ _ [.int x1] _
  refine zj_if_eq (tgt := 32) o (zdd k_W_weight 3 rfl) (by decide) (fun hc => ?_) (fun hc => ?_)
  · rw [if_pos hc] at h
    refine zj_iconst o (zdd k_W_weight 18 rfl) zki_m1 ?_
    cases h
    exact zr_i o hr (zdd k_W_weight 19 rfl)
  · rw [if_neg hc] at h
    refine zj_aload_n o (zdd k_W_weight 4 rfl) rfl 0 rfl ?_
    refine zj_iload_n o (zdd k_W_weight 5 rfl) rfl 2 rfl ?_
    obtain ⟨x2, e_x2, h⟩ := zbd h
    refine zc_V o (zdd k_W_weight 6 rfl) ml_W_140 mv_W_isTopic ⟨rfl, by decide⟩ (zg_some e_x2).1 (by decide) [.int p1] [] rfl (Nat.le_of_ble_eq_true rfl) rfl (m_W_isTopic e_x2) ?_
    change zPJ X 0 0 _ _ [.int x2] _
    refine zj_if_eq (tgt := 32) o (zdd k_W_weight 7 rfl) (by decide) (fun hc => ?_) (fun hc => ?_)
    · rw [if_pos hc] at h
      refine zj_iconst o (zdd k_W_weight 18 rfl) zki_m1 ?_
      cases h
      exact zr_i o hr (zdd k_W_weight 19 rfl)
    · rw [if_neg hc] at h
      refine zj_aload_n o (zdd k_W_weight 8 rfl) rfl 0 rfl ?_
      obtain ⟨a3, e_a3, h⟩ := zbd h
      refine zj_gP o (zdd k_W_weight 9 rfl) fl_W_16 rfl e_a3 ?_
      obtain ⟨a4, e_a4, h⟩ := zbd h
      refine zj_gP o (zdd k_W_weight 10 rfl) fl_W_143 rfl e_a4 ?_
      refine zj_iload_n o (zdd k_W_weight 11 rfl) rfl 1 rfl ?_
      refine zj_iconst o (zdd k_W_weight 12 rfl) zki_4 ?_
      refine zj_imul o (zdd k_W_weight 13 rfl) ?_
      refine zj_iload_n o (zdd k_W_weight 14 rfl) rfl 2 rfl ?_
      refine zj_iadd o (zdd k_W_weight 15 rfl) ?_
      obtain ⟨x5, e_x5, h⟩ := zbd h
      refine zj_iald o (zdd k_W_weight 16 rfl) e_x5 ?_
      refine zj_goto (tgt := 33) o (zdd k_W_weight 17 rfl) (by decide) ?_
      cases h
      exact zr_i o hr (zdd k_W_weight 19 rfl)
def f_W_isReader (σ : zSt) (t : Nat) (p0 : Int32) : Option (Int32) :=
zg σ 11 t (
(if p0 < 0 then (
some 0) else
(zgP σ 11 t 2).bind fun a1 =>
(zgI σ 10 a1 2).bind fun x2 =>
if x2 ≤ p0 then (
some 0) else
some 1).bind zbool)
set_option maxRecDepth 100000 in
set_option maxHeartbeats 4000000 in
theorem m_W_isReader {l : Launch} {b : Nat} {ex : Nat → Value} {D : va_G} {ca : Nat → ClassId} {σ : zSt} {t : Nat} {p0 : Int32} {z : Int32} (h : f_W_isReader σ t p0 = some z) : zMT l b ex D ca 1 y_W_isReader c_W_isReader n_W_isReader r_ret_W_isReader [.ref t, .int p0] σ (some (.int z)) σ 0 0 := by
  obtain ⟨_, hg0⟩ := zg_some h
  obtain ⟨z0, hbd, hz⟩ := zbd hg0
  obtain ⟨hzb, rfl⟩ := zbool_some hz
  have h := hbd
  refine zmt_of (by decide) (Nat.le_of_ble_eq_true rfl) ⟨.boolean, rfl, zb_nar hzb⟩ (fun X o hin hrm _ _ _ _ _ hr => ?_)
  have hr := hr 0 0 (by decide) (by decide)
  have o : zOK X "WantShelves" c_W_isReader n_W_isReader 1 := o
  change zPJ X 0 0 0 [(0, .ref t), (1, .int p0)] [] σ
  refine zj_iload_n o (zdd k_W_isReader 0 rfl) rfl 1 rfl ?_
  refine zj_if_lt (tgt := 19) o (zdd k_W_isReader 1 rfl) (by decide) (fun hc => ?_) (fun hc => ?_)
  · rw [if_pos hc] at h
    refine zj_iconst o (zdd k_W_isReader 9 rfl) zki_0 ?_
    cases h
    exact zr_i o hr (zdd k_W_isReader 10 rfl)
  · rw [if_neg hc] at h
    refine zj_iload_n o (zdd k_W_isReader 2 rfl) rfl 1 rfl ?_
    refine zj_aload_n o (zdd k_W_isReader 3 rfl) rfl 0 rfl ?_
    obtain ⟨a1, e_a1, h⟩ := zbd h
    refine zj_gP o (zdd k_W_isReader 4 rfl) fl_W_16 rfl e_a1 ?_
    obtain ⟨x2, e_x2, h⟩ := zbd h
    refine zj_gI o (zdd k_W_isReader 5 rfl) fl_W_231 rfl e_x2 ?_
    refine zj_icmp_ge (tgt := 19) o (zdd k_W_isReader 6 rfl) (by decide) (fun hc => ?_) (fun hc => ?_)
    · rw [if_pos hc] at h
      refine zj_iconst o (zdd k_W_isReader 9 rfl) zki_0 ?_
      cases h
      exact zr_i o hr (zdd k_W_isReader 10 rfl)
    · rw [if_neg hc] at h
      refine zj_iconst o (zdd k_W_isReader 7 rfl) zki_1 ?_
      refine zj_goto (tgt := 20) o (zdd k_W_isReader 8 rfl) (by decide) ?_
      cases h
      exact zr_i o hr (zdd k_W_isReader 10 rfl)
def f_W_wants (σ : zSt) (t : Nat) (p0 : Int32) (p1 : Int32) : Option (Int32) :=
zg σ 11 t (
(f_W_isReader σ t p0).bind fun x1 =>
if x1 = 0 then (
some (-1000000)) else
(f_W_isTopic σ t p1).bind fun x2 =>
if x2 = 0 then (
some (-1000000)) else
(zgP σ 11 t 5).bind fun a3 =>
(zgP σ 4 a3 0).bind fun a4 =>
(zaI σ 1 a4 ((p0 * 4) + p1)).bind fun x5 =>
some x5)
set_option maxRecDepth 100000 in
set_option maxHeartbeats 4000000 in
theorem m_W_wants {l : Launch} {b : Nat} {ex : Nat → Value} {D : va_G} {ca : Nat → ClassId} {σ : zSt} {t : Nat} {p0 : Int32} {p1 : Int32} {z : Int32} (h : f_W_wants σ t p0 p1 = some z) : zMT l b ex D ca 2 y_W_wants c_W_wants n_W_wants r_ret_W_wants [.ref t, .int p0, .int p1] σ (some (.int z)) σ 0 0 := by
  obtain ⟨_, hg0⟩ := zg_some h
  have h := hg0
  refine zmt_of (by decide) (Nat.le_of_ble_eq_true rfl) ⟨.int, rfl, rfl⟩ (fun X o hin hrm _ _ _ _ _ hr => ?_)
  have hr := hr 0 0 (by decide) (by decide)
  have o : zOK X "WantShelves" c_W_wants n_W_wants 2 := o
  change zPJ X 0 0 0 [(0, .ref t), (1, .int p0), (2, .int p1)] [] σ
  refine zj_aload_n o (zdd k_W_wants 0 rfl) rfl 0 rfl ?_
  refine zj_iload_n o (zdd k_W_wants 1 rfl) rfl 1 rfl ?_
  obtain ⟨x1, e_x1, h⟩ := zbd h
  refine zc_V o (zdd k_W_wants 2 rfl) ml_W_146 mv_W_isReader ⟨rfl, by decide⟩ (zg_some e_x1).1 (by decide) [.int p0] [] rfl (Nat.le_of_ble_eq_true rfl) rfl (m_W_isReader e_x1) ?_
  change zPJ X 0 0 _ _ [.int x1] _
  refine zj_if_eq (tgt := 32) o (zdd k_W_wants 3 rfl) (by decide) (fun hc => ?_) (fun hc => ?_)
  · rw [if_pos hc] at h
    refine zj_ldc o (zdd k_W_wants 18 rfl) co_W_152 ?_
    cases h
    exact zr_i o hr (zdd k_W_wants 19 rfl)
  · rw [if_neg hc] at h
    refine zj_aload_n o (zdd k_W_wants 4 rfl) rfl 0 rfl ?_
    refine zj_iload_n o (zdd k_W_wants 5 rfl) rfl 2 rfl ?_
    obtain ⟨x2, e_x2, h⟩ := zbd h
    refine zc_V o (zdd k_W_wants 6 rfl) ml_W_140 mv_W_isTopic ⟨rfl, by decide⟩ (zg_some e_x2).1 (by decide) [.int p1] [] rfl (Nat.le_of_ble_eq_true rfl) rfl (m_W_isTopic e_x2) ?_
    change zPJ X 0 0 _ _ [.int x2] _
    refine zj_if_eq (tgt := 32) o (zdd k_W_wants 7 rfl) (by decide) (fun hc => ?_) (fun hc => ?_)
    · rw [if_pos hc] at h
      refine zj_ldc o (zdd k_W_wants 18 rfl) co_W_152 ?_
      cases h
      exact zr_i o hr (zdd k_W_wants 19 rfl)
    · rw [if_neg hc] at h
      refine zj_aload_n o (zdd k_W_wants 8 rfl) rfl 0 rfl ?_
      obtain ⟨a3, e_a3, h⟩ := zbd h
      refine zj_gP o (zdd k_W_wants 9 rfl) fl_W_35 rfl e_a3 ?_
      obtain ⟨a4, e_a4, h⟩ := zbd h
      refine zj_gP o (zdd k_W_wants 10 rfl) fl_W_149 rfl e_a4 ?_
      refine zj_iload_n o (zdd k_W_wants 11 rfl) rfl 1 rfl ?_
      refine zj_iconst o (zdd k_W_wants 12 rfl) zki_4 ?_
      refine zj_imul o (zdd k_W_wants 13 rfl) ?_
      refine zj_iload_n o (zdd k_W_wants 14 rfl) rfl 2 rfl ?_
      refine zj_iadd o (zdd k_W_wants 15 rfl) ?_
      obtain ⟨x5, e_x5, h⟩ := zbd h
      refine zj_iald o (zdd k_W_wants 16 rfl) e_x5 ?_
      refine zj_goto (tgt := 34) o (zdd k_W_wants 17 rfl) (by decide) ?_
      cases h
      exact zr_i o hr (zdd k_W_wants 19 rfl)
def f_W_reader (σ : zSt) (t : Nat) (p0 : Int32) (p1 : Int32) : Option (Int32) :=
zg σ 11 t (
(f_W_isReader σ t p0).bind fun x1 =>
if x1 = 0 then (
some (-2)) else
if p1 = 0 then (
(zgP σ 11 t 2).bind fun a2 =>
(zgP σ 10 a2 10).bind fun a3 =>
(zaI σ 1 a3 p0).bind fun x4 =>
some x4) else
if p1 = 1 then (
(zgP σ 11 t 5).bind fun a5 =>
(zgP σ 4 a5 1).bind fun a6 =>
(zaI σ 1 a6 p0).bind fun x7 =>
some x7) else
if p1 = 2 then (
(zgP σ 11 t 5).bind fun a8 =>
(zgI σ 4 a8 3).bind fun x9 =>
some ((x9 >>> (p0 &&& 31)) &&& 1)) else
if p1 = 3 then (
(zgP σ 11 t 5).bind fun a10 =>
(f_N_readingsOf σ a10 p0).bind fun x11 =>
some x11) else
some (-2))
set_option maxRecDepth 100000 in
set_option maxHeartbeats 4000000 in
theorem m_W_reader {l : Launch} {b : Nat} {ex : Nat → Value} {D : va_G} {ca : Nat → ClassId} {σ : zSt} {t : Nat} {p0 : Int32} {p1 : Int32} {z : Int32} (h : f_W_reader σ t p0 p1 = some z) : zMT l b ex D ca 2 y_W_reader c_W_reader n_W_reader r_ret_W_reader [.ref t, .int p0, .int p1] σ (some (.int z)) σ 0 0 := by
  obtain ⟨_, hg0⟩ := zg_some h
  have h := hg0
  refine zmt_of (by decide) (Nat.le_of_ble_eq_true rfl) ⟨.int, rfl, rfl⟩ (fun X o hin hrm _ _ _ _ _ hr => ?_)
  have hr := hr 0 0 (by decide) (by decide)
  have o : zOK X "WantShelves" c_W_reader n_W_reader 2 := o
  change zPJ X 0 0 0 [(0, .ref t), (1, .int p0), (2, .int p1)] [] σ
  refine zj_aload_n o (zdd k_W_reader 0 rfl) rfl 0 rfl ?_
  refine zj_iload_n o (zdd k_W_reader 1 rfl) rfl 1 rfl ?_
  obtain ⟨x1, e_x1, h⟩ := zbd h
  refine zc_V o (zdd k_W_reader 2 rfl) ml_W_146 mv_W_isReader ⟨rfl, by decide⟩ (zg_some e_x1).1 (by decide) [.int p0] [] rfl (Nat.le_of_ble_eq_true rfl) rfl (m_W_isReader e_x1) ?_
  change zPJ X 0 0 _ _ [.int x1] _
  refine zj_if_ne (tgt := 11) o (zdd k_W_reader 3 rfl) (by decide) (fun hc => ?_) (fun hc => ?_)
  · rw [if_neg hc] at h
    refine zj_iload_n o (zdd k_W_reader 6 rfl) rfl 2 rfl ?_
    refine zj_tableC (dt := 85) o [44, 54, 64, 76] (zdd k_W_reader 7 rfl) (by decide) (by decide) (by decide) (by decide) (by decide) [(0, 44), (1, 54), (2, 64), (3, 76)] (by decide) ?_
    by_cases hc : p1 = 0
    · rw [if_pos hc] at h
      rw [zcase_pos hc]
      refine zj_aload_n o (zdd k_W_reader 8 rfl) rfl 0 rfl ?_
      obtain ⟨a2, e_a2, h⟩ := zbd h
      refine zj_gP o (zdd k_W_reader 9 rfl) fl_W_16 rfl e_a2 ?_
      obtain ⟨a3, e_a3, h⟩ := zbd h
      refine zj_gP o (zdd k_W_reader 10 rfl) fl_W_153 rfl e_a3 ?_
      refine zj_iload_n o (zdd k_W_reader 11 rfl) rfl 1 rfl ?_
      obtain ⟨x4, e_x4, h⟩ := zbd h
      refine zj_iald o (zdd k_W_reader 12 rfl) e_x4 ?_
      cases h
      exact zr_i o hr (zdd k_W_reader 13 rfl)
    · rw [if_neg hc] at h
      rw [zcase_neg hc]
      by_cases hc : p1 = 1
      · rw [if_pos hc] at h
        rw [zcase_pos hc]
        refine zj_aload_n o (zdd k_W_reader 14 rfl) rfl 0 rfl ?_
        obtain ⟨a5, e_a5, h⟩ := zbd h
        refine zj_gP o (zdd k_W_reader 15 rfl) fl_W_35 rfl e_a5 ?_
        obtain ⟨a6, e_a6, h⟩ := zbd h
        refine zj_gP o (zdd k_W_reader 16 rfl) fl_W_156 rfl e_a6 ?_
        refine zj_iload_n o (zdd k_W_reader 17 rfl) rfl 1 rfl ?_
        obtain ⟨x7, e_x7, h⟩ := zbd h
        refine zj_iald o (zdd k_W_reader 18 rfl) e_x7 ?_
        cases h
        exact zr_i o hr (zdd k_W_reader 19 rfl)
      · rw [if_neg hc] at h
        rw [zcase_neg hc]
        by_cases hc : p1 = 2
        · rw [if_pos hc] at h
          rw [zcase_pos hc]
          refine zj_aload_n o (zdd k_W_reader 20 rfl) rfl 0 rfl ?_
          obtain ⟨a8, e_a8, h⟩ := zbd h
          refine zj_gP o (zdd k_W_reader 21 rfl) fl_W_35 rfl e_a8 ?_
          obtain ⟨x9, e_x9, h⟩ := zbd h
          refine zj_gI o (zdd k_W_reader 22 rfl) fl_W_159 rfl e_x9 ?_
          refine zj_iload_n o (zdd k_W_reader 23 rfl) rfl 1 rfl ?_
          refine zj_ishr o (zdd k_W_reader 24 rfl) ?_
          refine zj_iconst o (zdd k_W_reader 25 rfl) zki_1 ?_
          refine zj_iand o (zdd k_W_reader 26 rfl) ?_
          cases h
          exact zr_i o hr (zdd k_W_reader 27 rfl)
        · rw [if_neg hc] at h
          rw [zcase_neg hc]
          by_cases hc : p1 = 3
          · rw [if_pos hc] at h
            rw [zcase_pos hc]
            refine zj_aload_n o (zdd k_W_reader 28 rfl) rfl 0 rfl ?_
            obtain ⟨a10, e_a10, h⟩ := zbd h
            refine zj_gP o (zdd k_W_reader 29 rfl) fl_W_35 rfl e_a10 ?_
            refine zj_iload_n o (zdd k_W_reader 30 rfl) rfl 1 rfl ?_
            obtain ⟨x11, e_x11, h⟩ := zbd h
            refine zc_V o (zdd k_W_reader 31 rfl) ml_W_162 mv_N_readingsOf ⟨rfl, by decide⟩ (zg_some e_x11).1 (by decide) [.int p0] [] rfl (Nat.le_of_ble_eq_true rfl) rfl (m_N_readingsOf e_x11) ?_
            change zPJ X 0 0 _ _ [.int x11] _
            cases h
            exact zr_i o hr (zdd k_W_reader 32 rfl)
          · rw [if_neg hc] at h
            rw [zcase_neg hc]
            change zPJ X 0 0 85 _ _ _
            refine zj_bipush o (zdd k_W_reader 33 rfl) zkb_m2 ?_
            cases h
            exact zr_i o hr (zdd k_W_reader 34 rfl)
  · rw [if_pos hc] at h
    refine zj_bipush o (zdd k_W_reader 4 rfl) zkb_m2 ?_
    cases h
    exact zr_i o hr (zdd k_W_reader 5 rfl)
def f_W_key (σ : zSt) (t : Nat) (p0 : Int32) (p1 : Int32) : Option (Int32 × zSt) :=
zg σ 11 t (
(f_W_isReader σ t p0).bind fun x1 =>
if x1 = 0 then (
some ((-1000000), σ)) else
(f_W_isBook σ t p1).bind fun x2 =>
if x2 = 0 then (
some ((-1000000), σ)) else
(zgP σ 11 t 9).bind fun a3 =>
(zgP σ 11 t 2).bind fun a4 =>
(zgP σ 11 t 5).bind fun a5 =>
(f_S_open σ a3 a4 a5).bind fun σ6 =>
(zgP σ6 11 t 9).bind fun a7 =>
(f_S_keyFor σ6 a7 p0 p1).bind fun x8 =>
some (x8, σ6))
set_option maxRecDepth 100000 in
set_option maxHeartbeats 4000000 in
theorem m_W_key {l : Launch} {b : Nat} {ex : Nat → Value} {D : va_G} {ca : Nat → ClassId} {σ : zSt} {t : Nat} {p0 : Int32} {p1 : Int32} {z : Int32 × zSt} (h : f_W_key σ t p0 p1 = some z) : zMT l b ex D ca 7 y_W_key c_W_key n_W_key r_ret_W_key [.ref t, .int p0, .int p1] σ (some (.int z.1)) z.2 0 0 := by
  obtain ⟨_, hg0⟩ := zg_some h
  have h := hg0
  refine zmt_of (by decide) (Nat.le_of_ble_eq_true rfl) ⟨.int, rfl, rfl⟩ (fun X o hin hrm _ _ _ _ _ hr => ?_)
  have hr := hr 0 0 (by decide) (by decide)
  have o : zOK X "WantShelves" c_W_key n_W_key 7 := o
  change zPJ X 0 0 0 [(0, .ref t), (1, .int p0), (2, .int p1)] [] σ
  refine zj_aload_n o (zdd k_W_key 0 rfl) rfl 0 rfl ?_
  refine zj_iload_n o (zdd k_W_key 1 rfl) rfl 1 rfl ?_
  obtain ⟨x1, e_x1, h⟩ := zbd h
  refine zc_V o (zdd k_W_key 2 rfl) ml_W_146 mv_W_isReader ⟨rfl, by decide⟩ (zg_some e_x1).1 (by decide) [.int p0] [] rfl (Nat.le_of_ble_eq_true rfl) rfl (m_W_isReader e_x1) ?_
  change zPJ X 0 0 _ _ [.int x1] _
  refine zj_if_eq (tgt := 16) o (zdd k_W_key 3 rfl) (by decide) (fun hc => ?_) (fun hc => ?_)
  · rw [if_pos hc] at h
    refine zj_ldc o (zdd k_W_key 8 rfl) co_W_152 ?_
    cases h
    exact zr_i o hr (zdd k_W_key 9 rfl)
  · rw [if_neg hc] at h
    refine zj_aload_n o (zdd k_W_key 4 rfl) rfl 0 rfl ?_
    refine zj_iload_n o (zdd k_W_key 5 rfl) rfl 2 rfl ?_
    obtain ⟨x2, e_x2, h⟩ := zbd h
    refine zc_V o (zdd k_W_key 6 rfl) ml_W_136 mv_W_isBook ⟨rfl, by decide⟩ (zg_some e_x2).1 (by decide) [.int p1] [] rfl (Nat.le_of_ble_eq_true rfl) rfl (m_W_isBook e_x2) ?_
    change zPJ X 0 0 _ _ [.int x2] _
    refine zj_if_ne (tgt := 19) o (zdd k_W_key 7 rfl) (by decide) (fun hc => ?_) (fun hc => ?_)
    · rw [if_neg hc] at h
      refine zj_aload_n o (zdd k_W_key 10 rfl) rfl 0 rfl ?_
      obtain ⟨a3, e_a3, h⟩ := zbd h
      refine zj_gP o (zdd k_W_key 11 rfl) fl_W_56 rfl e_a3 ?_
      refine zj_aload_n o (zdd k_W_key 12 rfl) rfl 0 rfl ?_
      obtain ⟨a4, e_a4, h⟩ := zbd h
      refine zj_gP o (zdd k_W_key 13 rfl) fl_W_16 rfl e_a4 ?_
      refine zj_aload_n o (zdd k_W_key 14 rfl) rfl 0 rfl ?_
      obtain ⟨a5, e_a5, h⟩ := zbd h
      refine zj_gP o (zdd k_W_key 15 rfl) fl_W_35 rfl e_a5 ?_
      obtain ⟨σ6, e_σ6, h⟩ := zbd h
      refine zc_V o (zdd k_W_key 16 rfl) ml_W_166 mv_S_open ⟨rfl, by decide⟩ (zg_some e_σ6).1 (by decide) [.ref a4, .ref a5] [] rfl (Nat.le_of_ble_eq_true rfl) rfl (m_S_open e_σ6) ?_
      change zPJ X 0 0 _ _ [] _
      refine zj_aload_n o (zdd k_W_key 17 rfl) rfl 0 rfl ?_
      obtain ⟨a7, e_a7, h⟩ := zbd h
      refine zj_gP o (zdd k_W_key 18 rfl) fl_W_56 rfl e_a7 ?_
      refine zj_iload_n o (zdd k_W_key 19 rfl) rfl 1 rfl ?_
      refine zj_iload_n o (zdd k_W_key 20 rfl) rfl 2 rfl ?_
      obtain ⟨x8, e_x8, h⟩ := zbd h
      refine zc_V o (zdd k_W_key 21 rfl) ml_W_170 mv_S_keyFor ⟨rfl, by decide⟩ (zg_some e_x8).1 (by decide) [.int p0, .int p1] [] rfl (Nat.le_of_ble_eq_true rfl) rfl (m_S_keyFor e_x8) ?_
      change zPJ X 0 0 _ _ [.int x8] _
      cases h
      exact zr_i o hr (zdd k_W_key 22 rfl)
    · rw [if_pos hc] at h
      refine zj_ldc o (zdd k_W_key 8 rfl) co_W_152 ?_
      cases h
      exact zr_i o hr (zdd k_W_key 9 rfl)
def f_W_isParty (σ : zSt) (t : Nat) (p0 : Int32) : Option (Int32) :=
zg σ 11 t (
(if p0 < 0 then (
some 0) else
(zgP σ 11 t 2).bind fun a1 =>
(zgI σ 10 a1 2).bind fun x2 =>
if 1 <<< (x2 &&& 31) ≤ p0 then (
some 0) else
some 1).bind zbool)
set_option maxRecDepth 100000 in
set_option maxHeartbeats 4000000 in
theorem m_W_isParty {l : Launch} {b : Nat} {ex : Nat → Value} {D : va_G} {ca : Nat → ClassId} {σ : zSt} {t : Nat} {p0 : Int32} {z : Int32} (h : f_W_isParty σ t p0 = some z) : zMT l b ex D ca 1 y_W_isParty c_W_isParty n_W_isParty r_ret_W_isParty [.ref t, .int p0] σ (some (.int z)) σ 0 0 := by
  obtain ⟨_, hg0⟩ := zg_some h
  obtain ⟨z0, hbd, hz⟩ := zbd hg0
  obtain ⟨hzb, rfl⟩ := zbool_some hz
  have h := hbd
  refine zmt_of (by decide) (Nat.le_of_ble_eq_true rfl) ⟨.boolean, rfl, zb_nar hzb⟩ (fun X o hin hrm _ _ _ _ _ hr => ?_)
  have hr := hr 0 0 (by decide) (by decide)
  have o : zOK X "WantShelves" c_W_isParty n_W_isParty 1 := o
  change zPJ X 0 0 0 [(0, .ref t), (1, .int p0)] [] σ
  refine zj_iload_n o (zdd k_W_isParty 0 rfl) rfl 1 rfl ?_
  refine zj_if_lt (tgt := 21) o (zdd k_W_isParty 1 rfl) (by decide) (fun hc => ?_) (fun hc => ?_)
  · rw [if_pos hc] at h
    refine zj_iconst o (zdd k_W_isParty 11 rfl) zki_0 ?_
    cases h
    exact zr_i o hr (zdd k_W_isParty 12 rfl)
  · rw [if_neg hc] at h
    refine zj_iload_n o (zdd k_W_isParty 2 rfl) rfl 1 rfl ?_
    refine zj_iconst o (zdd k_W_isParty 3 rfl) zki_1 ?_
    refine zj_aload_n o (zdd k_W_isParty 4 rfl) rfl 0 rfl ?_
    obtain ⟨a1, e_a1, h⟩ := zbd h
    refine zj_gP o (zdd k_W_isParty 5 rfl) fl_W_16 rfl e_a1 ?_
    obtain ⟨x2, e_x2, h⟩ := zbd h
    refine zj_gI o (zdd k_W_isParty 6 rfl) fl_W_231 rfl e_x2 ?_
    refine zj_ishl o (zdd k_W_isParty 7 rfl) ?_
    refine zj_icmp_ge (tgt := 21) o (zdd k_W_isParty 8 rfl) (by decide) (fun hc => ?_) (fun hc => ?_)
    · rw [if_pos hc] at h
      refine zj_iconst o (zdd k_W_isParty 11 rfl) zki_0 ?_
      cases h
      exact zr_i o hr (zdd k_W_isParty 12 rfl)
    · rw [if_neg hc] at h
      refine zj_iconst o (zdd k_W_isParty 9 rfl) zki_1 ?_
      refine zj_goto (tgt := 22) o (zdd k_W_isParty 10 rfl) (by decide) ?_
      cases h
      exact zr_i o hr (zdd k_W_isParty 12 rfl)
def f_W_isHere (σ : zSt) (t : Nat) (p0 : Int32) : Option (Int32) :=
zg σ 11 t (
((f_W_isBook σ t p0).bind fun x1 =>
if x1 = 0 then (
some 0) else
(zgP σ 11 t 5).bind fun a2 =>
(zgI σ 4 a2 4).bind fun x3 =>
if (x3 >>> (p0 &&& 31)) &&& 1 = 0 then (
some 1) else
some 0).bind zbool)
set_option maxRecDepth 100000 in
set_option maxHeartbeats 4000000 in
theorem m_W_isHere {l : Launch} {b : Nat} {ex : Nat → Value} {D : va_G} {ca : Nat → ClassId} {σ : zSt} {t : Nat} {p0 : Int32} {z : Int32} (h : f_W_isHere σ t p0 = some z) : zMT l b ex D ca 2 y_W_isHere c_W_isHere n_W_isHere r_ret_W_isHere [.ref t, .int p0] σ (some (.int z)) σ 0 0 := by
  obtain ⟨_, hg0⟩ := zg_some h
  obtain ⟨z0, hbd, hz⟩ := zbd hg0
  obtain ⟨hzb, rfl⟩ := zbool_some hz
  have h := hbd
  refine zmt_of (by decide) (Nat.le_of_ble_eq_true rfl) ⟨.boolean, rfl, zb_nar hzb⟩ (fun X o hin hrm _ _ _ _ _ hr => ?_)
  have hr := hr 0 0 (by decide) (by decide)
  have o : zOK X "WantShelves" c_W_isHere n_W_isHere 2 := o
  change zPJ X 0 0 0 [(0, .ref t), (1, .int p0)] [] σ
  refine zj_aload_n o (zdd k_W_isHere 0 rfl) rfl 0 rfl ?_
  refine zj_iload_n o (zdd k_W_isHere 1 rfl) rfl 1 rfl ?_
  obtain ⟨x1, e_x1, h⟩ := zbd h
  refine zc_V o (zdd k_W_isHere 2 rfl) ml_W_136 mv_W_isBook ⟨rfl, by decide⟩ (zg_some e_x1).1 (by decide) [.int p0] [] rfl (Nat.le_of_ble_eq_true rfl) rfl (m_W_isBook e_x1) ?_
  change zPJ X 0 0 _ _ [.int x1] _
  refine zj_if_eq (tgt := 26) o (zdd k_W_isHere 3 rfl) (by decide) (fun hc => ?_) (fun hc => ?_)
  · rw [if_pos hc] at h
    refine zj_iconst o (zdd k_W_isHere 14 rfl) zki_0 ?_
    cases h
    exact zr_i o hr (zdd k_W_isHere 15 rfl)
  · rw [if_neg hc] at h
    refine zj_aload_n o (zdd k_W_isHere 4 rfl) rfl 0 rfl ?_
    obtain ⟨a2, e_a2, h⟩ := zbd h
    refine zj_gP o (zdd k_W_isHere 5 rfl) fl_W_35 rfl e_a2 ?_
    obtain ⟨x3, e_x3, h⟩ := zbd h
    refine zj_gI o (zdd k_W_isHere 6 rfl) fl_W_202 rfl e_x3 ?_
    refine zj_iload_n o (zdd k_W_isHere 7 rfl) rfl 1 rfl ?_
    refine zj_ishr o (zdd k_W_isHere 8 rfl) ?_
    refine zj_iconst o (zdd k_W_isHere 9 rfl) zki_1 ?_
    refine zj_iand o (zdd k_W_isHere 10 rfl) ?_
    refine zj_if_ne (tgt := 26) o (zdd k_W_isHere 11 rfl) (by decide) (fun hc => ?_) (fun hc => ?_)
    · rw [if_neg hc] at h
      refine zj_iconst o (zdd k_W_isHere 14 rfl) zki_0 ?_
      cases h
      exact zr_i o hr (zdd k_W_isHere 15 rfl)
    · rw [if_pos hc] at h
      refine zj_iconst o (zdd k_W_isHere 12 rfl) zki_1 ?_
      refine zj_goto (tgt := 27) o (zdd k_W_isHere 13 rfl) (by decide) ?_
      cases h
      exact zr_i o hr (zdd k_W_isHere 15 rfl)
def f_W_place (σ : zSt) (t : Nat) (p0 : Int32) (p1 : Int32) : Option (Int32 × zSt) :=
zg σ 11 t (
(f_W_isParty σ t p0).bind fun x1 =>
if x1 = 0 then (
some ((-1), σ)) else
(f_W_isHere σ t p1).bind fun x2 =>
if x2 = 0 then (
some ((-1), σ)) else
(zgP σ 11 t 9).bind fun a3 =>
(zgP σ 11 t 2).bind fun a4 =>
(zgP σ 11 t 5).bind fun a5 =>
(f_S_open σ a3 a4 a5).bind fun σ6 =>
(zgP σ6 11 t 9).bind fun a7 =>
(f_S_placeFor σ6 a7 p0 p1).bind fun q8 =>
some (q8.1, q8.2))
set_option maxRecDepth 100000 in
set_option maxHeartbeats 4000000 in
theorem m_W_place {l : Launch} {b : Nat} {ex : Nat → Value} {D : va_G} {ca : Nat → ClassId} {σ : zSt} {t : Nat} {p0 : Int32} {p1 : Int32} {z : Int32 × zSt} (h : f_W_place σ t p0 p1 = some z) : zMT l b ex D ca 7 y_W_place c_W_place n_W_place r_ret_W_place [.ref t, .int p0, .int p1] σ (some (.int z.1)) z.2 0 0 := by
  obtain ⟨_, hg0⟩ := zg_some h
  have h := hg0
  refine zmt_of (by decide) (Nat.le_of_ble_eq_true rfl) ⟨.int, rfl, rfl⟩ (fun X o hin hrm _ _ _ _ _ hr => ?_)
  have hr := hr 0 0 (by decide) (by decide)
  have o : zOK X "WantShelves" c_W_place n_W_place 7 := o
  change zPJ X 0 0 0 [(0, .ref t), (1, .int p0), (2, .int p1)] [] σ
  refine zj_aload_n o (zdd k_W_place 0 rfl) rfl 0 rfl ?_
  refine zj_iload_n o (zdd k_W_place 1 rfl) rfl 1 rfl ?_
  obtain ⟨x1, e_x1, h⟩ := zbd h
  refine zc_V o (zdd k_W_place 2 rfl) ml_W_174 mv_W_isParty ⟨rfl, by decide⟩ (zg_some e_x1).1 (by decide) [.int p0] [] rfl (Nat.le_of_ble_eq_true rfl) rfl (m_W_isParty e_x1) ?_
  change zPJ X 0 0 _ _ [.int x1] _
  refine zj_if_eq (tgt := 16) o (zdd k_W_place 3 rfl) (by decide) (fun hc => ?_) (fun hc => ?_)
  · rw [if_pos hc] at h
    refine zj_iconst o (zdd k_W_place 8 rfl) zki_m1 ?_
    cases h
    exact zr_i o hr (zdd k_W_place 9 rfl)
  · rw [if_neg hc] at h
    refine zj_aload_n o (zdd k_W_place 4 rfl) rfl 0 rfl ?_
    refine zj_iload_n o (zdd k_W_place 5 rfl) rfl 2 rfl ?_
    obtain ⟨x2, e_x2, h⟩ := zbd h
    refine zc_V o (zdd k_W_place 6 rfl) ml_W_177 mv_W_isHere ⟨rfl, by decide⟩ (zg_some e_x2).1 (by decide) [.int p1] [] rfl (Nat.le_of_ble_eq_true rfl) rfl (m_W_isHere e_x2) ?_
    change zPJ X 0 0 _ _ [.int x2] _
    refine zj_if_ne (tgt := 18) o (zdd k_W_place 7 rfl) (by decide) (fun hc => ?_) (fun hc => ?_)
    · rw [if_neg hc] at h
      refine zj_aload_n o (zdd k_W_place 10 rfl) rfl 0 rfl ?_
      obtain ⟨a3, e_a3, h⟩ := zbd h
      refine zj_gP o (zdd k_W_place 11 rfl) fl_W_56 rfl e_a3 ?_
      refine zj_aload_n o (zdd k_W_place 12 rfl) rfl 0 rfl ?_
      obtain ⟨a4, e_a4, h⟩ := zbd h
      refine zj_gP o (zdd k_W_place 13 rfl) fl_W_16 rfl e_a4 ?_
      refine zj_aload_n o (zdd k_W_place 14 rfl) rfl 0 rfl ?_
      obtain ⟨a5, e_a5, h⟩ := zbd h
      refine zj_gP o (zdd k_W_place 15 rfl) fl_W_35 rfl e_a5 ?_
      obtain ⟨σ6, e_σ6, h⟩ := zbd h
      refine zc_V o (zdd k_W_place 16 rfl) ml_W_166 mv_S_open ⟨rfl, by decide⟩ (zg_some e_σ6).1 (by decide) [.ref a4, .ref a5] [] rfl (Nat.le_of_ble_eq_true rfl) rfl (m_S_open e_σ6) ?_
      change zPJ X 0 0 _ _ [] _
      refine zj_aload_n o (zdd k_W_place 17 rfl) rfl 0 rfl ?_
      obtain ⟨a7, e_a7, h⟩ := zbd h
      refine zj_gP o (zdd k_W_place 18 rfl) fl_W_56 rfl e_a7 ?_
      refine zj_iload_n o (zdd k_W_place 19 rfl) rfl 1 rfl ?_
      refine zj_iload_n o (zdd k_W_place 20 rfl) rfl 2 rfl ?_
      obtain ⟨q8, e_q8, h⟩ := zbd h
      refine zc_V o (zdd k_W_place 21 rfl) ml_W_180 mv_S_placeFor ⟨rfl, by decide⟩ (zg_some e_q8).1 (by decide) [.int p0, .int p1] [] rfl (Nat.le_of_ble_eq_true rfl) rfl (m_S_placeFor e_q8) ?_
      change zPJ X 0 0 _ _ [.int q8.1] _
      cases h
      exact zr_i o hr (zdd k_W_place 22 rfl)
    · rw [if_pos hc] at h
      refine zj_iconst o (zdd k_W_place 8 rfl) zki_m1 ?_
      cases h
      exact zr_i o hr (zdd k_W_place 9 rfl)
def f_W_book (σ : zSt) (t : Nat) (p0 : Int32) (p1 : Int32) : Option (Int32 × zSt) :=
zg σ 11 t (
(f_W_isParty σ t p0).bind fun x1 =>
if x1 = 0 then (
some ((-1), σ)) else
(zgP σ 11 t 9).bind fun a2 =>
(zgP σ 11 t 2).bind fun a3 =>
(zgP σ 11 t 5).bind fun a4 =>
(f_S_open σ a2 a3 a4).bind fun σ5 =>
(zgP σ5 11 t 9).bind fun a6 =>
(f_S_lay σ5 a6 p0).bind fun σ7 =>
(zgP σ7 11 t 9).bind fun a8 =>
(f_S_laidAt σ7 a8 p1).bind fun x9 =>
some (x9, σ7))
set_option maxRecDepth 100000 in
set_option maxHeartbeats 4000000 in
theorem m_W_book {l : Launch} {b : Nat} {ex : Nat → Value} {D : va_G} {ca : Nat → ClassId} {σ : zSt} {t : Nat} {p0 : Int32} {p1 : Int32} {z : Int32 × zSt} (h : f_W_book σ t p0 p1 = some z) : zMT l b ex D ca 7 y_W_book c_W_book n_W_book r_ret_W_book [.ref t, .int p0, .int p1] σ (some (.int z.1)) z.2 0 0 := by
  obtain ⟨_, hg0⟩ := zg_some h
  have h := hg0
  refine zmt_of (by decide) (Nat.le_of_ble_eq_true rfl) ⟨.int, rfl, rfl⟩ (fun X o hin hrm _ _ _ _ _ hr => ?_)
  have hr := hr 0 0 (by decide) (by decide)
  have o : zOK X "WantShelves" c_W_book n_W_book 7 := o
  change zPJ X 0 0 0 [(0, .ref t), (1, .int p0), (2, .int p1)] [] σ
  refine zj_aload_n o (zdd k_W_book 0 rfl) rfl 0 rfl ?_
  refine zj_iload_n o (zdd k_W_book 1 rfl) rfl 1 rfl ?_
  obtain ⟨x1, e_x1, h⟩ := zbd h
  refine zc_V o (zdd k_W_book 2 rfl) ml_W_174 mv_W_isParty ⟨rfl, by decide⟩ (zg_some e_x1).1 (by decide) [.int p0] [] rfl (Nat.le_of_ble_eq_true rfl) rfl (m_W_isParty e_x1) ?_
  change zPJ X 0 0 _ _ [.int x1] _
  refine zj_if_ne (tgt := 10) o (zdd k_W_book 3 rfl) (by decide) (fun hc => ?_) (fun hc => ?_)
  · rw [if_neg hc] at h
    refine zj_aload_n o (zdd k_W_book 6 rfl) rfl 0 rfl ?_
    obtain ⟨a2, e_a2, h⟩ := zbd h
    refine zj_gP o (zdd k_W_book 7 rfl) fl_W_56 rfl e_a2 ?_
    refine zj_aload_n o (zdd k_W_book 8 rfl) rfl 0 rfl ?_
    obtain ⟨a3, e_a3, h⟩ := zbd h
    refine zj_gP o (zdd k_W_book 9 rfl) fl_W_16 rfl e_a3 ?_
    refine zj_aload_n o (zdd k_W_book 10 rfl) rfl 0 rfl ?_
    obtain ⟨a4, e_a4, h⟩ := zbd h
    refine zj_gP o (zdd k_W_book 11 rfl) fl_W_35 rfl e_a4 ?_
    obtain ⟨σ5, e_σ5, h⟩ := zbd h
    refine zc_V o (zdd k_W_book 12 rfl) ml_W_166 mv_S_open ⟨rfl, by decide⟩ (zg_some e_σ5).1 (by decide) [.ref a3, .ref a4] [] rfl (Nat.le_of_ble_eq_true rfl) rfl (m_S_open e_σ5) ?_
    change zPJ X 0 0 _ _ [] _
    refine zj_aload_n o (zdd k_W_book 13 rfl) rfl 0 rfl ?_
    obtain ⟨a6, e_a6, h⟩ := zbd h
    refine zj_gP o (zdd k_W_book 14 rfl) fl_W_56 rfl e_a6 ?_
    refine zj_iload_n o (zdd k_W_book 15 rfl) rfl 1 rfl ?_
    obtain ⟨σ7, e_σ7, h⟩ := zbd h
    refine zc_V o (zdd k_W_book 16 rfl) ml_W_183 mv_S_lay ⟨rfl, by decide⟩ (zg_some e_σ7).1 (by decide) [.int p0] [] rfl (Nat.le_of_ble_eq_true rfl) rfl (m_S_lay e_σ7) ?_
    change zPJ X 0 0 _ _ [] _
    refine zj_aload_n o (zdd k_W_book 17 rfl) rfl 0 rfl ?_
    obtain ⟨a8, e_a8, h⟩ := zbd h
    refine zj_gP o (zdd k_W_book 18 rfl) fl_W_56 rfl e_a8 ?_
    refine zj_iload_n o (zdd k_W_book 19 rfl) rfl 2 rfl ?_
    obtain ⟨x9, e_x9, h⟩ := zbd h
    refine zc_V o (zdd k_W_book 20 rfl) ml_W_186 mv_S_laidAt ⟨rfl, by decide⟩ (zg_some e_x9).1 (by decide) [.int p1] [] rfl (Nat.le_of_ble_eq_true rfl) rfl (m_S_laidAt e_x9) ?_
    change zPJ X 0 0 _ _ [.int x9] _
    cases h
    exact zr_i o hr (zdd k_W_book 21 rfl)
  · rw [if_pos hc] at h
    refine zj_iconst o (zdd k_W_book 4 rfl) zki_m1 ?_
    cases h
    exact zr_i o hr (zdd k_W_book 5 rfl)
def f_W_steps (σ : zSt) (t : Nat) (p0 : Int32) : Option (Int32 × zSt) :=
zg σ 11 t (
(f_W_isHere σ t p0).bind fun x1 =>
if x1 = 0 then (
some ((-1), σ)) else
(zgP σ 11 t 9).bind fun a2 =>
(zgP σ 11 t 2).bind fun a3 =>
(zgP σ 11 t 5).bind fun a4 =>
(f_S_open σ a2 a3 a4).bind fun σ5 =>
(zgP σ5 11 t 2).bind fun a6 =>
(zgP σ5 11 t 9).bind fun a7 =>
(zgP σ5 11 t 5).bind fun a8 =>
(zgI σ5 4 a8 3).bind fun x9 =>
(f_S_placeFor σ5 a7 x9 p0).bind fun q10 =>
(f_D_stepsTo q10.2 a6 q10.1).bind fun x11 =>
some (x11, q10.2))
set_option maxRecDepth 100000 in
set_option maxHeartbeats 4000000 in
theorem m_W_steps {l : Launch} {b : Nat} {ex : Nat → Value} {D : va_G} {ca : Nat → ClassId} {σ : zSt} {t : Nat} {p0 : Int32} {z : Int32 × zSt} (h : f_W_steps σ t p0 = some z) : zMT l b ex D ca 7 y_W_steps c_W_steps n_W_steps r_ret_W_steps [.ref t, .int p0] σ (some (.int z.1)) z.2 0 0 := by
  obtain ⟨_, hg0⟩ := zg_some h
  have h := hg0
  refine zmt_of (by decide) (Nat.le_of_ble_eq_true rfl) ⟨.int, rfl, rfl⟩ (fun X o hin hrm _ _ _ _ _ hr => ?_)
  have hr := hr 0 0 (by decide) (by decide)
  have o : zOK X "WantShelves" c_W_steps n_W_steps 7 := o
  change zPJ X 0 0 0 [(0, .ref t), (1, .int p0)] [] σ
  refine zj_aload_n o (zdd k_W_steps 0 rfl) rfl 0 rfl ?_
  refine zj_iload_n o (zdd k_W_steps 1 rfl) rfl 1 rfl ?_
  obtain ⟨x1, e_x1, h⟩ := zbd h
  refine zc_V o (zdd k_W_steps 2 rfl) ml_W_177 mv_W_isHere ⟨rfl, by decide⟩ (zg_some e_x1).1 (by decide) [.int p0] [] rfl (Nat.le_of_ble_eq_true rfl) rfl (m_W_isHere e_x1) ?_
  change zPJ X 0 0 _ _ [.int x1] _
  refine zj_if_ne (tgt := 10) o (zdd k_W_steps 3 rfl) (by decide) (fun hc => ?_) (fun hc => ?_)
  · rw [if_neg hc] at h
    refine zj_aload_n o (zdd k_W_steps 6 rfl) rfl 0 rfl ?_
    obtain ⟨a2, e_a2, h⟩ := zbd h
    refine zj_gP o (zdd k_W_steps 7 rfl) fl_W_56 rfl e_a2 ?_
    refine zj_aload_n o (zdd k_W_steps 8 rfl) rfl 0 rfl ?_
    obtain ⟨a3, e_a3, h⟩ := zbd h
    refine zj_gP o (zdd k_W_steps 9 rfl) fl_W_16 rfl e_a3 ?_
    refine zj_aload_n o (zdd k_W_steps 10 rfl) rfl 0 rfl ?_
    obtain ⟨a4, e_a4, h⟩ := zbd h
    refine zj_gP o (zdd k_W_steps 11 rfl) fl_W_35 rfl e_a4 ?_
    obtain ⟨σ5, e_σ5, h⟩ := zbd h
    refine zc_V o (zdd k_W_steps 12 rfl) ml_W_166 mv_S_open ⟨rfl, by decide⟩ (zg_some e_σ5).1 (by decide) [.ref a3, .ref a4] [] rfl (Nat.le_of_ble_eq_true rfl) rfl (m_S_open e_σ5) ?_
    change zPJ X 0 0 _ _ [] _
    refine zj_aload_n o (zdd k_W_steps 13 rfl) rfl 0 rfl ?_
    obtain ⟨a6, e_a6, h⟩ := zbd h
    refine zj_gP o (zdd k_W_steps 14 rfl) fl_W_16 rfl e_a6 ?_
    refine zj_aload_n o (zdd k_W_steps 15 rfl) rfl 0 rfl ?_
    obtain ⟨a7, e_a7, h⟩ := zbd h
    refine zj_gP o (zdd k_W_steps 16 rfl) fl_W_56 rfl e_a7 ?_
    refine zj_aload_n o (zdd k_W_steps 17 rfl) rfl 0 rfl ?_
    obtain ⟨a8, e_a8, h⟩ := zbd h
    refine zj_gP o (zdd k_W_steps 18 rfl) fl_W_35 rfl e_a8 ?_
    obtain ⟨x9, e_x9, h⟩ := zbd h
    refine zj_gI o (zdd k_W_steps 19 rfl) fl_W_159 rfl e_x9 ?_
    refine zj_iload_n o (zdd k_W_steps 20 rfl) rfl 1 rfl ?_
    obtain ⟨q10, e_q10, h⟩ := zbd h
    refine zc_V o (zdd k_W_steps 21 rfl) ml_W_180 mv_S_placeFor ⟨rfl, by decide⟩ (zg_some e_q10).1 (by decide) [.int x9, .int p0] [.ref a6] rfl (Nat.le_of_ble_eq_true rfl) rfl (m_S_placeFor e_q10) ?_
    change zPJ X 0 0 _ _ [.int q10.1, .ref a6] _
    obtain ⟨x11, e_x11, h⟩ := zbd h
    refine zc_V o (zdd k_W_steps 22 rfl) ml_W_189 mv_D_stepsTo ⟨rfl, by decide⟩ (zg_some e_x11).1 (by decide) [.int q10.1] [] rfl (Nat.le_of_ble_eq_true rfl) rfl (m_D_stepsTo e_x11) ?_
    change zPJ X 0 0 _ _ [.int x11] _
    cases h
    exact zr_i o hr (zdd k_W_steps 23 rfl)
  · rw [if_pos hc] at h
    refine zj_iconst o (zdd k_W_steps 4 rfl) zki_m1 ?_
    cases h
    exact zr_i o hr (zdd k_W_steps 5 rfl)
def f_W_comes (σ : zSt) (t : Nat) (p0 : Int32) : Option (Int32 × zSt) :=
zg σ 11 t (
(f_W_isReader σ t p0).bind fun x1 =>
if x1 = 0 then (
some ((-1), σ)) else
(zgP σ 11 t 8).bind fun a2 =>
(f_A_add σ a2 0 p0 0 0).bind fun σ3 =>
(zgP σ3 11 t 5).bind fun a4 =>
(f_N_turnIn σ3 a4 p0).bind fun σ5 =>
(zgP σ5 11 t 5).bind fun a6 =>
(zgI σ5 4 a6 3).bind fun x7 =>
some ((x7 >>> (p0 &&& 31)) &&& 1, σ5))
set_option maxRecDepth 100000 in
set_option maxHeartbeats 4000000 in
theorem m_W_comes {l : Launch} {b : Nat} {ex : Nat → Value} {D : va_G} {ca : Nat → ClassId} {σ : zSt} {t : Nat} {p0 : Int32} {z : Int32 × zSt} (h : f_W_comes σ t p0 = some z) : zMT l b ex D ca 4 y_W_comes c_W_comes n_W_comes r_ret_W_comes [.ref t, .int p0] σ (some (.int z.1)) z.2 0 0 := by
  obtain ⟨_, hg0⟩ := zg_some h
  have h := hg0
  refine zmt_of (by decide) (Nat.le_of_ble_eq_true rfl) ⟨.int, rfl, rfl⟩ (fun X o hin hrm _ _ _ _ _ hr => ?_)
  have hr := hr 0 0 (by decide) (by decide)
  have o : zOK X "WantShelves" c_W_comes n_W_comes 4 := o
  change zPJ X 0 0 0 [(0, .ref t), (1, .int p0)] [] σ
  refine zj_aload_n o (zdd k_W_comes 0 rfl) rfl 0 rfl ?_
  refine zj_iload_n o (zdd k_W_comes 1 rfl) rfl 1 rfl ?_
  obtain ⟨x1, e_x1, h⟩ := zbd h
  refine zc_V o (zdd k_W_comes 2 rfl) ml_W_146 mv_W_isReader ⟨rfl, by decide⟩ (zg_some e_x1).1 (by decide) [.int p0] [] rfl (Nat.le_of_ble_eq_true rfl) rfl (m_W_isReader e_x1) ?_
  change zPJ X 0 0 _ _ [.int x1] _
  refine zj_if_ne (tgt := 10) o (zdd k_W_comes 3 rfl) (by decide) (fun hc => ?_) (fun hc => ?_)
  · rw [if_neg hc] at h
    refine zj_aload_n o (zdd k_W_comes 6 rfl) rfl 0 rfl ?_
    obtain ⟨a2, e_a2, h⟩ := zbd h
    refine zj_gP o (zdd k_W_comes 7 rfl) fl_W_49 rfl e_a2 ?_
    refine zj_iconst o (zdd k_W_comes 8 rfl) zki_0 ?_
    refine zj_iload_n o (zdd k_W_comes 9 rfl) rfl 1 rfl ?_
    refine zj_iconst o (zdd k_W_comes 10 rfl) zki_0 ?_
    refine zj_iconst o (zdd k_W_comes 11 rfl) zki_0 ?_
    obtain ⟨σ3, e_σ3, h⟩ := zbd h
    refine zc_V o (zdd k_W_comes 12 rfl) ml_W_192 mv_A_add ⟨rfl, by decide⟩ (zg_some e_σ3).1 (by decide) [.int 0, .int p0, .int 0, .int 0] [] rfl (Nat.le_of_ble_eq_true rfl) rfl (m_A_add e_σ3) ?_
    change zPJ X 0 0 _ _ [] _
    refine zj_aload_n o (zdd k_W_comes 13 rfl) rfl 0 rfl ?_
    obtain ⟨a4, e_a4, h⟩ := zbd h
    refine zj_gP o (zdd k_W_comes 14 rfl) fl_W_35 rfl e_a4 ?_
    refine zj_iload_n o (zdd k_W_comes 15 rfl) rfl 1 rfl ?_
    obtain ⟨σ5, e_σ5, h⟩ := zbd h
    refine zc_V o (zdd k_W_comes 16 rfl) ml_W_196 mv_N_turnIn ⟨rfl, by decide⟩ (zg_some e_σ5).1 (by decide) [.int p0] [] rfl (Nat.le_of_ble_eq_true rfl) rfl (m_N_turnIn e_σ5) ?_
    change zPJ X 0 0 _ _ [] _
    refine zj_aload_n o (zdd k_W_comes 17 rfl) rfl 0 rfl ?_
    obtain ⟨a6, e_a6, h⟩ := zbd h
    refine zj_gP o (zdd k_W_comes 18 rfl) fl_W_35 rfl e_a6 ?_
    obtain ⟨x7, e_x7, h⟩ := zbd h
    refine zj_gI o (zdd k_W_comes 19 rfl) fl_W_159 rfl e_x7 ?_
    refine zj_iload_n o (zdd k_W_comes 20 rfl) rfl 1 rfl ?_
    refine zj_ishr o (zdd k_W_comes 21 rfl) ?_
    refine zj_iconst o (zdd k_W_comes 22 rfl) zki_1 ?_
    refine zj_iand o (zdd k_W_comes 23 rfl) ?_
    cases h
    exact zr_i o hr (zdd k_W_comes 24 rfl)
  · rw [if_pos hc] at h
    refine zj_iconst o (zdd k_W_comes 4 rfl) zki_m1 ?_
    cases h
    exact zr_i o hr (zdd k_W_comes 5 rfl)
def f_W_mood_24 (σ : zSt) (v0 : Nat) (v1 : Int32) (v2 : Int32) : Option (Int32 × zSt) :=
(zgP σ 11 v0 5).bind fun a1 =>
(zgP σ 4 a1 1).bind fun a2 =>
(zaI σ 1 a2 v1).bind fun x3 =>
(zgP σ 11 v0 8).bind fun a4 =>
(f_A_add σ a4 1 v1 x3 v2).bind fun σ5 =>
(zgP σ5 11 v0 5).bind fun a6 =>
(zgP σ5 4 a6 1).bind fun a7 =>
(zwI σ5 1 a7 v1 v2).bind fun σ8 =>
some (x3, σ8)
set_option maxRecDepth 100000 in
set_option maxHeartbeats 4000000 in
theorem r_W_mood_24 {X : zCX} (o : zOK X "WantShelves" c_W_mood n_W_mood 4) {σ : zSt} {v0 : Nat} {v1 : Int32} {v2 : Int32} {z : Int32 × zSt} (h : f_W_mood_24 σ v0 v1 v2 = some z) (hr : zRX X 0 0 (some (.int z.1)) z.2) : zPJ X 0 0 24 [(0, .ref v0), (1, .int v1), (2, .int v2)] [] σ := by
  unfold f_W_mood_24 at h
  refine zj_aload_n o (zdd k_W_mood 13 rfl) rfl 0 rfl ?_
  obtain ⟨a1, e_a1, h⟩ := zbd h
  refine zj_gP o (zdd k_W_mood 14 rfl) fl_W_35 rfl e_a1 ?_
  obtain ⟨a2, e_a2, h⟩ := zbd h
  refine zj_gP o (zdd k_W_mood 15 rfl) fl_W_156 rfl e_a2 ?_
  refine zj_iload_n o (zdd k_W_mood 16 rfl) rfl 1 rfl ?_
  obtain ⟨x3, e_x3, h⟩ := zbd h
  refine zj_iald o (zdd k_W_mood 17 rfl) e_x3 ?_
  refine zj_istore_n (loc' := [(3, .int x3), (0, .ref v0), (1, .int v1), (2, .int v2)]) o (zdd k_W_mood 18 rfl) rfl (by decide) rfl ?_
  refine zj_aload_n o (zdd k_W_mood 19 rfl) rfl 1 rfl ?_
  obtain ⟨a4, e_a4, h⟩ := zbd h
  refine zj_gP o (zdd k_W_mood 20 rfl) fl_W_49 rfl e_a4 ?_
  refine zj_iconst o (zdd k_W_mood 21 rfl) zki_1 ?_
  refine zj_iload_n o (zdd k_W_mood 22 rfl) rfl 2 rfl ?_
  refine zj_iload_n o (zdd k_W_mood 23 rfl) rfl 0 rfl ?_
  refine zj_iload_n o (zdd k_W_mood 24 rfl) rfl 3 rfl ?_
  obtain ⟨σ5, e_σ5, h⟩ := zbd h
  refine zc_V o (zdd k_W_mood 25 rfl) ml_W_192 mv_A_add ⟨rfl, by decide⟩ (zg_some e_σ5).1 (by decide) [.int 1, .int v1, .int x3, .int v2] [] rfl (Nat.le_of_ble_eq_true rfl) rfl (m_A_add e_σ5) ?_
  change zPJ X 0 0 _ _ [] _
  refine zj_aload_n o (zdd k_W_mood 26 rfl) rfl 1 rfl ?_
  obtain ⟨a6, e_a6, h⟩ := zbd h
  refine zj_gP o (zdd k_W_mood 27 rfl) fl_W_35 rfl e_a6 ?_
  obtain ⟨a7, e_a7, h⟩ := zbd h
  refine zj_gP o (zdd k_W_mood 28 rfl) fl_W_156 rfl e_a7 ?_
  refine zj_iload_n o (zdd k_W_mood 29 rfl) rfl 2 rfl ?_
  refine zj_iload_n o (zdd k_W_mood 30 rfl) rfl 3 rfl ?_
  obtain ⟨σ8, e_σ8, h⟩ := zbd h
  refine zj_iast o (zdd k_W_mood 31 rfl) e_σ8 ?_
  refine zj_iload_n o (zdd k_W_mood 32 rfl) rfl 0 rfl ?_
  cases h
  exact zr_i o hr (zdd k_W_mood 33 rfl)
def f_W_mood (σ : zSt) (t : Nat) (p0 : Int32) (p1 : Int32) : Option (Int32 × zSt) :=
zg σ 11 t (
(f_W_isReader σ t p0).bind fun x1 =>
if x1 = 0 then (
some ((-2), σ)) else
if p1 = (-1) then (
f_W_mood_24 σ t p0 p1) else
(f_W_isTopic σ t p1).bind fun x2 =>
if x2 = 0 then (
some ((-2), σ)) else
f_W_mood_24 σ t p0 p1)
set_option maxRecDepth 100000 in
set_option maxHeartbeats 4000000 in
theorem m_W_mood {l : Launch} {b : Nat} {ex : Nat → Value} {D : va_G} {ca : Nat → ClassId} {σ : zSt} {t : Nat} {p0 : Int32} {p1 : Int32} {z : Int32 × zSt} (h : f_W_mood σ t p0 p1 = some z) : zMT l b ex D ca 4 y_W_mood c_W_mood n_W_mood r_ret_W_mood [.ref t, .int p0, .int p1] σ (some (.int z.1)) z.2 0 0 := by
  obtain ⟨_, hg0⟩ := zg_some h
  have h := hg0
  refine zmt_of (by decide) (Nat.le_of_ble_eq_true rfl) ⟨.int, rfl, rfl⟩ (fun X o hin hrm _ _ _ _ _ hr => ?_)
  have hr := hr 0 0 (by decide) (by decide)
  have o : zOK X "WantShelves" c_W_mood n_W_mood 4 := o
  change zPJ X 0 0 0 [(0, .ref t), (1, .int p0), (2, .int p1)] [] σ
  refine zj_aload_n o (zdd k_W_mood 0 rfl) rfl 0 rfl ?_
  refine zj_iload_n o (zdd k_W_mood 1 rfl) rfl 1 rfl ?_
  obtain ⟨x1, e_x1, h⟩ := zbd h
  refine zc_V o (zdd k_W_mood 2 rfl) ml_W_146 mv_W_isReader ⟨rfl, by decide⟩ (zg_some e_x1).1 (by decide) [.int p0] [] rfl (Nat.le_of_ble_eq_true rfl) rfl (m_W_isReader e_x1) ?_
  change zPJ X 0 0 _ _ [.int x1] _
  refine zj_if_eq (tgt := 21) o (zdd k_W_mood 3 rfl) (by decide) (fun hc => ?_) (fun hc => ?_)
  · rw [if_pos hc] at h
    refine zj_bipush o (zdd k_W_mood 11 rfl) zkb_m2 ?_
    cases h
    exact zr_i o hr (zdd k_W_mood 12 rfl)
  · rw [if_neg hc] at h
    refine zj_iload_n o (zdd k_W_mood 4 rfl) rfl 2 rfl ?_
    refine zj_iconst o (zdd k_W_mood 5 rfl) zki_m1 ?_
    refine zj_icmp_eq (tgt := 24) o (zdd k_W_mood 6 rfl) (by decide) (fun hc => ?_) (fun hc => ?_)
    · rw [if_pos hc] at h
      exact zj_sub [0, 1, 2] rfl (r_W_mood_24 o  h hr)
    · rw [if_neg hc] at h
      refine zj_aload_n o (zdd k_W_mood 7 rfl) rfl 0 rfl ?_
      refine zj_iload_n o (zdd k_W_mood 8 rfl) rfl 2 rfl ?_
      obtain ⟨x2, e_x2, h⟩ := zbd h
      refine zc_V o (zdd k_W_mood 9 rfl) ml_W_140 mv_W_isTopic ⟨rfl, by decide⟩ (zg_some e_x2).1 (by decide) [.int p1] [] rfl (Nat.le_of_ble_eq_true rfl) rfl (m_W_isTopic e_x2) ?_
      change zPJ X 0 0 _ _ [.int x2] _
      refine zj_if_ne (tgt := 24) o (zdd k_W_mood 10 rfl) (by decide) (fun hc => ?_) (fun hc => ?_)
      · rw [if_neg hc] at h
        exact zj_sub [0, 1, 2] rfl (r_W_mood_24 o  h hr)
      · rw [if_pos hc] at h
        refine zj_bipush o (zdd k_W_mood 11 rfl) zkb_m2 ?_
        cases h
        exact zr_i o hr (zdd k_W_mood 12 rfl)
def f_W_out (σ : zSt) (t : Nat) (p0 : Int32) : Option (Int32 × zSt) :=
zg σ 11 t (
(f_W_isBook σ t p0).bind fun x1 =>
if x1 = 0 then (
some ((-1), σ)) else
(zgP σ 11 t 8).bind fun a2 =>
(f_A_add σ a2 2 p0 0 0).bind fun σ3 =>
(zgP σ3 11 t 5).bind fun a4 =>
(f_N_turnOut σ3 a4 p0).bind fun σ5 =>
(zgP σ5 11 t 5).bind fun a6 =>
(zgI σ5 4 a6 4).bind fun x7 =>
some ((x7 >>> (p0 &&& 31)) &&& 1, σ5))
set_option maxRecDepth 100000 in
set_option maxHeartbeats 4000000 in
theorem m_W_out {l : Launch} {b : Nat} {ex : Nat → Value} {D : va_G} {ca : Nat → ClassId} {σ : zSt} {t : Nat} {p0 : Int32} {z : Int32 × zSt} (h : f_W_out σ t p0 = some z) : zMT l b ex D ca 4 y_W_out c_W_out n_W_out r_ret_W_out [.ref t, .int p0] σ (some (.int z.1)) z.2 0 0 := by
  obtain ⟨_, hg0⟩ := zg_some h
  have h := hg0
  refine zmt_of (by decide) (Nat.le_of_ble_eq_true rfl) ⟨.int, rfl, rfl⟩ (fun X o hin hrm _ _ _ _ _ hr => ?_)
  have hr := hr 0 0 (by decide) (by decide)
  have o : zOK X "WantShelves" c_W_out n_W_out 4 := o
  change zPJ X 0 0 0 [(0, .ref t), (1, .int p0)] [] σ
  refine zj_aload_n o (zdd k_W_out 0 rfl) rfl 0 rfl ?_
  refine zj_iload_n o (zdd k_W_out 1 rfl) rfl 1 rfl ?_
  obtain ⟨x1, e_x1, h⟩ := zbd h
  refine zc_V o (zdd k_W_out 2 rfl) ml_W_136 mv_W_isBook ⟨rfl, by decide⟩ (zg_some e_x1).1 (by decide) [.int p0] [] rfl (Nat.le_of_ble_eq_true rfl) rfl (m_W_isBook e_x1) ?_
  change zPJ X 0 0 _ _ [.int x1] _
  refine zj_if_ne (tgt := 10) o (zdd k_W_out 3 rfl) (by decide) (fun hc => ?_) (fun hc => ?_)
  · rw [if_neg hc] at h
    refine zj_aload_n o (zdd k_W_out 6 rfl) rfl 0 rfl ?_
    obtain ⟨a2, e_a2, h⟩ := zbd h
    refine zj_gP o (zdd k_W_out 7 rfl) fl_W_49 rfl e_a2 ?_
    refine zj_iconst o (zdd k_W_out 8 rfl) zki_2 ?_
    refine zj_iload_n o (zdd k_W_out 9 rfl) rfl 1 rfl ?_
    refine zj_iconst o (zdd k_W_out 10 rfl) zki_0 ?_
    refine zj_iconst o (zdd k_W_out 11 rfl) zki_0 ?_
    obtain ⟨σ3, e_σ3, h⟩ := zbd h
    refine zc_V o (zdd k_W_out 12 rfl) ml_W_192 mv_A_add ⟨rfl, by decide⟩ (zg_some e_σ3).1 (by decide) [.int 2, .int p0, .int 0, .int 0] [] rfl (Nat.le_of_ble_eq_true rfl) rfl (m_A_add e_σ3) ?_
    change zPJ X 0 0 _ _ [] _
    refine zj_aload_n o (zdd k_W_out 13 rfl) rfl 0 rfl ?_
    obtain ⟨a4, e_a4, h⟩ := zbd h
    refine zj_gP o (zdd k_W_out 14 rfl) fl_W_35 rfl e_a4 ?_
    refine zj_iload_n o (zdd k_W_out 15 rfl) rfl 1 rfl ?_
    obtain ⟨σ5, e_σ5, h⟩ := zbd h
    refine zc_V o (zdd k_W_out 16 rfl) ml_W_199 mv_N_turnOut ⟨rfl, by decide⟩ (zg_some e_σ5).1 (by decide) [.int p0] [] rfl (Nat.le_of_ble_eq_true rfl) rfl (m_N_turnOut e_σ5) ?_
    change zPJ X 0 0 _ _ [] _
    refine zj_aload_n o (zdd k_W_out 17 rfl) rfl 0 rfl ?_
    obtain ⟨a6, e_a6, h⟩ := zbd h
    refine zj_gP o (zdd k_W_out 18 rfl) fl_W_35 rfl e_a6 ?_
    obtain ⟨x7, e_x7, h⟩ := zbd h
    refine zj_gI o (zdd k_W_out 19 rfl) fl_W_202 rfl e_x7 ?_
    refine zj_iload_n o (zdd k_W_out 20 rfl) rfl 1 rfl ?_
    refine zj_ishr o (zdd k_W_out 21 rfl) ?_
    refine zj_iconst o (zdd k_W_out 22 rfl) zki_1 ?_
    refine zj_iand o (zdd k_W_out 23 rfl) ?_
    cases h
    exact zr_i o hr (zdd k_W_out 24 rfl)
  · rw [if_pos hc] at h
    refine zj_iconst o (zdd k_W_out 4 rfl) zki_m1 ?_
    cases h
    exact zr_i o hr (zdd k_W_out 5 rfl)
def f_W_read (σ : zSt) (t : Nat) (p0 : Int32) (p1 : Int32) : Option (Int32 × zSt) :=
zg σ 11 t (
(f_W_isReader σ t p0).bind fun x1 =>
if x1 = 0 then (
some ((-1), σ)) else
(f_W_isBook σ t p1).bind fun x2 =>
if x2 = 0 then (
some ((-1), σ)) else
(zgP σ 11 t 5).bind fun a3 =>
(zgP σ 4 a3 2).bind fun a4 =>
(zaI σ 1 a4 ((p0 * 10) + p1)).bind fun x5 =>
if x5 < 99 then (
(zgP σ 11 t 8).bind fun a6 =>
(f_A_add σ a6 3 p0 0 p1).bind fun σ7 =>
(zgP σ7 11 t 8).bind fun a8 =>
(zgP σ7 11 t 5).bind fun a9 =>
(f_A_keepWants σ7 a8 a9 p0).bind fun σ10 =>
(zgP σ10 11 t 5).bind fun a11 =>
(zgP σ10 11 t 2).bind fun a12 =>
(f_N_bendBy σ10 a11 a12 p0 p1).bind fun σ13 =>
(zgP σ13 11 t 5).bind fun a14 =>
(zgP σ13 4 a14 2).bind fun a15 =>
(zaI σ13 1 a15 ((p0 * 10) + p1)).bind fun x16 =>
some (x16, σ13)) else
some ((-1), σ))
set_option maxRecDepth 100000 in
set_option maxHeartbeats 4000000 in
theorem m_W_read {l : Launch} {b : Nat} {ex : Nat → Value} {D : va_G} {ca : Nat → ClassId} {σ : zSt} {t : Nat} {p0 : Int32} {p1 : Int32} {z : Int32 × zSt} (h : f_W_read σ t p0 p1 = some z) : zMT l b ex D ca 5 y_W_read c_W_read n_W_read r_ret_W_read [.ref t, .int p0, .int p1] σ (some (.int z.1)) z.2 0 0 := by
  obtain ⟨_, hg0⟩ := zg_some h
  have h := hg0
  refine zmt_of (by decide) (Nat.le_of_ble_eq_true rfl) ⟨.int, rfl, rfl⟩ (fun X o hin hrm _ _ _ _ _ hr => ?_)
  have hr := hr 0 0 (by decide) (by decide)
  have o : zOK X "WantShelves" c_W_read n_W_read 5 := o
  change zPJ X 0 0 0 [(0, .ref t), (1, .int p0), (2, .int p1)] [] σ
  refine zj_aload_n o (zdd k_W_read 0 rfl) rfl 0 rfl ?_
  refine zj_iload_n o (zdd k_W_read 1 rfl) rfl 1 rfl ?_
  obtain ⟨x1, e_x1, h⟩ := zbd h
  refine zc_V o (zdd k_W_read 2 rfl) ml_W_146 mv_W_isReader ⟨rfl, by decide⟩ (zg_some e_x1).1 (by decide) [.int p0] [] rfl (Nat.le_of_ble_eq_true rfl) rfl (m_W_isReader e_x1) ?_
  change zPJ X 0 0 _ _ [.int x1] _
  refine zj_if_eq (tgt := 35) o (zdd k_W_read 3 rfl) (by decide) (fun hc => ?_) (fun hc => ?_)
  · rw [if_pos hc] at h
    refine zj_iconst o (zdd k_W_read 19 rfl) zki_m1 ?_
    cases h
    exact zr_i o hr (zdd k_W_read 20 rfl)
  · rw [if_neg hc] at h
    refine zj_aload_n o (zdd k_W_read 4 rfl) rfl 0 rfl ?_
    refine zj_iload_n o (zdd k_W_read 5 rfl) rfl 2 rfl ?_
    obtain ⟨x2, e_x2, h⟩ := zbd h
    refine zc_V o (zdd k_W_read 6 rfl) ml_W_136 mv_W_isBook ⟨rfl, by decide⟩ (zg_some e_x2).1 (by decide) [.int p1] [] rfl (Nat.le_of_ble_eq_true rfl) rfl (m_W_isBook e_x2) ?_
    change zPJ X 0 0 _ _ [.int x2] _
    refine zj_if_eq (tgt := 35) o (zdd k_W_read 7 rfl) (by decide) (fun hc => ?_) (fun hc => ?_)
    · rw [if_pos hc] at h
      refine zj_iconst o (zdd k_W_read 19 rfl) zki_m1 ?_
      cases h
      exact zr_i o hr (zdd k_W_read 20 rfl)
    · rw [if_neg hc] at h
      refine zj_aload_n o (zdd k_W_read 8 rfl) rfl 0 rfl ?_
      obtain ⟨a3, e_a3, h⟩ := zbd h
      refine zj_gP o (zdd k_W_read 9 rfl) fl_W_35 rfl e_a3 ?_
      obtain ⟨a4, e_a4, h⟩ := zbd h
      refine zj_gP o (zdd k_W_read 10 rfl) fl_W_205 rfl e_a4 ?_
      refine zj_iload_n o (zdd k_W_read 11 rfl) rfl 1 rfl ?_
      refine zj_bipush o (zdd k_W_read 12 rfl) zkb_10 ?_
      refine zj_imul o (zdd k_W_read 13 rfl) ?_
      refine zj_iload_n o (zdd k_W_read 14 rfl) rfl 2 rfl ?_
      refine zj_iadd o (zdd k_W_read 15 rfl) ?_
      obtain ⟨x5, e_x5, h⟩ := zbd h
      refine zj_iald o (zdd k_W_read 16 rfl) e_x5 ?_
      refine zj_bipush o (zdd k_W_read 17 rfl) zkb_99 ?_
      refine zj_icmp_lt (tgt := 37) o (zdd k_W_read 18 rfl) (by decide) (fun hc => ?_) (fun hc => ?_)
      · rw [if_pos hc] at h
        refine zj_aload_n o (zdd k_W_read 21 rfl) rfl 0 rfl ?_
        obtain ⟨a6, e_a6, h⟩ := zbd h
        refine zj_gP o (zdd k_W_read 22 rfl) fl_W_49 rfl e_a6 ?_
        refine zj_iconst o (zdd k_W_read 23 rfl) zki_3 ?_
        refine zj_iload_n o (zdd k_W_read 24 rfl) rfl 1 rfl ?_
        refine zj_iconst o (zdd k_W_read 25 rfl) zki_0 ?_
        refine zj_iload_n o (zdd k_W_read 26 rfl) rfl 2 rfl ?_
        obtain ⟨σ7, e_σ7, h⟩ := zbd h
        refine zc_V o (zdd k_W_read 27 rfl) ml_W_192 mv_A_add ⟨rfl, by decide⟩ (zg_some e_σ7).1 (by decide) [.int 3, .int p0, .int 0, .int p1] [] rfl (Nat.le_of_ble_eq_true rfl) rfl (m_A_add e_σ7) ?_
        change zPJ X 0 0 _ _ [] _
        refine zj_aload_n o (zdd k_W_read 28 rfl) rfl 0 rfl ?_
        obtain ⟨a8, e_a8, h⟩ := zbd h
        refine zj_gP o (zdd k_W_read 29 rfl) fl_W_49 rfl e_a8 ?_
        refine zj_aload_n o (zdd k_W_read 30 rfl) rfl 0 rfl ?_
        obtain ⟨a9, e_a9, h⟩ := zbd h
        refine zj_gP o (zdd k_W_read 31 rfl) fl_W_35 rfl e_a9 ?_
        refine zj_iload_n o (zdd k_W_read 32 rfl) rfl 1 rfl ?_
        obtain ⟨σ10, e_σ10, h⟩ := zbd h
        refine zc_V o (zdd k_W_read 33 rfl) ml_W_208 mv_A_keepWants ⟨rfl, by decide⟩ (zg_some e_σ10).1 (by decide) [.ref a9, .int p0] [] rfl (Nat.le_of_ble_eq_true rfl) rfl (m_A_keepWants e_σ10) ?_
        change zPJ X 0 0 _ _ [] _
        refine zj_aload_n o (zdd k_W_read 34 rfl) rfl 0 rfl ?_
        obtain ⟨a11, e_a11, h⟩ := zbd h
        refine zj_gP o (zdd k_W_read 35 rfl) fl_W_35 rfl e_a11 ?_
        refine zj_aload_n o (zdd k_W_read 36 rfl) rfl 0 rfl ?_
        obtain ⟨a12, e_a12, h⟩ := zbd h
        refine zj_gP o (zdd k_W_read 37 rfl) fl_W_16 rfl e_a12 ?_
        refine zj_iload_n o (zdd k_W_read 38 rfl) rfl 1 rfl ?_
        refine zj_iload_n o (zdd k_W_read 39 rfl) rfl 2 rfl ?_
        obtain ⟨σ13, e_σ13, h⟩ := zbd h
        refine zc_V o (zdd k_W_read 40 rfl) ml_W_212 mv_N_bendBy ⟨rfl, by decide⟩ (zg_some e_σ13).1 (by decide) [.ref a12, .int p0, .int p1] [] rfl (Nat.le_of_ble_eq_true rfl) rfl (m_N_bendBy e_σ13) ?_
        change zPJ X 0 0 _ _ [] _
        refine zj_aload_n o (zdd k_W_read 41 rfl) rfl 0 rfl ?_
        obtain ⟨a14, e_a14, h⟩ := zbd h
        refine zj_gP o (zdd k_W_read 42 rfl) fl_W_35 rfl e_a14 ?_
        obtain ⟨a15, e_a15, h⟩ := zbd h
        refine zj_gP o (zdd k_W_read 43 rfl) fl_W_205 rfl e_a15 ?_
        refine zj_iload_n o (zdd k_W_read 44 rfl) rfl 1 rfl ?_
        refine zj_bipush o (zdd k_W_read 45 rfl) zkb_10 ?_
        refine zj_imul o (zdd k_W_read 46 rfl) ?_
        refine zj_iload_n o (zdd k_W_read 47 rfl) rfl 2 rfl ?_
        refine zj_iadd o (zdd k_W_read 48 rfl) ?_
        obtain ⟨x16, e_x16, h⟩ := zbd h
        refine zj_iald o (zdd k_W_read 49 rfl) e_x16 ?_
        cases h
        exact zr_i o hr (zdd k_W_read 50 rfl)
      · rw [if_neg hc] at h
        refine zj_iconst o (zdd k_W_read 19 rfl) zki_m1 ?_
        cases h
        exact zr_i o hr (zdd k_W_read 20 rfl)
def f_W_undo (σ : zSt) (t : Nat) : Option (Int32 × zSt) :=
zg σ 11 t (
((zgP σ 11 t 8).bind fun a1 =>
(zgP σ 11 t 5).bind fun a2 =>
(f_A_takeBack σ a1 a2).bind fun q3 =>
some (q3.1, q3.2)).bind fun q => (zbool q.1).bind fun x => some (x, q.2))
set_option maxRecDepth 100000 in
set_option maxHeartbeats 4000000 in
theorem m_W_undo {l : Launch} {b : Nat} {ex : Nat → Value} {D : va_G} {ca : Nat → ClassId} {σ : zSt} {t : Nat} {z : Int32 × zSt} (h : f_W_undo σ t = some z) : zMT l b ex D ca 4 y_W_undo c_W_undo n_W_undo r_ret_W_undo [.ref t] σ (some (.int z.1)) z.2 0 0 := by
  obtain ⟨_, hg0⟩ := zg_some h
  obtain ⟨z0, hbd, hz⟩ := zbd hg0
  obtain ⟨z1, hz1, hzz⟩ := zbd hz
  obtain ⟨hzb, rfl⟩ := zbool_some hz1
  cases hzz
  have h := hbd
  refine zmt_of (by decide) (Nat.le_of_ble_eq_true rfl) ⟨.boolean, rfl, zb_nar hzb⟩ (fun X o hin hrm _ _ _ _ _ hr => ?_)
  have hr := hr 0 0 (by decide) (by decide)
  have o : zOK X "WantShelves" c_W_undo n_W_undo 4 := o
  change zPJ X 0 0 0 [(0, .ref t)] [] σ
  refine zj_aload_n o (zdd k_W_undo 0 rfl) rfl 0 rfl ?_
  obtain ⟨a1, e_a1, h⟩ := zbd h
  refine zj_gP o (zdd k_W_undo 1 rfl) fl_W_49 rfl e_a1 ?_
  refine zj_aload_n o (zdd k_W_undo 2 rfl) rfl 0 rfl ?_
  obtain ⟨a2, e_a2, h⟩ := zbd h
  refine zj_gP o (zdd k_W_undo 3 rfl) fl_W_35 rfl e_a2 ?_
  obtain ⟨q3, e_q3, h⟩ := zbd h
  refine zc_V o (zdd k_W_undo 4 rfl) ml_W_216 mv_A_takeBack ⟨rfl, by decide⟩ (zg_some e_q3).1 (by decide) [.ref a2] [] rfl (Nat.le_of_ble_eq_true rfl) rfl (m_A_takeBack e_q3) ?_
  change zPJ X 0 0 _ _ [.int q3.1] _
  cases h
  exact zr_i o hr (zdd k_W_undo 5 rfl)
def f_W_redo (σ : zSt) (t : Nat) : Option (Int32 × zSt) :=
zg σ 11 t (
((zgP σ 11 t 8).bind fun a1 =>
(zgP σ 11 t 5).bind fun a2 =>
(zgP σ 11 t 2).bind fun a3 =>
(f_A_doAgain σ a1 a2 a3).bind fun q4 =>
some (q4.1, q4.2)).bind fun q => (zbool q.1).bind fun x => some (x, q.2))
set_option maxRecDepth 100000 in
set_option maxHeartbeats 4000000 in
theorem m_W_redo {l : Launch} {b : Nat} {ex : Nat → Value} {D : va_G} {ca : Nat → ClassId} {σ : zSt} {t : Nat} {z : Int32 × zSt} (h : f_W_redo σ t = some z) : zMT l b ex D ca 6 y_W_redo c_W_redo n_W_redo r_ret_W_redo [.ref t] σ (some (.int z.1)) z.2 0 0 := by
  obtain ⟨_, hg0⟩ := zg_some h
  obtain ⟨z0, hbd, hz⟩ := zbd hg0
  obtain ⟨z1, hz1, hzz⟩ := zbd hz
  obtain ⟨hzb, rfl⟩ := zbool_some hz1
  cases hzz
  have h := hbd
  refine zmt_of (by decide) (Nat.le_of_ble_eq_true rfl) ⟨.boolean, rfl, zb_nar hzb⟩ (fun X o hin hrm _ _ _ _ _ hr => ?_)
  have hr := hr 0 0 (by decide) (by decide)
  have o : zOK X "WantShelves" c_W_redo n_W_redo 6 := o
  change zPJ X 0 0 0 [(0, .ref t)] [] σ
  refine zj_aload_n o (zdd k_W_redo 0 rfl) rfl 0 rfl ?_
  obtain ⟨a1, e_a1, h⟩ := zbd h
  refine zj_gP o (zdd k_W_redo 1 rfl) fl_W_49 rfl e_a1 ?_
  refine zj_aload_n o (zdd k_W_redo 2 rfl) rfl 0 rfl ?_
  obtain ⟨a2, e_a2, h⟩ := zbd h
  refine zj_gP o (zdd k_W_redo 3 rfl) fl_W_35 rfl e_a2 ?_
  refine zj_aload_n o (zdd k_W_redo 4 rfl) rfl 0 rfl ?_
  obtain ⟨a3, e_a3, h⟩ := zbd h
  refine zj_gP o (zdd k_W_redo 5 rfl) fl_W_16 rfl e_a3 ?_
  obtain ⟨q4, e_q4, h⟩ := zbd h
  refine zc_V o (zdd k_W_redo 6 rfl) ml_W_220 mv_A_doAgain ⟨rfl, by decide⟩ (zg_some e_q4).1 (by decide) [.ref a2, .ref a3] [] rfl (Nat.le_of_ble_eq_true rfl) rfl (m_A_doAgain e_q4) ?_
  change zPJ X 0 0 _ _ [.int q4.1] _
  cases h
  exact zr_i o hr (zdd k_W_redo 7 rfl)
def f_W_layDown (σ : zSt) (t : Nat) (p0 : Int32) : Option (zSt) :=
zg σ 11 t (
(zgI σ 11 t 18).bind fun x1 =>
if 10 ≤ x1 then (
some σ) else
(zgP σ 11 t 17).bind fun a2 =>
(zgI σ 11 t 18).bind fun x3 =>
(zwI σ 1 a2 x3 p0).bind fun σ4 =>
(zgI σ4 11 t 18).bind fun x5 =>
(zsI σ4 11 t 18 (x5 + 1)).bind fun σ6 =>
some σ6)
set_option maxRecDepth 100000 in
set_option maxHeartbeats 4000000 in
theorem m_W_layDown {l : Launch} {b : Nat} {ex : Nat → Value} {D : va_G} {ca : Nat → ClassId} {σ : zSt} {t : Nat} {p0 : Int32} {z : zSt} (h : f_W_layDown σ t p0 = some z) : zMT l b ex D ca 1 y_W_layDown c_W_layDown n_W_layDown r_ret_W_layDown [.ref t, .int p0] σ none z 0 0 := by
  obtain ⟨_, hg0⟩ := zg_some h
  have h := hg0
  refine zmt_of (by decide) (Nat.le_of_ble_eq_true rfl) rfl (fun X o hin hrm _ _ _ _ _ hr => ?_)
  have hr := hr 0 0 (by decide) (by decide)
  have o : zOK X "WantShelves" c_W_layDown n_W_layDown 1 := o
  change zPJ X 0 0 0 [(0, .ref t), (1, .int p0)] [] σ
  refine zj_aload_n o (zdd k_W_layDown 0 rfl) rfl 0 rfl ?_
  obtain ⟨x1, e_x1, h⟩ := zbd h
  refine zj_gI o (zdd k_W_layDown 1 rfl) fl_W_124 rfl e_x1 ?_
  refine zj_bipush o (zdd k_W_layDown 2 rfl) zkb_10 ?_
  refine zj_icmp_ge (tgt := 29) o (zdd k_W_layDown 3 rfl) (by decide) (fun hc => ?_) (fun hc => ?_)
  · rw [if_pos hc] at h
    cases h
    exact zr_v o hr (zdd k_W_layDown 16 rfl)
  · rw [if_neg hc] at h
    refine zj_aload_n o (zdd k_W_layDown 4 rfl) rfl 0 rfl ?_
    obtain ⟨a2, e_a2, h⟩ := zbd h
    refine zj_gP o (zdd k_W_layDown 5 rfl) fl_W_95 rfl e_a2 ?_
    refine zj_aload_n o (zdd k_W_layDown 6 rfl) rfl 0 rfl ?_
    obtain ⟨x3, e_x3, h⟩ := zbd h
    refine zj_gI o (zdd k_W_layDown 7 rfl) fl_W_124 rfl e_x3 ?_
    refine zj_iload_n o (zdd k_W_layDown 8 rfl) rfl 1 rfl ?_
    obtain ⟨σ4, e_σ4, h⟩ := zbd h
    refine zj_iast o (zdd k_W_layDown 9 rfl) e_σ4 ?_
    refine zj_aload_n o (zdd k_W_layDown 10 rfl) rfl 0 rfl ?_
    refine zj_dup o (zdd k_W_layDown 11 rfl) rfl ?_
    obtain ⟨x5, e_x5, h⟩ := zbd h
    refine zj_gI o (zdd k_W_layDown 12 rfl) fl_W_124 rfl e_x5 ?_
    refine zj_iconst o (zdd k_W_layDown 13 rfl) zki_1 ?_
    refine zj_iadd o (zdd k_W_layDown 14 rfl) ?_
    obtain ⟨σ6, e_σ6, h⟩ := zbd h
    refine zj_pI o (zdd k_W_layDown 15 rfl) fl_W_124 rfl rfl e_σ6 ?_
    cases h
    exact zr_v o hr (zdd k_W_layDown 16 rfl)
def f_W_unlike_61 (k43 : zSt → Nat → Int32 → Int32 → Int32 → Int32 → Option (Int32 × zSt)) (k61 : zSt → Nat → Int32 → Int32 → Int32 → Int32 → Int32 → Option (Int32 × zSt)) (σ : zSt) (v0 : Nat) (v1 : Int32) (v2 : Int32) (v3 : Int32) (v4 : Int32) (v5 : Int32) : Option (Int32 × zSt) :=
(zgP σ 11 v0 2).bind fun a1 =>
(zgI σ 10 a1 1).bind fun x2 =>
if x2 ≤ v5 then (
k43 σ v0 v1 v2 v3 (v4 + 1)) else
(f_W_isHere σ v0 v4).bind fun x3 =>
if x3 = 0 then (
k61 σ v0 v1 v2 v3 v4 (v5 + 1)) else
(f_W_isHere σ v0 v5).bind fun x4 =>
if x4 = 0 then (
k61 σ v0 v1 v2 v3 v4 (v5 + 1)) else
(zgP σ 11 v0 9).bind fun a5 =>
(f_S_isAhead σ a5 v1 v4 v5).bind fun x6 =>
(zgP σ 11 v0 9).bind fun a7 =>
(f_S_isAhead σ a7 v2 v4 v5).bind fun x8 =>
if x6 = x8 then (
k61 σ v0 v1 v2 v3 v4 (v5 + 1)) else
if v3 = 0 then (
(f_W_layDown σ v0 v4).bind fun σ9 =>
(f_W_layDown σ9 v0 v5).bind fun σ10 =>
k61 σ10 v0 v1 v2 (v3 + 1) v4 (v5 + 1)) else
k61 σ v0 v1 v2 (v3 + 1) v4 (v5 + 1)
set_option maxRecDepth 100000 in
set_option maxHeartbeats 4000000 in
theorem r_W_unlike_61 {X : zCX} (o : zOK X "WantShelves" c_W_unlike n_W_unlike 7) {k43 : zSt → Nat → Int32 → Int32 → Int32 → Int32 → Option (Int32 × zSt)} {k61 : zSt → Nat → Int32 → Int32 → Int32 → Int32 → Int32 → Option (Int32 × zSt)} (hk43 : ∀ {σ : zSt} {v0 : Nat} {v1 : Int32} {v2 : Int32} {v3 : Int32} {v4 : Int32} {z : Int32 × zSt}, k43 σ v0 v1 v2 v3 v4 = some z → zRX X 0 0 (some (.int z.1)) z.2 → zPJ X 0 0 43 [(0, .ref v0), (1, .int v1), (2, .int v2), (3, .int v3), (4, .int v4)] [] σ) (hk61 : ∀ {σ : zSt} {v0 : Nat} {v1 : Int32} {v2 : Int32} {v3 : Int32} {v4 : Int32} {v5 : Int32} {z : Int32 × zSt}, k61 σ v0 v1 v2 v3 v4 v5 = some z → zRX X 0 0 (some (.int z.1)) z.2 → zPJ X 0 0 61 [(0, .ref v0), (1, .int v1), (2, .int v2), (3, .int v3), (4, .int v4), (5, .int v5)] [] σ) {σ : zSt} {v0 : Nat} {v1 : Int32} {v2 : Int32} {v3 : Int32} {v4 : Int32} {v5 : Int32} {z : Int32 × zSt} (h : f_W_unlike_61 k43 k61 σ v0 v1 v2 v3 v4 v5 = some z) (hr : zRX X 0 0 (some (.int z.1)) z.2) : zPJ X 0 0 61 [(0, .ref v0), (1, .int v1), (2, .int v2), (3, .int v3), (4, .int v4), (5, .int v5)] [] σ := by
  unfold f_W_unlike_61 at h
  refine zj_iload o (zdd k_W_unlike 33 rfl) 5 rfl ?_
  refine zj_aload_n o (zdd k_W_unlike 34 rfl) rfl 0 rfl ?_
  obtain ⟨a1, e_a1, h⟩ := zbd h
  refine zj_gP o (zdd k_W_unlike 35 rfl) fl_W_16 rfl e_a1 ?_
  obtain ⟨x2, e_x2, h⟩ := zbd h
  refine zj_gI o (zdd k_W_unlike 36 rfl) fl_W_127 rfl e_x2 ?_
  refine zj_icmp_ge (tgt := 143) o (zdd k_W_unlike 37 rfl) (by decide) (fun hc => ?_) (fun hc => ?_)
  · rw [if_pos hc] at h
    refine zj_iinc (v := v4 + 1) (loc' := [(4, .int (v4 + 1)), (0, .ref v0), (1, .int v1), (2, .int v2), (3, .int v3), (5, .int v5)]) o (zdd k_W_unlike 70 rfl) 4 rfl (by rw [zki_1]) (by decide) rfl ?_
    refine zj_goto (tgt := 43) o (zdd k_W_unlike 71 rfl) (by decide) ?_
    exact zj_sub [1, 2, 3, 4, 0] rfl (hk43 h hr)
  · rw [if_neg hc] at h
    refine zj_aload_n o (zdd k_W_unlike 38 rfl) rfl 0 rfl ?_
    refine zj_iload o (zdd k_W_unlike 39 rfl) 4 rfl ?_
    obtain ⟨x3, e_x3, h⟩ := zbd h
    refine zc_V o (zdd k_W_unlike 40 rfl) ml_W_177 mv_W_isHere ⟨rfl, by decide⟩ (zg_some e_x3).1 (by decide) [.int v4] [] rfl (Nat.le_of_ble_eq_true rfl) rfl (m_W_isHere e_x3) ?_
    change zPJ X 0 0 _ _ [.int x3] _
    refine zj_if_eq (tgt := 137) o (zdd k_W_unlike 41 rfl) (by decide) (fun hc => ?_) (fun hc => ?_)
    · rw [if_pos hc] at h
      refine zj_iinc (v := v5 + 1) (loc' := [(5, .int (v5 + 1)), (0, .ref v0), (1, .int v1), (2, .int v2), (3, .int v3), (4, .int v4)]) o (zdd k_W_unlike 68 rfl) 5 rfl (by rw [zki_1]) (by decide) rfl ?_
      refine zj_goto (tgt := 61) o (zdd k_W_unlike 69 rfl) (by decide) ?_
      exact zj_sub [1, 2, 3, 4, 5, 0] rfl (hk61 h hr)
    · rw [if_neg hc] at h
      refine zj_aload_n o (zdd k_W_unlike 42 rfl) rfl 0 rfl ?_
      refine zj_iload o (zdd k_W_unlike 43 rfl) 5 rfl ?_
      obtain ⟨x4, e_x4, h⟩ := zbd h
      refine zc_V o (zdd k_W_unlike 44 rfl) ml_W_177 mv_W_isHere ⟨rfl, by decide⟩ (zg_some e_x4).1 (by decide) [.int v5] [] rfl (Nat.le_of_ble_eq_true rfl) rfl (m_W_isHere e_x4) ?_
      change zPJ X 0 0 _ _ [.int x4] _
      refine zj_if_eq (tgt := 137) o (zdd k_W_unlike 45 rfl) (by decide) (fun hc => ?_) (fun hc => ?_)
      · rw [if_pos hc] at h
        refine zj_iinc (v := v5 + 1) (loc' := [(5, .int (v5 + 1)), (0, .ref v0), (1, .int v1), (2, .int v2), (3, .int v3), (4, .int v4)]) o (zdd k_W_unlike 68 rfl) 5 rfl (by rw [zki_1]) (by decide) rfl ?_
        refine zj_goto (tgt := 61) o (zdd k_W_unlike 69 rfl) (by decide) ?_
        exact zj_sub [1, 2, 3, 4, 5, 0] rfl (hk61 h hr)
      · rw [if_neg hc] at h
        refine zj_aload_n o (zdd k_W_unlike 46 rfl) rfl 0 rfl ?_
        obtain ⟨a5, e_a5, h⟩ := zbd h
        refine zj_gP o (zdd k_W_unlike 47 rfl) fl_W_56 rfl e_a5 ?_
        refine zj_iload_n o (zdd k_W_unlike 48 rfl) rfl 1 rfl ?_
        refine zj_iload o (zdd k_W_unlike 49 rfl) 4 rfl ?_
        refine zj_iload o (zdd k_W_unlike 50 rfl) 5 rfl ?_
        obtain ⟨x6, e_x6, h⟩ := zbd h
        refine zc_V o (zdd k_W_unlike 51 rfl) ml_W_224 mv_S_isAhead ⟨rfl, by decide⟩ (zg_some e_x6).1 (by decide) [.int v1, .int v4, .int v5] [] rfl (Nat.le_of_ble_eq_true rfl) rfl (m_S_isAhead e_x6) ?_
        change zPJ X 0 0 _ _ [.int x6] _
        refine zj_aload_n o (zdd k_W_unlike 52 rfl) rfl 0 rfl ?_
        obtain ⟨a7, e_a7, h⟩ := zbd h
        refine zj_gP o (zdd k_W_unlike 53 rfl) fl_W_56 rfl e_a7 ?_
        refine zj_iload_n o (zdd k_W_unlike 54 rfl) rfl 2 rfl ?_
        refine zj_iload o (zdd k_W_unlike 55 rfl) 4 rfl ?_
        refine zj_iload o (zdd k_W_unlike 56 rfl) 5 rfl ?_
        obtain ⟨x8, e_x8, h⟩ := zbd h
        refine zc_V o (zdd k_W_unlike 57 rfl) ml_W_224 mv_S_isAhead ⟨rfl, by decide⟩ (zg_some e_x8).1 (by decide) [.int v2, .int v4, .int v5] [.int x6] rfl (Nat.le_of_ble_eq_true rfl) rfl (m_S_isAhead e_x8) ?_
        change zPJ X 0 0 _ _ [.int x8, .int x6] _
        refine zj_icmp_eq (tgt := 137) o (zdd k_W_unlike 58 rfl) (by decide) (fun hc => ?_) (fun hc => ?_)
        · rw [if_pos hc] at h
          refine zj_iinc (v := v5 + 1) (loc' := [(5, .int (v5 + 1)), (0, .ref v0), (1, .int v1), (2, .int v2), (3, .int v3), (4, .int v4)]) o (zdd k_W_unlike 68 rfl) 5 rfl (by rw [zki_1]) (by decide) rfl ?_
          refine zj_goto (tgt := 61) o (zdd k_W_unlike 69 rfl) (by decide) ?_
          exact zj_sub [1, 2, 3, 4, 5, 0] rfl (hk61 h hr)
        · rw [if_neg hc] at h
          refine zj_iload_n o (zdd k_W_unlike 59 rfl) rfl 3 rfl ?_
          refine zj_if_ne (tgt := 134) o (zdd k_W_unlike 60 rfl) (by decide) (fun hc => ?_) (fun hc => ?_)
          · rw [if_neg hc] at h
            refine zj_iinc (v := v3 + 1) (loc' := [(3, .int (v3 + 1)), (0, .ref v0), (1, .int v1), (2, .int v2), (4, .int v4), (5, .int v5)]) o (zdd k_W_unlike 67 rfl) 3 rfl (by rw [zki_1]) (by decide) rfl ?_
            refine zj_iinc (v := v5 + 1) (loc' := [(5, .int (v5 + 1)), (3, .int (v3 + 1)), (0, .ref v0), (1, .int v1), (2, .int v2), (4, .int v4)]) o (zdd k_W_unlike 68 rfl) 5 rfl (by rw [zki_1]) (by decide) rfl ?_
            refine zj_goto (tgt := 61) o (zdd k_W_unlike 69 rfl) (by decide) ?_
            exact zj_sub [2, 3, 4, 1, 5, 0] rfl (hk61 h hr)
          · rw [if_pos hc] at h
            refine zj_aload_n o (zdd k_W_unlike 61 rfl) rfl 0 rfl ?_
            refine zj_iload o (zdd k_W_unlike 62 rfl) 4 rfl ?_
            obtain ⟨σ9, e_σ9, h⟩ := zbd h
            refine zc_V o (zdd k_W_unlike 63 rfl) ml_W_228 mv_W_layDown ⟨rfl, by decide⟩ (zg_some e_σ9).1 (by decide) [.int v4] [] rfl (Nat.le_of_ble_eq_true rfl) rfl (m_W_layDown e_σ9) ?_
            change zPJ X 0 0 _ _ [] _
            refine zj_aload_n o (zdd k_W_unlike 64 rfl) rfl 0 rfl ?_
            refine zj_iload o (zdd k_W_unlike 65 rfl) 5 rfl ?_
            obtain ⟨σ10, e_σ10, h⟩ := zbd h
            refine zc_V o (zdd k_W_unlike 66 rfl) ml_W_228 mv_W_layDown ⟨rfl, by decide⟩ (zg_some e_σ10).1 (by decide) [.int v5] [] rfl (Nat.le_of_ble_eq_true rfl) rfl (m_W_layDown e_σ10) ?_
            change zPJ X 0 0 _ _ [] _
            refine zj_iinc (v := v3 + 1) (loc' := [(3, .int (v3 + 1)), (0, .ref v0), (1, .int v1), (2, .int v2), (4, .int v4), (5, .int v5)]) o (zdd k_W_unlike 67 rfl) 3 rfl (by rw [zki_1]) (by decide) rfl ?_
            refine zj_iinc (v := v5 + 1) (loc' := [(5, .int (v5 + 1)), (3, .int (v3 + 1)), (0, .ref v0), (1, .int v1), (2, .int v2), (4, .int v4)]) o (zdd k_W_unlike 68 rfl) 5 rfl (by rw [zki_1]) (by decide) rfl ?_
            refine zj_goto (tgt := 61) o (zdd k_W_unlike 69 rfl) (by decide) ?_
            exact zj_sub [2, 3, 4, 1, 5, 0] rfl (hk61 h hr)
def f_W_unlike_61L (k43 : zSt → Nat → Int32 → Int32 → Int32 → Int32 → Option (Int32 × zSt)) : Nat → zSt → Nat → Int32 → Int32 → Int32 → Int32 → Int32 → Option (Int32 × zSt)
  | 0 => fun _ _ _ _ _ _ _ => none
  | n + 1 => f_W_unlike_61  k43 (f_W_unlike_61L k43 n)
theorem r_W_unlike_61L {X : zCX} (o : zOK X "WantShelves" c_W_unlike n_W_unlike 7) {k43 : zSt → Nat → Int32 → Int32 → Int32 → Int32 → Option (Int32 × zSt)} (hk43 : ∀ {σ : zSt} {v0 : Nat} {v1 : Int32} {v2 : Int32} {v3 : Int32} {v4 : Int32} {z : Int32 × zSt}, k43 σ v0 v1 v2 v3 v4 = some z → zRX X 0 0 (some (.int z.1)) z.2 → zPJ X 0 0 43 [(0, .ref v0), (1, .int v1), (2, .int v2), (3, .int v3), (4, .int v4)] [] σ) : ∀ (n : Nat) {σ : zSt} {v0 : Nat} {v1 : Int32} {v2 : Int32} {v3 : Int32} {v4 : Int32} {v5 : Int32} {z : Int32 × zSt}, f_W_unlike_61L k43 n σ v0 v1 v2 v3 v4 v5 = some z → zRX X 0 0 (some (.int z.1)) z.2 → zPJ X 0 0 61 [(0, .ref v0), (1, .int v1), (2, .int v2), (3, .int v3), (4, .int v4), (5, .int v5)] [] σ
  | 0 => fun h _ => by cases h
  | n + 1 => fun h hr => r_W_unlike_61 o hk43 (r_W_unlike_61L o hk43 n) h hr
def f_W_unlike_43 (k43 : zSt → Nat → Int32 → Int32 → Int32 → Int32 → Option (Int32 × zSt)) (σ : zSt) (v0 : Nat) (v1 : Int32) (v2 : Int32) (v3 : Int32) (v4 : Int32) : Option (Int32 × zSt) :=
(zgP σ 11 v0 2).bind fun a1 =>
(zgI σ 10 a1 1).bind fun x2 =>
if x2 ≤ v4 then (
some (v3, σ)) else
f_W_unlike_61L k43 zfu σ v0 v1 v2 v3 v4 (v4 + 1)
set_option maxRecDepth 100000 in
set_option maxHeartbeats 4000000 in
theorem r_W_unlike_43 {X : zCX} (o : zOK X "WantShelves" c_W_unlike n_W_unlike 7) {k43 : zSt → Nat → Int32 → Int32 → Int32 → Int32 → Option (Int32 × zSt)} (hk43 : ∀ {σ : zSt} {v0 : Nat} {v1 : Int32} {v2 : Int32} {v3 : Int32} {v4 : Int32} {z : Int32 × zSt}, k43 σ v0 v1 v2 v3 v4 = some z → zRX X 0 0 (some (.int z.1)) z.2 → zPJ X 0 0 43 [(0, .ref v0), (1, .int v1), (2, .int v2), (3, .int v3), (4, .int v4)] [] σ) {σ : zSt} {v0 : Nat} {v1 : Int32} {v2 : Int32} {v3 : Int32} {v4 : Int32} {z : Int32 × zSt} (h : f_W_unlike_43 k43 σ v0 v1 v2 v3 v4 = some z) (hr : zRX X 0 0 (some (.int z.1)) z.2) : zPJ X 0 0 43 [(0, .ref v0), (1, .int v1), (2, .int v2), (3, .int v3), (4, .int v4)] [] σ := by
  unfold f_W_unlike_43 at h
  refine zj_iload o (zdd k_W_unlike 24 rfl) 4 rfl ?_
  refine zj_aload_n o (zdd k_W_unlike 25 rfl) rfl 0 rfl ?_
  obtain ⟨a1, e_a1, h⟩ := zbd h
  refine zj_gP o (zdd k_W_unlike 26 rfl) fl_W_16 rfl e_a1 ?_
  obtain ⟨x2, e_x2, h⟩ := zbd h
  refine zj_gI o (zdd k_W_unlike 27 rfl) fl_W_127 rfl e_x2 ?_
  refine zj_icmp_ge (tgt := 149) o (zdd k_W_unlike 28 rfl) (by decide) (fun hc => ?_) (fun hc => ?_)
  · rw [if_pos hc] at h
    refine zj_iload_n o (zdd k_W_unlike 72 rfl) rfl 3 rfl ?_
    cases h
    exact zr_i o hr (zdd k_W_unlike 73 rfl)
  · rw [if_neg hc] at h
    refine zj_iload o (zdd k_W_unlike 29 rfl) 4 rfl ?_
    refine zj_iconst o (zdd k_W_unlike 30 rfl) zki_1 ?_
    refine zj_iadd o (zdd k_W_unlike 31 rfl) ?_
    refine zj_istore (loc' := [(5, .int (v4 + 1)), (0, .ref v0), (1, .int v1), (2, .int v2), (3, .int v3), (4, .int v4)]) o (zdd k_W_unlike 32 rfl) (by decide) rfl ?_
    exact zj_sub [1, 2, 3, 4, 5, 0] rfl (r_W_unlike_61L o hk43 zfu h hr)
def f_W_unlike_43L : Nat → zSt → Nat → Int32 → Int32 → Int32 → Int32 → Option (Int32 × zSt)
  | 0 => fun _ _ _ _ _ _ => none
  | n + 1 => f_W_unlike_43  (f_W_unlike_43L  n)
theorem r_W_unlike_43L {X : zCX} (o : zOK X "WantShelves" c_W_unlike n_W_unlike 7) : ∀ (n : Nat) {σ : zSt} {v0 : Nat} {v1 : Int32} {v2 : Int32} {v3 : Int32} {v4 : Int32} {z : Int32 × zSt}, f_W_unlike_43L n σ v0 v1 v2 v3 v4 = some z → zRX X 0 0 (some (.int z.1)) z.2 → zPJ X 0 0 43 [(0, .ref v0), (1, .int v1), (2, .int v2), (3, .int v3), (4, .int v4)] [] σ
  | 0 => fun h _ => by cases h
  | n + 1 => fun h hr => r_W_unlike_43 o (r_W_unlike_43L o  n) h hr
def f_W_unlike (σ : zSt) (t : Nat) (p0 : Int32) (p1 : Int32) : Option (Int32 × zSt) :=
zg σ 11 t (
(zsI σ 11 t 18 0).bind fun σ1 =>
(f_W_isReader σ1 t p0).bind fun x2 =>
if x2 = 0 then (
some ((-1), σ1)) else
(f_W_isReader σ1 t p1).bind fun x3 =>
if x3 = 0 then (
some ((-1), σ1)) else
(zgP σ1 11 t 9).bind fun a4 =>
(zgP σ1 11 t 2).bind fun a5 =>
(zgP σ1 11 t 5).bind fun a6 =>
(f_S_open σ1 a4 a5 a6).bind fun σ7 =>
f_W_unlike_43L zfu σ7 t p0 p1 0 0)
set_option maxRecDepth 100000 in
set_option maxHeartbeats 4000000 in
theorem m_W_unlike {l : Launch} {b : Nat} {ex : Nat → Value} {D : va_G} {ca : Nat → ClassId} {σ : zSt} {t : Nat} {p0 : Int32} {p1 : Int32} {z : Int32 × zSt} (h : f_W_unlike σ t p0 p1 = some z) : zMT l b ex D ca 7 y_W_unlike c_W_unlike n_W_unlike r_ret_W_unlike [.ref t, .int p0, .int p1] σ (some (.int z.1)) z.2 0 0 := by
  obtain ⟨_, hg0⟩ := zg_some h
  have h := hg0
  refine zmt_of (by decide) (Nat.le_of_ble_eq_true rfl) ⟨.int, rfl, rfl⟩ (fun X o hin hrm _ _ _ _ _ hr => ?_)
  have hr := hr 0 0 (by decide) (by decide)
  have o : zOK X "WantShelves" c_W_unlike n_W_unlike 7 := o
  change zPJ X 0 0 0 [(0, .ref t), (1, .int p0), (2, .int p1)] [] σ
  refine zj_aload_n o (zdd k_W_unlike 0 rfl) rfl 0 rfl ?_
  refine zj_iconst o (zdd k_W_unlike 1 rfl) zki_0 ?_
  obtain ⟨σ1, e_σ1, h⟩ := zbd h
  refine zj_pI o (zdd k_W_unlike 2 rfl) fl_W_124 rfl rfl e_σ1 ?_
  refine zj_aload_n o (zdd k_W_unlike 3 rfl) rfl 0 rfl ?_
  refine zj_iload_n o (zdd k_W_unlike 4 rfl) rfl 1 rfl ?_
  obtain ⟨x2, e_x2, h⟩ := zbd h
  refine zc_V o (zdd k_W_unlike 5 rfl) ml_W_146 mv_W_isReader ⟨rfl, by decide⟩ (zg_some e_x2).1 (by decide) [.int p0] [] rfl (Nat.le_of_ble_eq_true rfl) rfl (m_W_isReader e_x2) ?_
  change zPJ X 0 0 _ _ [.int x2] _
  refine zj_if_eq (tgt := 21) o (zdd k_W_unlike 6 rfl) (by decide) (fun hc => ?_) (fun hc => ?_)
  · rw [if_pos hc] at h
    refine zj_iconst o (zdd k_W_unlike 11 rfl) zki_m1 ?_
    cases h
    exact zr_i o hr (zdd k_W_unlike 12 rfl)
  · rw [if_neg hc] at h
    refine zj_aload_n o (zdd k_W_unlike 7 rfl) rfl 0 rfl ?_
    refine zj_iload_n o (zdd k_W_unlike 8 rfl) rfl 2 rfl ?_
    obtain ⟨x3, e_x3, h⟩ := zbd h
    refine zc_V o (zdd k_W_unlike 9 rfl) ml_W_146 mv_W_isReader ⟨rfl, by decide⟩ (zg_some e_x3).1 (by decide) [.int p1] [] rfl (Nat.le_of_ble_eq_true rfl) rfl (m_W_isReader e_x3) ?_
    change zPJ X 0 0 _ _ [.int x3] _
    refine zj_if_ne (tgt := 23) o (zdd k_W_unlike 10 rfl) (by decide) (fun hc => ?_) (fun hc => ?_)
    · rw [if_neg hc] at h
      refine zj_aload_n o (zdd k_W_unlike 13 rfl) rfl 0 rfl ?_
      obtain ⟨a4, e_a4, h⟩ := zbd h
      refine zj_gP o (zdd k_W_unlike 14 rfl) fl_W_56 rfl e_a4 ?_
      refine zj_aload_n o (zdd k_W_unlike 15 rfl) rfl 0 rfl ?_
      obtain ⟨a5, e_a5, h⟩ := zbd h
      refine zj_gP o (zdd k_W_unlike 16 rfl) fl_W_16 rfl e_a5 ?_
      refine zj_aload_n o (zdd k_W_unlike 17 rfl) rfl 0 rfl ?_
      obtain ⟨a6, e_a6, h⟩ := zbd h
      refine zj_gP o (zdd k_W_unlike 18 rfl) fl_W_35 rfl e_a6 ?_
      obtain ⟨σ7, e_σ7, h⟩ := zbd h
      refine zc_V o (zdd k_W_unlike 19 rfl) ml_W_166 mv_S_open ⟨rfl, by decide⟩ (zg_some e_σ7).1 (by decide) [.ref a5, .ref a6] [] rfl (Nat.le_of_ble_eq_true rfl) rfl (m_S_open e_σ7) ?_
      change zPJ X 0 0 _ _ [] _
      refine zj_iconst o (zdd k_W_unlike 20 rfl) zki_0 ?_
      refine zj_istore_n (loc' := [(3, .int 0), (0, .ref t), (1, .int p0), (2, .int p1)]) o (zdd k_W_unlike 21 rfl) rfl (by decide) rfl ?_
      refine zj_iconst o (zdd k_W_unlike 22 rfl) zki_0 ?_
      refine zj_istore (loc' := [(4, .int 0), (3, .int 0), (0, .ref t), (1, .int p0), (2, .int p1)]) o (zdd k_W_unlike 23 rfl) (by decide) rfl ?_
      exact zj_sub [2, 3, 4, 1, 0] rfl (r_W_unlike_43L o  zfu h hr)
    · rw [if_pos hc] at h
      refine zj_iconst o (zdd k_W_unlike 11 rfl) zki_m1 ?_
      cases h
      exact zr_i o hr (zdd k_W_unlike 12 rfl)
def f_W_send_118 (σ : zSt) (v0 : Nat) (v2 : Int32) (v3 : Int32) (v4 : Int32) : Option (Int32 × zSt) :=
if v2 = 0 then (
(zgP σ 11 v0 2).bind fun a1 =>
(f_D_stepsTo σ a1 v4).bind fun x2 =>
some (x2, σ)) else
some (v3, σ)
set_option maxRecDepth 100000 in
set_option maxHeartbeats 4000000 in
theorem r_W_send_118 {X : zCX} (o : zOK X "WantShelves" c_W_send n_W_send 7) {σ : zSt} {v0 : Nat} {v2 : Int32} {v3 : Int32} {v4 : Int32} {z : Int32 × zSt} (h : f_W_send_118 σ v0 v2 v3 v4 = some z) (hr : zRX X 0 0 (some (.int z.1)) z.2) : zPJ X 0 0 118 [(0, .ref v0), (2, .int v2), (3, .int v3), (4, .int v4)] [] σ := by
  unfold f_W_send_118 at h
  refine zj_iload_n o (zdd k_W_send 58 rfl) rfl 1 rfl ?_
  refine zj_if_ne (tgt := 134) o (zdd k_W_send 59 rfl) (by decide) (fun hc => ?_) (fun hc => ?_)
  · rw [if_neg hc] at h
    refine zj_iload_n o (zdd k_W_send 65 rfl) rfl 2 rfl ?_
    cases h
    exact zr_i o hr (zdd k_W_send 66 rfl)
  · rw [if_pos hc] at h
    refine zj_aload_n o (zdd k_W_send 60 rfl) rfl 0 rfl ?_
    obtain ⟨a1, e_a1, h⟩ := zbd h
    refine zj_gP o (zdd k_W_send 61 rfl) fl_W_16 rfl e_a1 ?_
    refine zj_iload o (zdd k_W_send 62 rfl) 3 rfl ?_
    obtain ⟨x2, e_x2, h⟩ := zbd h
    refine zc_V o (zdd k_W_send 63 rfl) ml_W_189 mv_D_stepsTo ⟨rfl, by decide⟩ (zg_some e_x2).1 (by decide) [.int v4] [] rfl (Nat.le_of_ble_eq_true rfl) rfl (m_D_stepsTo e_x2) ?_
    change zPJ X 0 0 _ _ [.int x2] _
    refine zj_goto (tgt := 135) o (zdd k_W_send 64 rfl) (by decide) ?_
    cases h
    exact zr_i o hr (zdd k_W_send 66 rfl)
def f_W_send_53 (k53 : zSt → Nat → Int32 → Int32 → Int32 → Int32 → Int32 → Option (Int32 × zSt)) (σ : zSt) (v0 : Nat) (v1 : Int32) (v2 : Int32) (v3 : Int32) (v4 : Int32) (v5 : Int32) : Option (Int32 × zSt) :=
(zgP σ 11 v0 2).bind fun a1 =>
(zgI σ 10 a1 2).bind fun x2 =>
if 1 <<< (x2 &&& 31) ≤ v5 then (
f_W_send_118 σ v0 v2 v3 v4) else
(zgP σ 11 v0 9).bind fun a3 =>
(f_S_placeFor σ a3 v5 v1).bind fun q4 =>
if q4.1 < v4 then (
k53 q4.2 v0 v1 v2 v5 q4.1 (v5 + 1)) else
if q4.1 = v4 then (
(f_J_bitCount v5).bind fun x5 =>
(f_J_bitCount v3).bind fun x6 =>
if x6 ≤ x5 then (
k53 q4.2 v0 v1 v2 v3 v4 (v5 + 1)) else
k53 q4.2 v0 v1 v2 v5 q4.1 (v5 + 1)) else
k53 q4.2 v0 v1 v2 v3 v4 (v5 + 1)
set_option maxRecDepth 100000 in
set_option maxHeartbeats 4000000 in
theorem r_W_send_53 {X : zCX} (o : zOK X "WantShelves" c_W_send n_W_send 7) {k53 : zSt → Nat → Int32 → Int32 → Int32 → Int32 → Int32 → Option (Int32 × zSt)} (hk53 : ∀ {σ : zSt} {v0 : Nat} {v1 : Int32} {v2 : Int32} {v3 : Int32} {v4 : Int32} {v5 : Int32} {z : Int32 × zSt}, k53 σ v0 v1 v2 v3 v4 v5 = some z → zRX X 0 0 (some (.int z.1)) z.2 → zPJ X 0 0 53 [(0, .ref v0), (1, .int v1), (2, .int v2), (3, .int v3), (4, .int v4), (5, .int v5)] [] σ) {σ : zSt} {v0 : Nat} {v1 : Int32} {v2 : Int32} {v3 : Int32} {v4 : Int32} {v5 : Int32} {z : Int32 × zSt} (h : f_W_send_53 k53 σ v0 v1 v2 v3 v4 v5 = some z) (hr : zRX X 0 0 (some (.int z.1)) z.2) : zPJ X 0 0 53 [(0, .ref v0), (1, .int v1), (2, .int v2), (3, .int v3), (4, .int v4), (5, .int v5)] [] σ := by
  unfold f_W_send_53 at h
  refine zj_iload o (zdd k_W_send 28 rfl) 5 rfl ?_
  refine zj_iconst o (zdd k_W_send 29 rfl) zki_1 ?_
  refine zj_aload_n o (zdd k_W_send 30 rfl) rfl 0 rfl ?_
  obtain ⟨a1, e_a1, h⟩ := zbd h
  refine zj_gP o (zdd k_W_send 31 rfl) fl_W_16 rfl e_a1 ?_
  obtain ⟨x2, e_x2, h⟩ := zbd h
  refine zj_gI o (zdd k_W_send 32 rfl) fl_W_231 rfl e_x2 ?_
  refine zj_ishl o (zdd k_W_send 33 rfl) ?_
  refine zj_icmp_ge (tgt := 118) o (zdd k_W_send 34 rfl) (by decide) (fun hc => ?_) (fun hc => ?_)
  · rw [if_pos hc] at h
    exact zj_sub [0, 2, 3, 4] rfl (r_W_send_118 o  h hr)
  · rw [if_neg hc] at h
    refine zj_aload_n o (zdd k_W_send 35 rfl) rfl 0 rfl ?_
    obtain ⟨a3, e_a3, h⟩ := zbd h
    refine zj_gP o (zdd k_W_send 36 rfl) fl_W_56 rfl e_a3 ?_
    refine zj_iload o (zdd k_W_send 37 rfl) 5 rfl ?_
    refine zj_iload_n o (zdd k_W_send 38 rfl) rfl 1 rfl ?_
    obtain ⟨q4, e_q4, h⟩ := zbd h
    refine zc_V o (zdd k_W_send 39 rfl) ml_W_180 mv_S_placeFor ⟨rfl, by decide⟩ (zg_some e_q4).1 (by decide) [.int v5, .int v1] [] rfl (Nat.le_of_ble_eq_true rfl) rfl (m_S_placeFor e_q4) ?_
    change zPJ X 0 0 _ _ [.int q4.1] _
    refine zj_istore (loc' := [(6, .int q4.1), (0, .ref v0), (1, .int v1), (2, .int v2), (3, .int v3), (4, .int v4), (5, .int v5)]) o (zdd k_W_send 40 rfl) (by decide) rfl ?_
    refine zj_iload o (zdd k_W_send 41 rfl) 0 rfl ?_
    refine zj_iload o (zdd k_W_send 42 rfl) 5 rfl ?_
    refine zj_icmp_lt (tgt := 105) o (zdd k_W_send 43 rfl) (by decide) (fun hc => ?_) (fun hc => ?_)
    · rw [if_pos hc] at h
      refine zj_iload o (zdd k_W_send 52 rfl) 6 rfl ?_
      refine zj_istore_n (loc' := [(3, .int v5), (6, .int q4.1), (0, .ref v0), (1, .int v1), (2, .int v2), (4, .int v4), (5, .int v5)]) o (zdd k_W_send 53 rfl) rfl (by decide) rfl ?_
      refine zj_iload o (zdd k_W_send 54 rfl) 1 rfl ?_
      refine zj_istore (loc' := [(4, .int q4.1), (3, .int v5), (6, .int q4.1), (0, .ref v0), (1, .int v1), (2, .int v2), (5, .int v5)]) o (zdd k_W_send 55 rfl) (by decide) rfl ?_
      refine zj_iinc (v := v5 + 1) (loc' := [(5, .int (v5 + 1)), (4, .int q4.1), (3, .int v5), (6, .int q4.1), (0, .ref v0), (1, .int v1), (2, .int v2)]) o (zdd k_W_send 56 rfl) 6 rfl (by rw [zki_1]) (by decide) rfl ?_
      refine zj_goto (tgt := 53) o (zdd k_W_send 57 rfl) (by decide) ?_
      exact zj_sub [4, 5, 6, 2, 1, 0] rfl (hk53 h hr)
    · rw [if_neg hc] at h
      refine zj_iload o (zdd k_W_send 44 rfl) 0 rfl ?_
      refine zj_iload o (zdd k_W_send 45 rfl) 5 rfl ?_
      refine zj_icmp_ne (tgt := 112) o (zdd k_W_send 46 rfl) (by decide) (fun hc => ?_) (fun hc => ?_)
      · rw [if_neg hc] at h
        refine zj_iinc (v := v5 + 1) (loc' := [(5, .int (v5 + 1)), (6, .int q4.1), (0, .ref v0), (1, .int v1), (2, .int v2), (3, .int v3), (4, .int v4)]) o (zdd k_W_send 56 rfl) 6 rfl (by rw [zki_1]) (by decide) rfl ?_
        refine zj_goto (tgt := 53) o (zdd k_W_send 57 rfl) (by decide) ?_
        exact zj_sub [2, 3, 4, 5, 6, 0] rfl (hk53 h hr)
      · rw [if_pos hc] at h
        refine zj_iload o (zdd k_W_send 47 rfl) 6 rfl ?_
        obtain ⟨x5, e_x5, h⟩ := zbd h
        refine zc_S o (zdd k_W_send 48 rfl) ml_W_234 ms_J_bitCount (by decide) [.int v5] [] rfl (Nat.le_of_ble_eq_true rfl) rfl (m_J_bitCount e_x5) ?_
        change zPJ X 0 0 _ _ [.int x5] _
        refine zj_iload_n o (zdd k_W_send 49 rfl) rfl 4 rfl ?_
        obtain ⟨x6, e_x6, h⟩ := zbd h
        refine zc_S o (zdd k_W_send 50 rfl) ml_W_234 ms_J_bitCount (by decide) [.int v3] [.int x5] rfl (Nat.le_of_ble_eq_true rfl) rfl (m_J_bitCount e_x6) ?_
        change zPJ X 0 0 _ _ [.int x6, .int x5] _
        refine zj_icmp_ge (tgt := 112) o (zdd k_W_send 51 rfl) (by decide) (fun hc => ?_) (fun hc => ?_)
        · rw [if_pos hc] at h
          refine zj_iinc (v := v5 + 1) (loc' := [(5, .int (v5 + 1)), (6, .int q4.1), (0, .ref v0), (1, .int v1), (2, .int v2), (3, .int v3), (4, .int v4)]) o (zdd k_W_send 56 rfl) 6 rfl (by rw [zki_1]) (by decide) rfl ?_
          refine zj_goto (tgt := 53) o (zdd k_W_send 57 rfl) (by decide) ?_
          exact zj_sub [2, 3, 4, 5, 6, 0] rfl (hk53 h hr)
        · rw [if_neg hc] at h
          refine zj_iload o (zdd k_W_send 52 rfl) 6 rfl ?_
          refine zj_istore_n (loc' := [(3, .int v5), (6, .int q4.1), (0, .ref v0), (1, .int v1), (2, .int v2), (4, .int v4), (5, .int v5)]) o (zdd k_W_send 53 rfl) rfl (by decide) rfl ?_
          refine zj_iload o (zdd k_W_send 54 rfl) 1 rfl ?_
          refine zj_istore (loc' := [(4, .int q4.1), (3, .int v5), (6, .int q4.1), (0, .ref v0), (1, .int v1), (2, .int v2), (5, .int v5)]) o (zdd k_W_send 55 rfl) (by decide) rfl ?_
          refine zj_iinc (v := v5 + 1) (loc' := [(5, .int (v5 + 1)), (4, .int q4.1), (3, .int v5), (6, .int q4.1), (0, .ref v0), (1, .int v1), (2, .int v2)]) o (zdd k_W_send 56 rfl) 6 rfl (by rw [zki_1]) (by decide) rfl ?_
          refine zj_goto (tgt := 53) o (zdd k_W_send 57 rfl) (by decide) ?_
          exact zj_sub [4, 5, 6, 2, 1, 0] rfl (hk53 h hr)
def f_W_send_53L : Nat → zSt → Nat → Int32 → Int32 → Int32 → Int32 → Int32 → Option (Int32 × zSt)
  | 0 => fun _ _ _ _ _ _ _ => none
  | n + 1 => f_W_send_53  (f_W_send_53L  n)
theorem r_W_send_53L {X : zCX} (o : zOK X "WantShelves" c_W_send n_W_send 7) : ∀ (n : Nat) {σ : zSt} {v0 : Nat} {v1 : Int32} {v2 : Int32} {v3 : Int32} {v4 : Int32} {v5 : Int32} {z : Int32 × zSt}, f_W_send_53L n σ v0 v1 v2 v3 v4 v5 = some z → zRX X 0 0 (some (.int z.1)) z.2 → zPJ X 0 0 53 [(0, .ref v0), (1, .int v1), (2, .int v2), (3, .int v3), (4, .int v4), (5, .int v5)] [] σ
  | 0 => fun h _ => by cases h
  | n + 1 => fun h hr => r_W_send_53 o (r_W_send_53L o  n) h hr
def f_W_send_29 (σ : zSt) (v0 : Nat) (v1 : Int32) (v2 : Int32) : Option (Int32 × zSt) :=
(zgP σ 11 v0 9).bind fun a1 =>
(zgP σ 11 v0 2).bind fun a2 =>
(zgP σ 11 v0 5).bind fun a3 =>
(f_S_open σ a1 a2 a3).bind fun σ4 =>
f_W_send_53L zfu σ4 v0 v1 v2 (-1) 10 1
set_option maxRecDepth 100000 in
set_option maxHeartbeats 4000000 in
theorem r_W_send_29 {X : zCX} (o : zOK X "WantShelves" c_W_send n_W_send 7) {σ : zSt} {v0 : Nat} {v1 : Int32} {v2 : Int32} {z : Int32 × zSt} (h : f_W_send_29 σ v0 v1 v2 = some z) (hr : zRX X 0 0 (some (.int z.1)) z.2) : zPJ X 0 0 29 [(0, .ref v0), (1, .int v1), (2, .int v2)] [] σ := by
  unfold f_W_send_29 at h
  refine zj_aload_n o (zdd k_W_send 15 rfl) rfl 0 rfl ?_
  obtain ⟨a1, e_a1, h⟩ := zbd h
  refine zj_gP o (zdd k_W_send 16 rfl) fl_W_56 rfl e_a1 ?_
  refine zj_aload_n o (zdd k_W_send 17 rfl) rfl 0 rfl ?_
  obtain ⟨a2, e_a2, h⟩ := zbd h
  refine zj_gP o (zdd k_W_send 18 rfl) fl_W_16 rfl e_a2 ?_
  refine zj_aload_n o (zdd k_W_send 19 rfl) rfl 0 rfl ?_
  obtain ⟨a3, e_a3, h⟩ := zbd h
  refine zj_gP o (zdd k_W_send 20 rfl) fl_W_35 rfl e_a3 ?_
  obtain ⟨σ4, e_σ4, h⟩ := zbd h
  refine zc_V o (zdd k_W_send 21 rfl) ml_W_166 mv_S_open ⟨rfl, by decide⟩ (zg_some e_σ4).1 (by decide) [.ref a2, .ref a3] [] rfl (Nat.le_of_ble_eq_true rfl) rfl (m_S_open e_σ4) ?_
  change zPJ X 0 0 _ _ [] _
  refine zj_iconst o (zdd k_W_send 22 rfl) zki_m1 ?_
  refine zj_istore_n (loc' := [(3, .int (-1)), (0, .ref v0), (1, .int v1), (2, .int v2)]) o (zdd k_W_send 23 rfl) rfl (by decide) rfl ?_
  refine zj_bipush o (zdd k_W_send 24 rfl) zkb_10 ?_
  refine zj_istore (loc' := [(4, .int 10), (3, .int (-1)), (0, .ref v0), (1, .int v1), (2, .int v2)]) o (zdd k_W_send 25 rfl) (by decide) rfl ?_
  refine zj_iconst o (zdd k_W_send 26 rfl) zki_1 ?_
  refine zj_istore (loc' := [(5, .int 1), (4, .int 10), (3, .int (-1)), (0, .ref v0), (1, .int v1), (2, .int v2)]) o (zdd k_W_send 27 rfl) (by decide) rfl ?_
  exact zj_sub [3, 4, 5, 2, 1, 0] rfl (r_W_send_53L o  zfu h hr)
def f_W_send (σ : zSt) (t : Nat) (p0 : Int32) (p1 : Int32) : Option (Int32 × zSt) :=
zg σ 11 t (
(f_W_isHere σ t p0).bind fun x1 =>
if x1 = 0 then (
some ((-1), σ)) else
(zgP σ 11 t 2).bind fun a2 =>
(zgI σ 10 a2 2).bind fun x3 =>
if x3 = 0 then (
some ((-1), σ)) else
if p1 = 0 then (
f_W_send_29 σ t p0 p1) else
if p1 = 1 then (
f_W_send_29 σ t p0 p1) else
some ((-1), σ))
set_option maxRecDepth 100000 in
set_option maxHeartbeats 4000000 in
theorem m_W_send {l : Launch} {b : Nat} {ex : Nat → Value} {D : va_G} {ca : Nat → ClassId} {σ : zSt} {t : Nat} {p0 : Int32} {p1 : Int32} {z : Int32 × zSt} (h : f_W_send σ t p0 p1 = some z) : zMT l b ex D ca 7 y_W_send c_W_send n_W_send r_ret_W_send [.ref t, .int p0, .int p1] σ (some (.int z.1)) z.2 0 0 := by
  obtain ⟨_, hg0⟩ := zg_some h
  have h := hg0
  refine zmt_of (by decide) (Nat.le_of_ble_eq_true rfl) ⟨.int, rfl, rfl⟩ (fun X o hin hrm _ _ _ _ _ hr => ?_)
  have hr := hr 0 0 (by decide) (by decide)
  have o : zOK X "WantShelves" c_W_send n_W_send 7 := o
  change zPJ X 0 0 0 [(0, .ref t), (1, .int p0), (2, .int p1)] [] σ
  refine zj_aload_n o (zdd k_W_send 0 rfl) rfl 0 rfl ?_
  refine zj_iload_n o (zdd k_W_send 1 rfl) rfl 1 rfl ?_
  obtain ⟨x1, e_x1, h⟩ := zbd h
  refine zc_V o (zdd k_W_send 2 rfl) ml_W_177 mv_W_isHere ⟨rfl, by decide⟩ (zg_some e_x1).1 (by decide) [.int p0] [] rfl (Nat.le_of_ble_eq_true rfl) rfl (m_W_isHere e_x1) ?_
  change zPJ X 0 0 _ _ [.int x1] _
  refine zj_if_eq (tgt := 27) o (zdd k_W_send 3 rfl) (by decide) (fun hc => ?_) (fun hc => ?_)
  · rw [if_pos hc] at h
    refine zj_iconst o (zdd k_W_send 13 rfl) zki_m1 ?_
    cases h
    exact zr_i o hr (zdd k_W_send 14 rfl)
  · rw [if_neg hc] at h
    refine zj_aload_n o (zdd k_W_send 4 rfl) rfl 0 rfl ?_
    obtain ⟨a2, e_a2, h⟩ := zbd h
    refine zj_gP o (zdd k_W_send 5 rfl) fl_W_16 rfl e_a2 ?_
    obtain ⟨x3, e_x3, h⟩ := zbd h
    refine zj_gI o (zdd k_W_send 6 rfl) fl_W_231 rfl e_x3 ?_
    refine zj_if_eq (tgt := 27) o (zdd k_W_send 7 rfl) (by decide) (fun hc => ?_) (fun hc => ?_)
    · rw [if_pos hc] at h
      refine zj_iconst o (zdd k_W_send 13 rfl) zki_m1 ?_
      cases h
      exact zr_i o hr (zdd k_W_send 14 rfl)
    · rw [if_neg hc] at h
      refine zj_iload_n o (zdd k_W_send 8 rfl) rfl 2 rfl ?_
      refine zj_if_eq (tgt := 29) o (zdd k_W_send 9 rfl) (by decide) (fun hc => ?_) (fun hc => ?_)
      · rw [if_pos hc] at h
        exact zj_sub [0, 1, 2] rfl (r_W_send_29 o  h hr)
      · rw [if_neg hc] at h
        refine zj_iload_n o (zdd k_W_send 10 rfl) rfl 2 rfl ?_
        refine zj_iconst o (zdd k_W_send 11 rfl) zki_1 ?_
        refine zj_icmp_eq (tgt := 29) o (zdd k_W_send 12 rfl) (by decide) (fun hc => ?_) (fun hc => ?_)
        · rw [if_pos hc] at h
          exact zj_sub [0, 1, 2] rfl (r_W_send_29 o  h hr)
        · rw [if_neg hc] at h
          refine zj_iconst o (zdd k_W_send 13 rfl) zki_m1 ?_
          cases h
          exact zr_i o hr (zdd k_W_send 14 rfl)
def f_W_think_113 (σ : zSt) (v0 : Nat) (v3 : Int32) (v4 : Int32) (v5 : Int32) : Option (Int32 × zSt) :=
if v3 = 0 then (
(zgP σ 11 v0 2).bind fun a1 =>
(f_D_stepsTo σ a1 v5).bind fun x2 =>
some (x2, σ)) else
some (v4, σ)
set_option maxRecDepth 100000 in
set_option maxHeartbeats 4000000 in
theorem r_W_think_113 {X : zCX} (o : zOK X "WantShelves" c_W_think n_W_think 7) {σ : zSt} {v0 : Nat} {v3 : Int32} {v4 : Int32} {v5 : Int32} {z : Int32 × zSt} (h : f_W_think_113 σ v0 v3 v4 v5 = some z) (hr : zRX X 0 0 (some (.int z.1)) z.2) : zPJ X 0 0 113 [(0, .ref v0), (3, .int v3), (4, .int v4), (5, .int v5)] [] σ := by
  unfold f_W_think_113 at h
  refine zj_iload_n o (zdd k_W_think 57 rfl) rfl 1 rfl ?_
  refine zj_if_ne (tgt := 129) o (zdd k_W_think 58 rfl) (by decide) (fun hc => ?_) (fun hc => ?_)
  · rw [if_neg hc] at h
    refine zj_iload o (zdd k_W_think 64 rfl) 2 rfl ?_
    cases h
    exact zr_i o hr (zdd k_W_think 65 rfl)
  · rw [if_pos hc] at h
    refine zj_aload_n o (zdd k_W_think 59 rfl) rfl 0 rfl ?_
    obtain ⟨a1, e_a1, h⟩ := zbd h
    refine zj_gP o (zdd k_W_think 60 rfl) fl_W_16 rfl e_a1 ?_
    refine zj_iload o (zdd k_W_think 61 rfl) 3 rfl ?_
    obtain ⟨x2, e_x2, h⟩ := zbd h
    refine zc_V o (zdd k_W_think 62 rfl) ml_W_189 mv_D_stepsTo ⟨rfl, by decide⟩ (zg_some e_x2).1 (by decide) [.int v5] [] rfl (Nat.le_of_ble_eq_true rfl) rfl (m_D_stepsTo e_x2) ?_
    change zPJ X 0 0 _ _ [.int x2] _
    refine zj_goto (tgt := 131) o (zdd k_W_think 63 rfl) (by decide) ?_
    cases h
    exact zr_i o hr (zdd k_W_think 65 rfl)
def f_W_think_53 (k53 : zSt → Nat → Int32 → Int32 → Int32 → Int32 → Int32 → Int32 → Option (Int32 × zSt)) (σ : zSt) (v0 : Nat) (v1 : Int32) (v2 : Int32) (v3 : Int32) (v4 : Int32) (v5 : Int32) (v6 : Int32) : Option (Int32 × zSt) :=
(zgP σ 11 v0 2).bind fun a1 =>
(zgI σ 10 a1 0).bind fun x2 =>
if x2 ≤ v6 then (
f_W_think_113 σ v0 v3 v4 v5) else
(zgP σ 11 v0 9).bind fun a3 =>
(zgP σ 11 v0 5).bind fun a4 =>
(f_S_weigh σ a3 a4 v1 v6).bind fun σ5 =>
(zgP σ5 11 v0 9).bind fun a6 =>
(f_S_placeFor σ5 a6 (1 <<< (v1 &&& 31)) v2).bind fun q7 =>
if v5 ≤ q7.1 then (
k53 q7.2 v0 v1 v2 v3 v4 v5 (v6 + 1)) else
k53 q7.2 v0 v1 v2 v3 v6 q7.1 (v6 + 1)
set_option maxRecDepth 100000 in
set_option maxHeartbeats 4000000 in
theorem r_W_think_53 {X : zCX} (o : zOK X "WantShelves" c_W_think n_W_think 7) {k53 : zSt → Nat → Int32 → Int32 → Int32 → Int32 → Int32 → Int32 → Option (Int32 × zSt)} (hk53 : ∀ {σ : zSt} {v0 : Nat} {v1 : Int32} {v2 : Int32} {v3 : Int32} {v4 : Int32} {v5 : Int32} {v6 : Int32} {z : Int32 × zSt}, k53 σ v0 v1 v2 v3 v4 v5 v6 = some z → zRX X 0 0 (some (.int z.1)) z.2 → zPJ X 0 0 53 [(0, .ref v0), (1, .int v1), (2, .int v2), (3, .int v3), (4, .int v4), (5, .int v5), (6, .int v6)] [] σ) {σ : zSt} {v0 : Nat} {v1 : Int32} {v2 : Int32} {v3 : Int32} {v4 : Int32} {v5 : Int32} {v6 : Int32} {z : Int32 × zSt} (h : f_W_think_53 k53 σ v0 v1 v2 v3 v4 v5 v6 = some z) (hr : zRX X 0 0 (some (.int z.1)) z.2) : zPJ X 0 0 53 [(0, .ref v0), (1, .int v1), (2, .int v2), (3, .int v3), (4, .int v4), (5, .int v5), (6, .int v6)] [] σ := by
  unfold f_W_think_53 at h
  refine zj_iload o (zdd k_W_think 28 rfl) 6 rfl ?_
  refine zj_aload_n o (zdd k_W_think 29 rfl) rfl 0 rfl ?_
  obtain ⟨a1, e_a1, h⟩ := zbd h
  refine zj_gP o (zdd k_W_think 30 rfl) fl_W_16 rfl e_a1 ?_
  obtain ⟨x2, e_x2, h⟩ := zbd h
  refine zj_gI o (zdd k_W_think 31 rfl) fl_W_239 rfl e_x2 ?_
  refine zj_icmp_ge (tgt := 113) o (zdd k_W_think 32 rfl) (by decide) (fun hc => ?_) (fun hc => ?_)
  · rw [if_pos hc] at h
    exact zj_sub [0, 3, 4, 5] rfl (r_W_think_113 o  h hr)
  · rw [if_neg hc] at h
    refine zj_aload_n o (zdd k_W_think 33 rfl) rfl 0 rfl ?_
    obtain ⟨a3, e_a3, h⟩ := zbd h
    refine zj_gP o (zdd k_W_think 34 rfl) fl_W_56 rfl e_a3 ?_
    refine zj_aload_n o (zdd k_W_think 35 rfl) rfl 0 rfl ?_
    obtain ⟨a4, e_a4, h⟩ := zbd h
    refine zj_gP o (zdd k_W_think 36 rfl) fl_W_35 rfl e_a4 ?_
    refine zj_iload_n o (zdd k_W_think 37 rfl) rfl 1 rfl ?_
    refine zj_iload o (zdd k_W_think 38 rfl) 6 rfl ?_
    obtain ⟨σ5, e_σ5, h⟩ := zbd h
    refine zc_V o (zdd k_W_think 39 rfl) ml_W_242 mv_S_weigh ⟨rfl, by decide⟩ (zg_some e_σ5).1 (by decide) [.ref a4, .int v1, .int v6] [] rfl (Nat.le_of_ble_eq_true rfl) rfl (m_S_weigh e_σ5) ?_
    change zPJ X 0 0 _ _ [] _
    refine zj_aload_n o (zdd k_W_think 40 rfl) rfl 0 rfl ?_
    obtain ⟨a6, e_a6, h⟩ := zbd h
    refine zj_gP o (zdd k_W_think 41 rfl) fl_W_56 rfl e_a6 ?_
    refine zj_iconst o (zdd k_W_think 42 rfl) zki_1 ?_
    refine zj_iload_n o (zdd k_W_think 43 rfl) rfl 1 rfl ?_
    refine zj_ishl o (zdd k_W_think 44 rfl) ?_
    refine zj_iload_n o (zdd k_W_think 45 rfl) rfl 2 rfl ?_
    obtain ⟨q7, e_q7, h⟩ := zbd h
    refine zc_V o (zdd k_W_think 46 rfl) ml_W_180 mv_S_placeFor ⟨rfl, by decide⟩ (zg_some e_q7).1 (by decide) [.int (1 <<< (v1 &&& 31)), .int v2] [] rfl (Nat.le_of_ble_eq_true rfl) rfl (m_S_placeFor e_q7) ?_
    change zPJ X 0 0 _ _ [.int q7.1] _
    refine zj_istore (loc' := [(7, .int q7.1), (0, .ref v0), (1, .int v1), (2, .int v2), (3, .int v3), (4, .int v4), (5, .int v5), (6, .int v6)]) o (zdd k_W_think 47 rfl) (by decide) rfl ?_
    refine zj_iload o (zdd k_W_think 48 rfl) 0 rfl ?_
    refine zj_iload o (zdd k_W_think 49 rfl) 6 rfl ?_
    refine zj_icmp_ge (tgt := 107) o (zdd k_W_think 50 rfl) (by decide) (fun hc => ?_) (fun hc => ?_)
    · rw [if_pos hc] at h
      refine zj_iinc (v := v6 + 1) (loc' := [(6, .int (v6 + 1)), (7, .int q7.1), (0, .ref v0), (1, .int v1), (2, .int v2), (3, .int v3), (4, .int v4), (5, .int v5)]) o (zdd k_W_think 55 rfl) 7 rfl (by rw [zki_1]) (by decide) rfl ?_
      refine zj_goto (tgt := 53) o (zdd k_W_think 56 rfl) (by decide) ?_
      exact zj_sub [2, 3, 4, 5, 6, 7, 0] rfl (hk53 h hr)
    · rw [if_neg hc] at h
      refine zj_iload o (zdd k_W_think 51 rfl) 7 rfl ?_
      refine zj_istore (loc' := [(4, .int v6), (7, .int q7.1), (0, .ref v0), (1, .int v1), (2, .int v2), (3, .int v3), (5, .int v5), (6, .int v6)]) o (zdd k_W_think 52 rfl) (by decide) rfl ?_
      refine zj_iload o (zdd k_W_think 53 rfl) 1 rfl ?_
      refine zj_istore (loc' := [(5, .int q7.1), (4, .int v6), (7, .int q7.1), (0, .ref v0), (1, .int v1), (2, .int v2), (3, .int v3), (6, .int v6)]) o (zdd k_W_think 54 rfl) (by decide) rfl ?_
      refine zj_iinc (v := v6 + 1) (loc' := [(6, .int (v6 + 1)), (5, .int q7.1), (4, .int v6), (7, .int q7.1), (0, .ref v0), (1, .int v1), (2, .int v2), (3, .int v3)]) o (zdd k_W_think 55 rfl) 7 rfl (by rw [zki_1]) (by decide) rfl ?_
      refine zj_goto (tgt := 53) o (zdd k_W_think 56 rfl) (by decide) ?_
      exact zj_sub [4, 5, 6, 7, 2, 1, 0] rfl (hk53 h hr)
def f_W_think_53L : Nat → zSt → Nat → Int32 → Int32 → Int32 → Int32 → Int32 → Int32 → Option (Int32 × zSt)
  | 0 => fun _ _ _ _ _ _ _ _ => none
  | n + 1 => f_W_think_53  (f_W_think_53L  n)
theorem r_W_think_53L {X : zCX} (o : zOK X "WantShelves" c_W_think n_W_think 7) : ∀ (n : Nat) {σ : zSt} {v0 : Nat} {v1 : Int32} {v2 : Int32} {v3 : Int32} {v4 : Int32} {v5 : Int32} {v6 : Int32} {z : Int32 × zSt}, f_W_think_53L n σ v0 v1 v2 v3 v4 v5 v6 = some z → zRX X 0 0 (some (.int z.1)) z.2 → zPJ X 0 0 53 [(0, .ref v0), (1, .int v1), (2, .int v2), (3, .int v3), (4, .int v4), (5, .int v5), (6, .int v6)] [] σ
  | 0 => fun h _ => by cases h
  | n + 1 => fun h hr => r_W_think_53 o (r_W_think_53L o  n) h hr
def f_W_think_28 (σ : zSt) (v0 : Nat) (v1 : Int32) (v2 : Int32) (v3 : Int32) : Option (Int32 × zSt) :=
(zgP σ 11 v0 9).bind fun a1 =>
(zgP σ 11 v0 2).bind fun a2 =>
(zgP σ 11 v0 5).bind fun a3 =>
(f_S_open σ a1 a2 a3).bind fun σ4 =>
f_W_think_53L zfu σ4 v0 v1 v2 v3 (-1) 10 (-1)
set_option maxRecDepth 100000 in
set_option maxHeartbeats 4000000 in
theorem r_W_think_28 {X : zCX} (o : zOK X "WantShelves" c_W_think n_W_think 7) {σ : zSt} {v0 : Nat} {v1 : Int32} {v2 : Int32} {v3 : Int32} {z : Int32 × zSt} (h : f_W_think_28 σ v0 v1 v2 v3 = some z) (hr : zRX X 0 0 (some (.int z.1)) z.2) : zPJ X 0 0 28 [(0, .ref v0), (1, .int v1), (2, .int v2), (3, .int v3)] [] σ := by
  unfold f_W_think_28 at h
  refine zj_aload_n o (zdd k_W_think 15 rfl) rfl 0 rfl ?_
  obtain ⟨a1, e_a1, h⟩ := zbd h
  refine zj_gP o (zdd k_W_think 16 rfl) fl_W_56 rfl e_a1 ?_
  refine zj_aload_n o (zdd k_W_think 17 rfl) rfl 0 rfl ?_
  obtain ⟨a2, e_a2, h⟩ := zbd h
  refine zj_gP o (zdd k_W_think 18 rfl) fl_W_16 rfl e_a2 ?_
  refine zj_aload_n o (zdd k_W_think 19 rfl) rfl 0 rfl ?_
  obtain ⟨a3, e_a3, h⟩ := zbd h
  refine zj_gP o (zdd k_W_think 20 rfl) fl_W_35 rfl e_a3 ?_
  obtain ⟨σ4, e_σ4, h⟩ := zbd h
  refine zc_V o (zdd k_W_think 21 rfl) ml_W_166 mv_S_open ⟨rfl, by decide⟩ (zg_some e_σ4).1 (by decide) [.ref a2, .ref a3] [] rfl (Nat.le_of_ble_eq_true rfl) rfl (m_S_open e_σ4) ?_
  change zPJ X 0 0 _ _ [] _
  refine zj_iconst o (zdd k_W_think 22 rfl) zki_m1 ?_
  refine zj_istore (loc' := [(4, .int (-1)), (0, .ref v0), (1, .int v1), (2, .int v2), (3, .int v3)]) o (zdd k_W_think 23 rfl) (by decide) rfl ?_
  refine zj_bipush o (zdd k_W_think 24 rfl) zkb_10 ?_
  refine zj_istore (loc' := [(5, .int 10), (4, .int (-1)), (0, .ref v0), (1, .int v1), (2, .int v2), (3, .int v3)]) o (zdd k_W_think 25 rfl) (by decide) rfl ?_
  refine zj_iconst o (zdd k_W_think 26 rfl) zki_m1 ?_
  refine zj_istore (loc' := [(6, .int (-1)), (5, .int 10), (4, .int (-1)), (0, .ref v0), (1, .int v1), (2, .int v2), (3, .int v3)]) o (zdd k_W_think 27 rfl) (by decide) rfl ?_
  exact zj_sub [3, 4, 5, 6, 2, 1, 0] rfl (r_W_think_53L o  zfu h hr)
def f_W_think (σ : zSt) (t : Nat) (p0 : Int32) (p1 : Int32) (p2 : Int32) : Option (Int32 × zSt) :=
zg σ 11 t (
(f_W_isReader σ t p0).bind fun x1 =>
if x1 = 0 then (
some ((-2), σ)) else
(f_W_isHere σ t p1).bind fun x2 =>
if x2 = 0 then (
some ((-2), σ)) else
if p2 = 0 then (
f_W_think_28 σ t p0 p1 p2) else
if p2 = 1 then (
f_W_think_28 σ t p0 p1 p2) else
some ((-2), σ))
set_option maxRecDepth 100000 in
set_option maxHeartbeats 4000000 in
theorem m_W_think {l : Launch} {b : Nat} {ex : Nat → Value} {D : va_G} {ca : Nat → ClassId} {σ : zSt} {t : Nat} {p0 : Int32} {p1 : Int32} {p2 : Int32} {z : Int32 × zSt} (h : f_W_think σ t p0 p1 p2 = some z) : zMT l b ex D ca 7 y_W_think c_W_think n_W_think r_ret_W_think [.ref t, .int p0, .int p1, .int p2] σ (some (.int z.1)) z.2 0 0 := by
  obtain ⟨_, hg0⟩ := zg_some h
  have h := hg0
  refine zmt_of (by decide) (Nat.le_of_ble_eq_true rfl) ⟨.int, rfl, rfl⟩ (fun X o hin hrm _ _ _ _ _ hr => ?_)
  have hr := hr 0 0 (by decide) (by decide)
  have o : zOK X "WantShelves" c_W_think n_W_think 7 := o
  change zPJ X 0 0 0 [(0, .ref t), (1, .int p0), (2, .int p1), (3, .int p2)] [] σ
  refine zj_aload_n o (zdd k_W_think 0 rfl) rfl 0 rfl ?_
  refine zj_iload_n o (zdd k_W_think 1 rfl) rfl 1 rfl ?_
  obtain ⟨x1, e_x1, h⟩ := zbd h
  refine zc_V o (zdd k_W_think 2 rfl) ml_W_146 mv_W_isReader ⟨rfl, by decide⟩ (zg_some e_x1).1 (by decide) [.int p0] [] rfl (Nat.le_of_ble_eq_true rfl) rfl (m_W_isReader e_x1) ?_
  change zPJ X 0 0 _ _ [.int x1] _
  refine zj_if_eq (tgt := 25) o (zdd k_W_think 3 rfl) (by decide) (fun hc => ?_) (fun hc => ?_)
  · rw [if_pos hc] at h
    refine zj_bipush o (zdd k_W_think 13 rfl) zkb_m2 ?_
    cases h
    exact zr_i o hr (zdd k_W_think 14 rfl)
  · rw [if_neg hc] at h
    refine zj_aload_n o (zdd k_W_think 4 rfl) rfl 0 rfl ?_
    refine zj_iload_n o (zdd k_W_think 5 rfl) rfl 2 rfl ?_
    obtain ⟨x2, e_x2, h⟩ := zbd h
    refine zc_V o (zdd k_W_think 6 rfl) ml_W_177 mv_W_isHere ⟨rfl, by decide⟩ (zg_some e_x2).1 (by decide) [.int p1] [] rfl (Nat.le_of_ble_eq_true rfl) rfl (m_W_isHere e_x2) ?_
    change zPJ X 0 0 _ _ [.int x2] _
    refine zj_if_eq (tgt := 25) o (zdd k_W_think 7 rfl) (by decide) (fun hc => ?_) (fun hc => ?_)
    · rw [if_pos hc] at h
      refine zj_bipush o (zdd k_W_think 13 rfl) zkb_m2 ?_
      cases h
      exact zr_i o hr (zdd k_W_think 14 rfl)
    · rw [if_neg hc] at h
      refine zj_iload_n o (zdd k_W_think 8 rfl) rfl 3 rfl ?_
      refine zj_if_eq (tgt := 28) o (zdd k_W_think 9 rfl) (by decide) (fun hc => ?_) (fun hc => ?_)
      · rw [if_pos hc] at h
        exact zj_sub [0, 1, 2, 3] rfl (r_W_think_28 o  h hr)
      · rw [if_neg hc] at h
        refine zj_iload_n o (zdd k_W_think 10 rfl) rfl 3 rfl ?_
        refine zj_iconst o (zdd k_W_think 11 rfl) zki_1 ?_
        refine zj_icmp_eq (tgt := 28) o (zdd k_W_think 12 rfl) (by decide) (fun hc => ?_) (fun hc => ?_)
        · rw [if_pos hc] at h
          exact zj_sub [0, 1, 2, 3] rfl (r_W_think_28 o  h hr)
        · rw [if_neg hc] at h
          refine zj_bipush o (zdd k_W_think 13 rfl) zkb_m2 ?_
          cases h
          exact zr_i o hr (zdd k_W_think 14 rfl)
def f_W_errand (σ : zSt) (t : Nat) (p0 : Int32) (p1 : Int32) : Option (Int32 × zSt) :=
zg σ 11 t (
if p0 < 0 then (
some ((-1), σ)) else
(zgP σ 11 t 2).bind fun a1 =>
(zgI σ 10 a1 1).bind fun x2 =>
if 1 <<< (x2 &&& 31) ≤ p0 then (
some ((-1), σ)) else
(zgP σ 11 t 5).bind fun a3 =>
(zgI σ 4 a3 4).bind fun x4 =>
if p0 &&& x4 = 0 then (
if p1 < 1 then (
some ((-1), σ)) else
if 3 < p1 then (
some ((-1), σ)) else
(zgP σ 11 t 2).bind fun a5 =>
(zgI σ 10 a5 2).bind fun x6 =>
if x6 = 0 then (
some ((-1), σ)) else
(zgP σ 11 t 9).bind fun a7 =>
(zgP σ 11 t 2).bind fun a8 =>
(zgP σ 11 t 5).bind fun a9 =>
(f_S_open σ a7 a8 a9).bind fun σ10 =>
(zgP σ10 11 t 13).bind fun a11 =>
(zgP σ10 11 t 9).bind fun a12 =>
(zgP σ10 11 t 2).bind fun a13 =>
(f_E_fewest σ10 a11 a12 a13 p0 p1).bind fun q14 =>
some (q14.1, q14.2)) else
some ((-1), σ))
set_option maxRecDepth 100000 in
set_option maxHeartbeats 4000000 in
theorem m_W_errand {l : Launch} {b : Nat} {ex : Nat → Value} {D : va_G} {ca : Nat → ClassId} {σ : zSt} {t : Nat} {p0 : Int32} {p1 : Int32} {z : Int32 × zSt} (h : f_W_errand σ t p0 p1 = some z) : zMT l b ex D ca 7 y_W_errand c_W_errand n_W_errand r_ret_W_errand [.ref t, .int p0, .int p1] σ (some (.int z.1)) z.2 0 0 := by
  obtain ⟨_, hg0⟩ := zg_some h
  have h := hg0
  refine zmt_of (by decide) (Nat.le_of_ble_eq_true rfl) ⟨.int, rfl, rfl⟩ (fun X o hin hrm _ _ _ _ _ hr => ?_)
  have hr := hr 0 0 (by decide) (by decide)
  have o : zOK X "WantShelves" c_W_errand n_W_errand 7 := o
  change zPJ X 0 0 0 [(0, .ref t), (1, .int p0), (2, .int p1)] [] σ
  refine zj_iload_n o (zdd k_W_errand 0 rfl) rfl 1 rfl ?_
  refine zj_if_lt (tgt := 49) o (zdd k_W_errand 1 rfl) (by decide) (fun hc => ?_) (fun hc => ?_)
  · rw [if_pos hc] at h
    refine zj_iconst o (zdd k_W_errand 25 rfl) zki_m1 ?_
    cases h
    exact zr_i o hr (zdd k_W_errand 26 rfl)
  · rw [if_neg hc] at h
    refine zj_iload_n o (zdd k_W_errand 2 rfl) rfl 1 rfl ?_
    refine zj_iconst o (zdd k_W_errand 3 rfl) zki_1 ?_
    refine zj_aload_n o (zdd k_W_errand 4 rfl) rfl 0 rfl ?_
    obtain ⟨a1, e_a1, h⟩ := zbd h
    refine zj_gP o (zdd k_W_errand 5 rfl) fl_W_16 rfl e_a1 ?_
    obtain ⟨x2, e_x2, h⟩ := zbd h
    refine zj_gI o (zdd k_W_errand 6 rfl) fl_W_127 rfl e_x2 ?_
    refine zj_ishl o (zdd k_W_errand 7 rfl) ?_
    refine zj_icmp_ge (tgt := 49) o (zdd k_W_errand 8 rfl) (by decide) (fun hc => ?_) (fun hc => ?_)
    · rw [if_pos hc] at h
      refine zj_iconst o (zdd k_W_errand 25 rfl) zki_m1 ?_
      cases h
      exact zr_i o hr (zdd k_W_errand 26 rfl)
    · rw [if_neg hc] at h
      refine zj_iload_n o (zdd k_W_errand 9 rfl) rfl 1 rfl ?_
      refine zj_aload_n o (zdd k_W_errand 10 rfl) rfl 0 rfl ?_
      obtain ⟨a3, e_a3, h⟩ := zbd h
      refine zj_gP o (zdd k_W_errand 11 rfl) fl_W_35 rfl e_a3 ?_
      obtain ⟨x4, e_x4, h⟩ := zbd h
      refine zj_gI o (zdd k_W_errand 12 rfl) fl_W_202 rfl e_x4 ?_
      refine zj_iand o (zdd k_W_errand 13 rfl) ?_
      refine zj_if_ne (tgt := 49) o (zdd k_W_errand 14 rfl) (by decide) (fun hc => ?_) (fun hc => ?_)
      · rw [if_neg hc] at h
        refine zj_iconst o (zdd k_W_errand 25 rfl) zki_m1 ?_
        cases h
        exact zr_i o hr (zdd k_W_errand 26 rfl)
      · rw [if_pos hc] at h
        refine zj_iload_n o (zdd k_W_errand 15 rfl) rfl 2 rfl ?_
        refine zj_iconst o (zdd k_W_errand 16 rfl) zki_1 ?_
        refine zj_icmp_lt (tgt := 49) o (zdd k_W_errand 17 rfl) (by decide) (fun hc => ?_) (fun hc => ?_)
        · rw [if_pos hc] at h
          refine zj_iconst o (zdd k_W_errand 25 rfl) zki_m1 ?_
          cases h
          exact zr_i o hr (zdd k_W_errand 26 rfl)
        · rw [if_neg hc] at h
          refine zj_iload_n o (zdd k_W_errand 18 rfl) rfl 2 rfl ?_
          refine zj_iconst o (zdd k_W_errand 19 rfl) zki_3 ?_
          refine zj_icmp_gt (tgt := 49) o (zdd k_W_errand 20 rfl) (by decide) (fun hc => ?_) (fun hc => ?_)
          · rw [if_pos hc] at h
            refine zj_iconst o (zdd k_W_errand 25 rfl) zki_m1 ?_
            cases h
            exact zr_i o hr (zdd k_W_errand 26 rfl)
          · rw [if_neg hc] at h
            refine zj_aload_n o (zdd k_W_errand 21 rfl) rfl 0 rfl ?_
            obtain ⟨a5, e_a5, h⟩ := zbd h
            refine zj_gP o (zdd k_W_errand 22 rfl) fl_W_16 rfl e_a5 ?_
            obtain ⟨x6, e_x6, h⟩ := zbd h
            refine zj_gI o (zdd k_W_errand 23 rfl) fl_W_231 rfl e_x6 ?_
            refine zj_if_ne (tgt := 51) o (zdd k_W_errand 24 rfl) (by decide) (fun hc => ?_) (fun hc => ?_)
            · rw [if_neg hc] at h
              refine zj_aload_n o (zdd k_W_errand 27 rfl) rfl 0 rfl ?_
              obtain ⟨a7, e_a7, h⟩ := zbd h
              refine zj_gP o (zdd k_W_errand 28 rfl) fl_W_56 rfl e_a7 ?_
              refine zj_aload_n o (zdd k_W_errand 29 rfl) rfl 0 rfl ?_
              obtain ⟨a8, e_a8, h⟩ := zbd h
              refine zj_gP o (zdd k_W_errand 30 rfl) fl_W_16 rfl e_a8 ?_
              refine zj_aload_n o (zdd k_W_errand 31 rfl) rfl 0 rfl ?_
              obtain ⟨a9, e_a9, h⟩ := zbd h
              refine zj_gP o (zdd k_W_errand 32 rfl) fl_W_35 rfl e_a9 ?_
              obtain ⟨σ10, e_σ10, h⟩ := zbd h
              refine zc_V o (zdd k_W_errand 33 rfl) ml_W_166 mv_S_open ⟨rfl, by decide⟩ (zg_some e_σ10).1 (by decide) [.ref a8, .ref a9] [] rfl (Nat.le_of_ble_eq_true rfl) rfl (m_S_open e_σ10) ?_
              change zPJ X 0 0 _ _ [] _
              refine zj_aload_n o (zdd k_W_errand 34 rfl) rfl 0 rfl ?_
              obtain ⟨a11, e_a11, h⟩ := zbd h
              refine zj_gP o (zdd k_W_errand 35 rfl) fl_W_80 rfl e_a11 ?_
              refine zj_aload_n o (zdd k_W_errand 36 rfl) rfl 0 rfl ?_
              obtain ⟨a12, e_a12, h⟩ := zbd h
              refine zj_gP o (zdd k_W_errand 37 rfl) fl_W_56 rfl e_a12 ?_
              refine zj_aload_n o (zdd k_W_errand 38 rfl) rfl 0 rfl ?_
              obtain ⟨a13, e_a13, h⟩ := zbd h
              refine zj_gP o (zdd k_W_errand 39 rfl) fl_W_16 rfl e_a13 ?_
              refine zj_iload_n o (zdd k_W_errand 40 rfl) rfl 1 rfl ?_
              refine zj_iload_n o (zdd k_W_errand 41 rfl) rfl 2 rfl ?_
              obtain ⟨q14, e_q14, h⟩ := zbd h
              refine zc_V o (zdd k_W_errand 42 rfl) ml_W_246 mv_E_fewest ⟨rfl, by decide⟩ (zg_some e_q14).1 (by decide) [.ref a12, .ref a13, .int p0, .int p1] [] rfl (Nat.le_of_ble_eq_true rfl) rfl (m_E_fewest e_q14) ?_
              change zPJ X 0 0 _ _ [.int q14.1] _
              cases h
              exact zr_i o hr (zdd k_W_errand 43 rfl)
            · rw [if_pos hc] at h
              refine zj_iconst o (zdd k_W_errand 25 rfl) zki_m1 ?_
              cases h
              exact zr_i o hr (zdd k_W_errand 26 rfl)
def f_W_noneHere (σ : zSt) (t : Nat) : Option (Int32) :=
zg σ 11 t (
((zgP σ 11 t 5).bind fun a1 =>
(zgI σ 4 a1 4).bind fun x2 =>
(zgP σ 11 t 2).bind fun a3 =>
(zgI σ 10 a3 1).bind fun x4 =>
if x2 = (1 <<< (x4 &&& 31)) - 1 then (
some 1) else
some 0).bind zbool)
set_option maxRecDepth 100000 in
set_option maxHeartbeats 4000000 in
theorem m_W_noneHere {l : Launch} {b : Nat} {ex : Nat → Value} {D : va_G} {ca : Nat → ClassId} {σ : zSt} {t : Nat} {z : Int32} (h : f_W_noneHere σ t = some z) : zMT l b ex D ca 1 y_W_noneHere c_W_noneHere n_W_noneHere r_ret_W_noneHere [.ref t] σ (some (.int z)) σ 0 0 := by
  obtain ⟨_, hg0⟩ := zg_some h
  obtain ⟨z0, hbd, hz⟩ := zbd hg0
  obtain ⟨hzb, rfl⟩ := zbool_some hz
  have h := hbd
  refine zmt_of (by decide) (Nat.le_of_ble_eq_true rfl) ⟨.boolean, rfl, zb_nar hzb⟩ (fun X o hin hrm _ _ _ _ _ hr => ?_)
  have hr := hr 0 0 (by decide) (by decide)
  have o : zOK X "WantShelves" c_W_noneHere n_W_noneHere 1 := o
  change zPJ X 0 0 0 [(0, .ref t)] [] σ
  refine zj_aload_n o (zdd k_W_noneHere 0 rfl) rfl 0 rfl ?_
  obtain ⟨a1, e_a1, h⟩ := zbd h
  refine zj_gP o (zdd k_W_noneHere 1 rfl) fl_W_35 rfl e_a1 ?_
  obtain ⟨x2, e_x2, h⟩ := zbd h
  refine zj_gI o (zdd k_W_noneHere 2 rfl) fl_W_202 rfl e_x2 ?_
  refine zj_iconst o (zdd k_W_noneHere 3 rfl) zki_1 ?_
  refine zj_aload_n o (zdd k_W_noneHere 4 rfl) rfl 0 rfl ?_
  obtain ⟨a3, e_a3, h⟩ := zbd h
  refine zj_gP o (zdd k_W_noneHere 5 rfl) fl_W_16 rfl e_a3 ?_
  obtain ⟨x4, e_x4, h⟩ := zbd h
  refine zj_gI o (zdd k_W_noneHere 6 rfl) fl_W_127 rfl e_x4 ?_
  refine zj_ishl o (zdd k_W_noneHere 7 rfl) ?_
  refine zj_iconst o (zdd k_W_noneHere 8 rfl) zki_1 ?_
  refine zj_isub o (zdd k_W_noneHere 9 rfl) ?_
  refine zj_icmp_ne (tgt := 25) o (zdd k_W_noneHere 10 rfl) (by decide) (fun hc => ?_) (fun hc => ?_)
  · rw [if_neg hc] at h
    refine zj_iconst o (zdd k_W_noneHere 13 rfl) zki_0 ?_
    cases h
    exact zr_i o hr (zdd k_W_noneHere 14 rfl)
  · rw [if_pos hc] at h
    refine zj_iconst o (zdd k_W_noneHere 11 rfl) zki_1 ?_
    refine zj_goto (tgt := 26) o (zdd k_W_noneHere 12 rfl) (by decide) ?_
    cases h
    exact zr_i o hr (zdd k_W_noneHere 14 rfl)
def f_W_leads_66 (k66 : zSt → Nat → Int32 → Int32 → Int32 → Int32 → Option (Int32 × zSt)) (σ : zSt) (v0 : Nat) (v1 : Int32) (v2 : Int32) (v3 : Int32) (v4 : Int32) : Option (Int32 × zSt) :=
if v2 ≤ v4 then (
some (v3, σ)) else
if v3 = (-1) then (
some (v3, σ)) else
(zgP σ 11 v0 6).bind fun a1 =>
(zgP σ 11 v0 2).bind fun a2 =>
(f_N_bendBy σ a1 a2 v1 v3).bind fun σ3 =>
(zgP σ3 11 v0 9).bind fun a4 =>
(zgP σ3 11 v0 6).bind fun a5 =>
(zgP σ3 11 v0 6).bind fun a6 =>
(zgP σ3 4 a6 1).bind fun a7 =>
(zaI σ3 1 a7 v1).bind fun x8 =>
(f_S_weigh σ3 a4 a5 v1 x8).bind fun σ9 =>
(zgP σ9 11 v0 9).bind fun a10 =>
(f_S_firstOf σ9 a10 v1).bind fun x11 =>
k66 σ9 v0 v1 v2 x11 (v4 + 1)
set_option maxRecDepth 100000 in
set_option maxHeartbeats 4000000 in
theorem r_W_leads_66 {X : zCX} (o : zOK X "WantShelves" c_W_leads n_W_leads 7) {k66 : zSt → Nat → Int32 → Int32 → Int32 → Int32 → Option (Int32 × zSt)} (hk66 : ∀ {σ : zSt} {v0 : Nat} {v1 : Int32} {v2 : Int32} {v3 : Int32} {v4 : Int32} {z : Int32 × zSt}, k66 σ v0 v1 v2 v3 v4 = some z → zRX X 0 0 (some (.int z.1)) z.2 → zPJ X 0 0 66 [(0, .ref v0), (1, .int v1), (2, .int v2), (3, .int v3), (4, .int v4)] [] σ) {σ : zSt} {v0 : Nat} {v1 : Int32} {v2 : Int32} {v3 : Int32} {v4 : Int32} {z : Int32 × zSt} (h : f_W_leads_66 k66 σ v0 v1 v2 v3 v4 = some z) (hr : zRX X 0 0 (some (.int z.1)) z.2) : zPJ X 0 0 66 [(0, .ref v0), (1, .int v1), (2, .int v2), (3, .int v3), (4, .int v4)] [] σ := by
  unfold f_W_leads_66 at h
  refine zj_iload o (zdd k_W_leads 34 rfl) 4 rfl ?_
  refine zj_iload_n o (zdd k_W_leads 35 rfl) rfl 2 rfl ?_
  refine zj_icmp_ge (tgt := 126) o (zdd k_W_leads 36 rfl) (by decide) (fun hc => ?_) (fun hc => ?_)
  · rw [if_pos hc] at h
    refine zj_iload_n o (zdd k_W_leads 65 rfl) rfl 3 rfl ?_
    cases h
    exact zr_i o hr (zdd k_W_leads 66 rfl)
  · rw [if_neg hc] at h
    refine zj_iload_n o (zdd k_W_leads 37 rfl) rfl 3 rfl ?_
    refine zj_iconst o (zdd k_W_leads 38 rfl) zki_m1 ?_
    refine zj_icmp_eq (tgt := 126) o (zdd k_W_leads 39 rfl) (by decide) (fun hc => ?_) (fun hc => ?_)
    · rw [if_pos hc] at h
      refine zj_iload_n o (zdd k_W_leads 65 rfl) rfl 3 rfl ?_
      cases h
      exact zr_i o hr (zdd k_W_leads 66 rfl)
    · rw [if_neg hc] at h
      refine zj_aload_n o (zdd k_W_leads 40 rfl) rfl 0 rfl ?_
      obtain ⟨a1, e_a1, h⟩ := zbd h
      refine zj_gP o (zdd k_W_leads 41 rfl) fl_W_39 rfl e_a1 ?_
      refine zj_aload_n o (zdd k_W_leads 42 rfl) rfl 0 rfl ?_
      obtain ⟨a2, e_a2, h⟩ := zbd h
      refine zj_gP o (zdd k_W_leads 43 rfl) fl_W_16 rfl e_a2 ?_
      refine zj_iload_n o (zdd k_W_leads 44 rfl) rfl 1 rfl ?_
      refine zj_iload_n o (zdd k_W_leads 45 rfl) rfl 3 rfl ?_
      obtain ⟨σ3, e_σ3, h⟩ := zbd h
      refine zc_V o (zdd k_W_leads 46 rfl) ml_W_212 mv_N_bendBy ⟨rfl, by decide⟩ (zg_some e_σ3).1 (by decide) [.ref a2, .int v1, .int v3] [] rfl (Nat.le_of_ble_eq_true rfl) rfl (m_N_bendBy e_σ3) ?_
      change zPJ X 0 0 _ _ [] _
      refine zj_aload_n o (zdd k_W_leads 47 rfl) rfl 0 rfl ?_
      obtain ⟨a4, e_a4, h⟩ := zbd h
      refine zj_gP o (zdd k_W_leads 48 rfl) fl_W_56 rfl e_a4 ?_
      refine zj_aload_n o (zdd k_W_leads 49 rfl) rfl 0 rfl ?_
      obtain ⟨a5, e_a5, h⟩ := zbd h
      refine zj_gP o (zdd k_W_leads 50 rfl) fl_W_39 rfl e_a5 ?_
      refine zj_iload_n o (zdd k_W_leads 51 rfl) rfl 1 rfl ?_
      refine zj_aload_n o (zdd k_W_leads 52 rfl) rfl 0 rfl ?_
      obtain ⟨a6, e_a6, h⟩ := zbd h
      refine zj_gP o (zdd k_W_leads 53 rfl) fl_W_39 rfl e_a6 ?_
      obtain ⟨a7, e_a7, h⟩ := zbd h
      refine zj_gP o (zdd k_W_leads 54 rfl) fl_W_156 rfl e_a7 ?_
      refine zj_iload_n o (zdd k_W_leads 55 rfl) rfl 1 rfl ?_
      obtain ⟨x8, e_x8, h⟩ := zbd h
      refine zj_iald o (zdd k_W_leads 56 rfl) e_x8 ?_
      obtain ⟨σ9, e_σ9, h⟩ := zbd h
      refine zc_V o (zdd k_W_leads 57 rfl) ml_W_242 mv_S_weigh ⟨rfl, by decide⟩ (zg_some e_σ9).1 (by decide) [.ref a5, .int v1, .int x8] [] rfl (Nat.le_of_ble_eq_true rfl) rfl (m_S_weigh e_σ9) ?_
      change zPJ X 0 0 _ _ [] _
      refine zj_aload_n o (zdd k_W_leads 58 rfl) rfl 0 rfl ?_
      obtain ⟨a10, e_a10, h⟩ := zbd h
      refine zj_gP o (zdd k_W_leads 59 rfl) fl_W_56 rfl e_a10 ?_
      refine zj_iload_n o (zdd k_W_leads 60 rfl) rfl 1 rfl ?_
      obtain ⟨x11, e_x11, h⟩ := zbd h
      refine zc_V o (zdd k_W_leads 61 rfl) ml_W_258 mv_S_firstOf ⟨rfl, by decide⟩ (zg_some e_x11).1 (by decide) [.int v1] [] rfl (Nat.le_of_ble_eq_true rfl) rfl (m_S_firstOf e_x11) ?_
      change zPJ X 0 0 _ _ [.int x11] _
      refine zj_istore_n (loc' := [(3, .int x11), (0, .ref v0), (1, .int v1), (2, .int v2), (4, .int v4)]) o (zdd k_W_leads 62 rfl) rfl (by decide) rfl ?_
      refine zj_iinc (v := v4 + 1) (loc' := [(4, .int (v4 + 1)), (3, .int x11), (0, .ref v0), (1, .int v1), (2, .int v2)]) o (zdd k_W_leads 63 rfl) 4 rfl (by rw [zki_1]) (by decide) rfl ?_
      refine zj_goto (tgt := 66) o (zdd k_W_leads 64 rfl) (by decide) ?_
      exact zj_sub [2, 3, 4, 1, 0] rfl (hk66 h hr)
def f_W_leads_66L : Nat → zSt → Nat → Int32 → Int32 → Int32 → Int32 → Option (Int32 × zSt)
  | 0 => fun _ _ _ _ _ _ => none
  | n + 1 => f_W_leads_66  (f_W_leads_66L  n)
theorem r_W_leads_66L {X : zCX} (o : zOK X "WantShelves" c_W_leads n_W_leads 7) : ∀ (n : Nat) {σ : zSt} {v0 : Nat} {v1 : Int32} {v2 : Int32} {v3 : Int32} {v4 : Int32} {z : Int32 × zSt}, f_W_leads_66L n σ v0 v1 v2 v3 v4 = some z → zRX X 0 0 (some (.int z.1)) z.2 → zPJ X 0 0 66 [(0, .ref v0), (1, .int v1), (2, .int v2), (3, .int v3), (4, .int v4)] [] σ
  | 0 => fun h _ => by cases h
  | n + 1 => fun h hr => r_W_leads_66 o (r_W_leads_66L o  n) h hr
def f_W_leads (σ : zSt) (t : Nat) (p0 : Int32) (p1 : Int32) : Option (Int32 × zSt) :=
zg σ 11 t (
(f_W_isReader σ t p0).bind fun x1 =>
if x1 = 0 then (
some ((-1), σ)) else
if p1 < 1 then (
some ((-1), σ)) else
if 60 < p1 then (
some ((-1), σ)) else
(f_W_noneHere σ t).bind fun x2 =>
if x2 = 0 then (
(zgP σ 11 t 6).bind fun a3 =>
(zgP σ 11 t 5).bind fun a4 =>
(f_N_copy σ a3 a4).bind fun σ5 =>
(zgP σ5 11 t 9).bind fun a6 =>
(zgP σ5 11 t 2).bind fun a7 =>
(zgP σ5 11 t 6).bind fun a8 =>
(f_S_open σ5 a6 a7 a8).bind fun σ9 =>
(zgP σ9 11 t 9).bind fun a10 =>
(f_S_firstOf σ9 a10 p0).bind fun x11 =>
f_W_leads_66L zfu σ9 t p0 p1 x11 1) else
some ((-1), σ))
set_option maxRecDepth 100000 in
set_option maxHeartbeats 4000000 in
theorem m_W_leads {l : Launch} {b : Nat} {ex : Nat → Value} {D : va_G} {ca : Nat → ClassId} {σ : zSt} {t : Nat} {p0 : Int32} {p1 : Int32} {z : Int32 × zSt} (h : f_W_leads σ t p0 p1 = some z) : zMT l b ex D ca 7 y_W_leads c_W_leads n_W_leads r_ret_W_leads [.ref t, .int p0, .int p1] σ (some (.int z.1)) z.2 0 0 := by
  obtain ⟨_, hg0⟩ := zg_some h
  have h := hg0
  refine zmt_of (by decide) (Nat.le_of_ble_eq_true rfl) ⟨.int, rfl, rfl⟩ (fun X o hin hrm _ _ _ _ _ hr => ?_)
  have hr := hr 0 0 (by decide) (by decide)
  have o : zOK X "WantShelves" c_W_leads n_W_leads 7 := o
  change zPJ X 0 0 0 [(0, .ref t), (1, .int p0), (2, .int p1)] [] σ
  refine zj_aload_n o (zdd k_W_leads 0 rfl) rfl 0 rfl ?_
  refine zj_iload_n o (zdd k_W_leads 1 rfl) rfl 1 rfl ?_
  obtain ⟨x1, e_x1, h⟩ := zbd h
  refine zc_V o (zdd k_W_leads 2 rfl) ml_W_146 mv_W_isReader ⟨rfl, by decide⟩ (zg_some e_x1).1 (by decide) [.int p0] [] rfl (Nat.le_of_ble_eq_true rfl) rfl (m_W_isReader e_x1) ?_
  change zPJ X 0 0 _ _ [.int x1] _
  refine zj_if_eq (tgt := 26) o (zdd k_W_leads 3 rfl) (by decide) (fun hc => ?_) (fun hc => ?_)
  · rw [if_pos hc] at h
    refine zj_iconst o (zdd k_W_leads 13 rfl) zki_m1 ?_
    cases h
    exact zr_i o hr (zdd k_W_leads 14 rfl)
  · rw [if_neg hc] at h
    refine zj_iload_n o (zdd k_W_leads 4 rfl) rfl 2 rfl ?_
    refine zj_iconst o (zdd k_W_leads 5 rfl) zki_1 ?_
    refine zj_icmp_lt (tgt := 26) o (zdd k_W_leads 6 rfl) (by decide) (fun hc => ?_) (fun hc => ?_)
    · rw [if_pos hc] at h
      refine zj_iconst o (zdd k_W_leads 13 rfl) zki_m1 ?_
      cases h
      exact zr_i o hr (zdd k_W_leads 14 rfl)
    · rw [if_neg hc] at h
      refine zj_iload_n o (zdd k_W_leads 7 rfl) rfl 2 rfl ?_
      refine zj_bipush o (zdd k_W_leads 8 rfl) zkb_60 ?_
      refine zj_icmp_gt (tgt := 26) o (zdd k_W_leads 9 rfl) (by decide) (fun hc => ?_) (fun hc => ?_)
      · rw [if_pos hc] at h
        refine zj_iconst o (zdd k_W_leads 13 rfl) zki_m1 ?_
        cases h
        exact zr_i o hr (zdd k_W_leads 14 rfl)
      · rw [if_neg hc] at h
        refine zj_aload_n o (zdd k_W_leads 10 rfl) rfl 0 rfl ?_
        obtain ⟨x2, e_x2, h⟩ := zbd h
        refine zc_V o (zdd k_W_leads 11 rfl) ml_W_250 mv_W_noneHere ⟨rfl, by decide⟩ (zg_some e_x2).1 (by decide) [] [] rfl (Nat.le_of_ble_eq_true rfl) rfl (m_W_noneHere e_x2) ?_
        change zPJ X 0 0 _ _ [.int x2] _
        refine zj_if_eq (tgt := 28) o (zdd k_W_leads 12 rfl) (by decide) (fun hc => ?_) (fun hc => ?_)
        · rw [if_pos hc] at h
          refine zj_aload_n o (zdd k_W_leads 15 rfl) rfl 0 rfl ?_
          obtain ⟨a3, e_a3, h⟩ := zbd h
          refine zj_gP o (zdd k_W_leads 16 rfl) fl_W_39 rfl e_a3 ?_
          refine zj_aload_n o (zdd k_W_leads 17 rfl) rfl 0 rfl ?_
          obtain ⟨a4, e_a4, h⟩ := zbd h
          refine zj_gP o (zdd k_W_leads 18 rfl) fl_W_35 rfl e_a4 ?_
          obtain ⟨σ5, e_σ5, h⟩ := zbd h
          refine zc_V o (zdd k_W_leads 19 rfl) ml_W_254 mv_N_copy ⟨rfl, by decide⟩ (zg_some e_σ5).1 (by decide) [.ref a4] [] rfl (Nat.le_of_ble_eq_true rfl) rfl (m_N_copy e_σ5) ?_
          change zPJ X 0 0 _ _ [] _
          refine zj_aload_n o (zdd k_W_leads 20 rfl) rfl 0 rfl ?_
          obtain ⟨a6, e_a6, h⟩ := zbd h
          refine zj_gP o (zdd k_W_leads 21 rfl) fl_W_56 rfl e_a6 ?_
          refine zj_aload_n o (zdd k_W_leads 22 rfl) rfl 0 rfl ?_
          obtain ⟨a7, e_a7, h⟩ := zbd h
          refine zj_gP o (zdd k_W_leads 23 rfl) fl_W_16 rfl e_a7 ?_
          refine zj_aload_n o (zdd k_W_leads 24 rfl) rfl 0 rfl ?_
          obtain ⟨a8, e_a8, h⟩ := zbd h
          refine zj_gP o (zdd k_W_leads 25 rfl) fl_W_39 rfl e_a8 ?_
          obtain ⟨σ9, e_σ9, h⟩ := zbd h
          refine zc_V o (zdd k_W_leads 26 rfl) ml_W_166 mv_S_open ⟨rfl, by decide⟩ (zg_some e_σ9).1 (by decide) [.ref a7, .ref a8] [] rfl (Nat.le_of_ble_eq_true rfl) rfl (m_S_open e_σ9) ?_
          change zPJ X 0 0 _ _ [] _
          refine zj_aload_n o (zdd k_W_leads 27 rfl) rfl 0 rfl ?_
          obtain ⟨a10, e_a10, h⟩ := zbd h
          refine zj_gP o (zdd k_W_leads 28 rfl) fl_W_56 rfl e_a10 ?_
          refine zj_iload_n o (zdd k_W_leads 29 rfl) rfl 1 rfl ?_
          obtain ⟨x11, e_x11, h⟩ := zbd h
          refine zc_V o (zdd k_W_leads 30 rfl) ml_W_258 mv_S_firstOf ⟨rfl, by decide⟩ (zg_some e_x11).1 (by decide) [.int p0] [] rfl (Nat.le_of_ble_eq_true rfl) rfl (m_S_firstOf e_x11) ?_
          change zPJ X 0 0 _ _ [.int x11] _
          refine zj_istore_n (loc' := [(3, .int x11), (0, .ref t), (1, .int p0), (2, .int p1)]) o (zdd k_W_leads 31 rfl) rfl (by decide) rfl ?_
          refine zj_iconst o (zdd k_W_leads 32 rfl) zki_1 ?_
          refine zj_istore (loc' := [(4, .int 1), (3, .int x11), (0, .ref t), (1, .int p0), (2, .int p1)]) o (zdd k_W_leads 33 rfl) (by decide) rfl ?_
          exact zj_sub [2, 3, 4, 1, 0] rfl (r_W_leads_66L o  zfu h hr)
        · rw [if_neg hc] at h
          refine zj_iconst o (zdd k_W_leads 13 rfl) zki_m1 ?_
          cases h
          exact zr_i o hr (zdd k_W_leads 14 rfl)
def f_W_layDownRow_2 (k2 : zSt → Nat → Nat → Int32 → Int32 → Option (zSt)) (σ : zSt) (v0 : Nat) (v1 : Nat) (v2 : Int32) (v3 : Int32) : Option (zSt) :=
(zgP σ 11 v0 2).bind fun a1 =>
(zgI σ 10 a1 0).bind fun x2 =>
if x2 ≤ v3 then (
some σ) else
(f_R_cell σ v1 v2 v3).bind fun x3 =>
(f_W_layDown σ v0 x3).bind fun σ4 =>
k2 σ4 v0 v1 v2 (v3 + 1)
set_option maxRecDepth 100000 in
set_option maxHeartbeats 4000000 in
theorem r_W_layDownRow_2 {X : zCX} (o : zOK X "WantShelves" c_W_layDownRow n_W_layDownRow 2) {k2 : zSt → Nat → Nat → Int32 → Int32 → Option (zSt)} (hk2 : ∀ {σ : zSt} {v0 : Nat} {v1 : Nat} {v2 : Int32} {v3 : Int32} {z : zSt}, k2 σ v0 v1 v2 v3 = some z → zRX X 0 0 none z → zPJ X 0 0 2 [(0, .ref v0), (1, .ref v1), (2, .int v2), (3, .int v3)] [] σ) {σ : zSt} {v0 : Nat} {v1 : Nat} {v2 : Int32} {v3 : Int32} {z : zSt} (h : f_W_layDownRow_2 k2 σ v0 v1 v2 v3 = some z) (hr : zRX X 0 0 none z) : zPJ X 0 0 2 [(0, .ref v0), (1, .ref v1), (2, .int v2), (3, .int v3)] [] σ := by
  unfold f_W_layDownRow_2 at h
  refine zj_iload_n o (zdd k_W_layDownRow 2 rfl) rfl 3 rfl ?_
  refine zj_aload_n o (zdd k_W_layDownRow 3 rfl) rfl 0 rfl ?_
  obtain ⟨a1, e_a1, h⟩ := zbd h
  refine zj_gP o (zdd k_W_layDownRow 4 rfl) fl_W_16 rfl e_a1 ?_
  obtain ⟨x2, e_x2, h⟩ := zbd h
  refine zj_gI o (zdd k_W_layDownRow 5 rfl) fl_W_239 rfl e_x2 ?_
  refine zj_icmp_ge (tgt := 29) o (zdd k_W_layDownRow 6 rfl) (by decide) (fun hc => ?_) (fun hc => ?_)
  · rw [if_pos hc] at h
    cases h
    exact zr_v o hr (zdd k_W_layDownRow 15 rfl)
  · rw [if_neg hc] at h
    refine zj_aload_n o (zdd k_W_layDownRow 7 rfl) rfl 0 rfl ?_
    refine zj_aload_n o (zdd k_W_layDownRow 8 rfl) rfl 1 rfl ?_
    refine zj_iload_n o (zdd k_W_layDownRow 9 rfl) rfl 2 rfl ?_
    refine zj_iload_n o (zdd k_W_layDownRow 10 rfl) rfl 3 rfl ?_
    obtain ⟨x3, e_x3, h⟩ := zbd h
    refine zc_V o (zdd k_W_layDownRow 11 rfl) ml_W_366 mv_R_cell ⟨rfl, by decide⟩ (zg_some e_x3).1 (by decide) [.int v2, .int v3] [.ref v0] rfl (Nat.le_of_ble_eq_true rfl) rfl (m_R_cell e_x3) ?_
    change zPJ X 0 0 _ _ [.int x3, .ref v0] _
    obtain ⟨σ4, e_σ4, h⟩ := zbd h
    refine zc_V o (zdd k_W_layDownRow 12 rfl) ml_W_228 mv_W_layDown ⟨rfl, by decide⟩ (zg_some e_σ4).1 (by decide) [.int x3] [] rfl (Nat.le_of_ble_eq_true rfl) rfl (m_W_layDown e_σ4) ?_
    change zPJ X 0 0 _ _ [] _
    refine zj_iinc (v := v3 + 1) (loc' := [(3, .int (v3 + 1)), (0, .ref v0), (1, .ref v1), (2, .int v2)]) o (zdd k_W_layDownRow 13 rfl) 3 rfl (by rw [zki_1]) (by decide) rfl ?_
    refine zj_goto (tgt := 2) o (zdd k_W_layDownRow 14 rfl) (by decide) ?_
    exact zj_sub [1, 2, 3, 0] rfl (hk2 h hr)
def f_W_layDownRow_2L : Nat → zSt → Nat → Nat → Int32 → Int32 → Option (zSt)
  | 0 => fun _ _ _ _ _ => none
  | n + 1 => f_W_layDownRow_2  (f_W_layDownRow_2L  n)
theorem r_W_layDownRow_2L {X : zCX} (o : zOK X "WantShelves" c_W_layDownRow n_W_layDownRow 2) : ∀ (n : Nat) {σ : zSt} {v0 : Nat} {v1 : Nat} {v2 : Int32} {v3 : Int32} {z : zSt}, f_W_layDownRow_2L n σ v0 v1 v2 v3 = some z → zRX X 0 0 none z → zPJ X 0 0 2 [(0, .ref v0), (1, .ref v1), (2, .int v2), (3, .int v3)] [] σ
  | 0 => fun h _ => by cases h
  | n + 1 => fun h hr => r_W_layDownRow_2 o (r_W_layDownRow_2L o  n) h hr
def f_W_layDownRow (σ : zSt) (t : Nat) (p0 : Nat) (p1 : Int32) : Option (zSt) :=
zg σ 11 t (
f_W_layDownRow_2L zfu σ t p0 p1 0)
set_option maxRecDepth 100000 in
set_option maxHeartbeats 4000000 in
theorem m_W_layDownRow {l : Launch} {b : Nat} {ex : Nat → Value} {D : va_G} {ca : Nat → ClassId} {σ : zSt} {t : Nat} {p0 : Nat} {p1 : Int32} {z : zSt} (h : f_W_layDownRow σ t p0 p1 = some z) : zMT l b ex D ca 2 y_W_layDownRow c_W_layDownRow n_W_layDownRow r_ret_W_layDownRow [.ref t, .ref p0, .int p1] σ none z 0 0 := by
  obtain ⟨_, hg0⟩ := zg_some h
  have h := hg0
  refine zmt_of (by decide) (Nat.le_of_ble_eq_true rfl) rfl (fun X o hin hrm _ _ _ _ _ hr => ?_)
  have hr := hr 0 0 (by decide) (by decide)
  have o : zOK X "WantShelves" c_W_layDownRow n_W_layDownRow 2 := o
  change zPJ X 0 0 0 [(0, .ref t), (1, .ref p0), (2, .int p1)] [] σ
  refine zj_iconst o (zdd k_W_layDownRow 0 rfl) zki_0 ?_
  refine zj_istore_n (loc' := [(3, .int 0), (0, .ref t), (1, .ref p0), (2, .int p1)]) o (zdd k_W_layDownRow 1 rfl) rfl (by decide) rfl ?_
  exact zj_sub [1, 2, 3, 0] rfl (r_W_layDownRow_2L o  zfu h hr)
def f_W_hide (σ : zSt) (t : Nat) (p0 : Int32) (p1 : Int32) (p2 : Int32) (p3 : Int32) : Option (Int32 × zSt) :=
zg σ 11 t (
(zsI σ 11 t 18 0).bind fun σ1 =>
(f_W_isReader σ1 t p0).bind fun x2 =>
if x2 = 0 then (
some ((-1), σ1)) else
(f_W_isHere σ1 t p1).bind fun x3 =>
if x3 = 0 then (
some ((-1), σ1)) else
if p2 < 0 then (
some ((-1), σ1)) else
if 10 ≤ p2 then (
some ((-1), σ1)) else
(f_R_canBe p3).bind fun x4 =>
if x4 = 0 then (
some ((-1), σ1)) else
(zgP σ1 11 t 9).bind fun a5 =>
(zgP σ1 11 t 2).bind fun a6 =>
(zgP σ1 11 t 5).bind fun a7 =>
(f_S_open σ1 a5 a6 a7).bind fun σ8 =>
(zgP σ8 11 t 10).bind fun a9 =>
(zgP σ8 11 t 9).bind fun a10 =>
(zgP σ8 11 t 5).bind fun a11 =>
(f_R_fill σ8 a9 a10 a11 p0 p3).bind fun σ12 =>
(zgP σ12 11 t 12).bind fun a13 =>
(zgP σ12 11 t 9).bind fun a14 =>
(zgP σ12 11 t 10).bind fun a15 =>
(f_O_collect σ12 a13 a14 a15 p0).bind fun σ16 =>
(zgP σ16 11 t 12).bind fun a17 =>
(f_O_mostHad σ16 a17 p1 p2).bind fun x18 =>
if x18 = (-1) then (
some ((-1), σ16)) else
(zgP σ16 11 t 10).bind fun a19 =>
(zgP σ16 11 t 12).bind fun a20 =>
(f_O_firstRow σ16 a20 x18).bind fun x21 =>
(f_W_layDownRow σ16 t a19 x21).bind fun σ22 =>
(zgP σ22 11 t 12).bind fun a23 =>
(f_O_howMany σ22 a23 x18).bind fun x24 =>
some (x24, σ22))
set_option maxRecDepth 100000 in
set_option maxHeartbeats 4000000 in
theorem m_W_hide {l : Launch} {b : Nat} {ex : Nat → Value} {D : va_G} {ca : Nat → ClassId} {σ : zSt} {t : Nat} {p0 : Int32} {p1 : Int32} {p2 : Int32} {p3 : Int32} {z : Int32 × zSt} (h : f_W_hide σ t p0 p1 p2 p3 = some z) : zMT l b ex D ca 7 y_W_hide c_W_hide n_W_hide r_ret_W_hide [.ref t, .int p0, .int p1, .int p2, .int p3] σ (some (.int z.1)) z.2 0 0 := by
  obtain ⟨_, hg0⟩ := zg_some h
  have h := hg0
  refine zmt_of (by decide) (Nat.le_of_ble_eq_true rfl) ⟨.int, rfl, rfl⟩ (fun X o hin hrm _ _ _ _ _ hr => ?_)
  have hr := hr 0 0 (by decide) (by decide)
  have o : zOK X "WantShelves" c_W_hide n_W_hide 7 := o
  change zPJ X 0 0 0 [(0, .ref t), (1, .int p0), (2, .int p1), (3, .int p2), (4, .int p3)] [] σ
  refine zj_aload_n o (zdd k_W_hide 0 rfl) rfl 0 rfl ?_
  refine zj_iconst o (zdd k_W_hide 1 rfl) zki_0 ?_
  obtain ⟨σ1, e_σ1, h⟩ := zbd h
  refine zj_pI o (zdd k_W_hide 2 rfl) fl_W_124 rfl rfl e_σ1 ?_
  refine zj_aload_n o (zdd k_W_hide 3 rfl) rfl 0 rfl ?_
  refine zj_iload_n o (zdd k_W_hide 4 rfl) rfl 1 rfl ?_
  obtain ⟨x2, e_x2, h⟩ := zbd h
  refine zc_V o (zdd k_W_hide 5 rfl) ml_W_146 mv_W_isReader ⟨rfl, by decide⟩ (zg_some e_x2).1 (by decide) [.int p0] [] rfl (Nat.le_of_ble_eq_true rfl) rfl (m_W_isReader e_x2) ?_
  change zPJ X 0 0 _ _ [.int x2] _
  refine zj_if_eq (tgt := 39) o (zdd k_W_hide 6 rfl) (by decide) (fun hc => ?_) (fun hc => ?_)
  · rw [if_pos hc] at h
    refine zj_iconst o (zdd k_W_hide 19 rfl) zki_m1 ?_
    cases h
    exact zr_i o hr (zdd k_W_hide 20 rfl)
  · rw [if_neg hc] at h
    refine zj_aload_n o (zdd k_W_hide 7 rfl) rfl 0 rfl ?_
    refine zj_iload_n o (zdd k_W_hide 8 rfl) rfl 2 rfl ?_
    obtain ⟨x3, e_x3, h⟩ := zbd h
    refine zc_V o (zdd k_W_hide 9 rfl) ml_W_177 mv_W_isHere ⟨rfl, by decide⟩ (zg_some e_x3).1 (by decide) [.int p1] [] rfl (Nat.le_of_ble_eq_true rfl) rfl (m_W_isHere e_x3) ?_
    change zPJ X 0 0 _ _ [.int x3] _
    refine zj_if_eq (tgt := 39) o (zdd k_W_hide 10 rfl) (by decide) (fun hc => ?_) (fun hc => ?_)
    · rw [if_pos hc] at h
      refine zj_iconst o (zdd k_W_hide 19 rfl) zki_m1 ?_
      cases h
      exact zr_i o hr (zdd k_W_hide 20 rfl)
    · rw [if_neg hc] at h
      refine zj_iload_n o (zdd k_W_hide 11 rfl) rfl 3 rfl ?_
      refine zj_if_lt (tgt := 39) o (zdd k_W_hide 12 rfl) (by decide) (fun hc => ?_) (fun hc => ?_)
      · rw [if_pos hc] at h
        refine zj_iconst o (zdd k_W_hide 19 rfl) zki_m1 ?_
        cases h
        exact zr_i o hr (zdd k_W_hide 20 rfl)
      · rw [if_neg hc] at h
        refine zj_iload_n o (zdd k_W_hide 13 rfl) rfl 3 rfl ?_
        refine zj_bipush o (zdd k_W_hide 14 rfl) zkb_10 ?_
        refine zj_icmp_ge (tgt := 39) o (zdd k_W_hide 15 rfl) (by decide) (fun hc => ?_) (fun hc => ?_)
        · rw [if_pos hc] at h
          refine zj_iconst o (zdd k_W_hide 19 rfl) zki_m1 ?_
          cases h
          exact zr_i o hr (zdd k_W_hide 20 rfl)
        · rw [if_neg hc] at h
          refine zj_iload o (zdd k_W_hide 16 rfl) 4 rfl ?_
          obtain ⟨x4, e_x4, h⟩ := zbd h
          refine zc_S o (zdd k_W_hide 17 rfl) ml_W_261 ms_R_canBe (by decide) [.int p3] [] rfl (Nat.le_of_ble_eq_true rfl) rfl (m_R_canBe e_x4) ?_
          change zPJ X 0 0 _ _ [.int x4] _
          refine zj_if_ne (tgt := 41) o (zdd k_W_hide 18 rfl) (by decide) (fun hc => ?_) (fun hc => ?_)
          · rw [if_neg hc] at h
            refine zj_aload_n o (zdd k_W_hide 21 rfl) rfl 0 rfl ?_
            obtain ⟨a5, e_a5, h⟩ := zbd h
            refine zj_gP o (zdd k_W_hide 22 rfl) fl_W_56 rfl e_a5 ?_
            refine zj_aload_n o (zdd k_W_hide 23 rfl) rfl 0 rfl ?_
            obtain ⟨a6, e_a6, h⟩ := zbd h
            refine zj_gP o (zdd k_W_hide 24 rfl) fl_W_16 rfl e_a6 ?_
            refine zj_aload_n o (zdd k_W_hide 25 rfl) rfl 0 rfl ?_
            obtain ⟨a7, e_a7, h⟩ := zbd h
            refine zj_gP o (zdd k_W_hide 26 rfl) fl_W_35 rfl e_a7 ?_
            obtain ⟨σ8, e_σ8, h⟩ := zbd h
            refine zc_V o (zdd k_W_hide 27 rfl) ml_W_166 mv_S_open ⟨rfl, by decide⟩ (zg_some e_σ8).1 (by decide) [.ref a6, .ref a7] [] rfl (Nat.le_of_ble_eq_true rfl) rfl (m_S_open e_σ8) ?_
            change zPJ X 0 0 _ _ [] _
            refine zj_aload_n o (zdd k_W_hide 28 rfl) rfl 0 rfl ?_
            obtain ⟨a9, e_a9, h⟩ := zbd h
            refine zj_gP o (zdd k_W_hide 29 rfl) fl_W_63 rfl e_a9 ?_
            refine zj_aload_n o (zdd k_W_hide 30 rfl) rfl 0 rfl ?_
            obtain ⟨a10, e_a10, h⟩ := zbd h
            refine zj_gP o (zdd k_W_hide 31 rfl) fl_W_56 rfl e_a10 ?_
            refine zj_aload_n o (zdd k_W_hide 32 rfl) rfl 0 rfl ?_
            obtain ⟨a11, e_a11, h⟩ := zbd h
            refine zj_gP o (zdd k_W_hide 33 rfl) fl_W_35 rfl e_a11 ?_
            refine zj_iload_n o (zdd k_W_hide 34 rfl) rfl 1 rfl ?_
            refine zj_iload o (zdd k_W_hide 35 rfl) 4 rfl ?_
            obtain ⟨σ12, e_σ12, h⟩ := zbd h
            refine zc_V o (zdd k_W_hide 36 rfl) ml_W_264 mv_R_fill ⟨rfl, by decide⟩ (zg_some e_σ12).1 (by decide) [.ref a10, .ref a11, .int p0, .int p3] [] rfl (Nat.le_of_ble_eq_true rfl) rfl (m_R_fill e_σ12) ?_
            change zPJ X 0 0 _ _ [] _
            refine zj_aload_n o (zdd k_W_hide 37 rfl) rfl 0 rfl ?_
            obtain ⟨a13, e_a13, h⟩ := zbd h
            refine zj_gP o (zdd k_W_hide 38 rfl) fl_W_73 rfl e_a13 ?_
            refine zj_aload_n o (zdd k_W_hide 39 rfl) rfl 0 rfl ?_
            obtain ⟨a14, e_a14, h⟩ := zbd h
            refine zj_gP o (zdd k_W_hide 40 rfl) fl_W_56 rfl e_a14 ?_
            refine zj_aload_n o (zdd k_W_hide 41 rfl) rfl 0 rfl ?_
            obtain ⟨a15, e_a15, h⟩ := zbd h
            refine zj_gP o (zdd k_W_hide 42 rfl) fl_W_63 rfl e_a15 ?_
            refine zj_iload_n o (zdd k_W_hide 43 rfl) rfl 1 rfl ?_
            obtain ⟨σ16, e_σ16, h⟩ := zbd h
            refine zc_V o (zdd k_W_hide 44 rfl) ml_W_268 mv_O_collect ⟨rfl, by decide⟩ (zg_some e_σ16).1 (by decide) [.ref a14, .ref a15, .int p0] [] rfl (Nat.le_of_ble_eq_true rfl) rfl (m_O_collect e_σ16) ?_
            change zPJ X 0 0 _ _ [] _
            refine zj_aload_n o (zdd k_W_hide 45 rfl) rfl 0 rfl ?_
            obtain ⟨a17, e_a17, h⟩ := zbd h
            refine zj_gP o (zdd k_W_hide 46 rfl) fl_W_73 rfl e_a17 ?_
            refine zj_iload_n o (zdd k_W_hide 47 rfl) rfl 2 rfl ?_
            refine zj_iload_n o (zdd k_W_hide 48 rfl) rfl 3 rfl ?_
            obtain ⟨x18, e_x18, h⟩ := zbd h
            refine zc_V o (zdd k_W_hide 49 rfl) ml_W_272 mv_O_mostHad ⟨rfl, by decide⟩ (zg_some e_x18).1 (by decide) [.int p1, .int p2] [] rfl (Nat.le_of_ble_eq_true rfl) rfl (m_O_mostHad e_x18) ?_
            change zPJ X 0 0 _ _ [.int x18] _
            refine zj_istore (loc' := [(5, .int x18), (0, .ref t), (1, .int p0), (2, .int p1), (3, .int p2), (4, .int p3)]) o (zdd k_W_hide 50 rfl) (by decide) rfl ?_
            refine zj_iload o (zdd k_W_hide 51 rfl) 0 rfl ?_
            refine zj_iconst o (zdd k_W_hide 52 rfl) zki_m1 ?_
            refine zj_icmp_ne (tgt := 109) o (zdd k_W_hide 53 rfl) (by decide) (fun hc => ?_) (fun hc => ?_)
            · rw [if_neg hc] at h
              refine zj_aload_n o (zdd k_W_hide 56 rfl) rfl 1 rfl ?_
              refine zj_aload_n o (zdd k_W_hide 57 rfl) rfl 1 rfl ?_
              obtain ⟨a19, e_a19, h⟩ := zbd h
              refine zj_gP o (zdd k_W_hide 58 rfl) fl_W_63 rfl e_a19 ?_
              refine zj_aload_n o (zdd k_W_hide 59 rfl) rfl 1 rfl ?_
              obtain ⟨a20, e_a20, h⟩ := zbd h
              refine zj_gP o (zdd k_W_hide 60 rfl) fl_W_73 rfl e_a20 ?_
              refine zj_iload o (zdd k_W_hide 61 rfl) 0 rfl ?_
              obtain ⟨x21, e_x21, h⟩ := zbd h
              refine zc_V o (zdd k_W_hide 62 rfl) ml_W_275 mv_O_firstRow ⟨rfl, by decide⟩ (zg_some e_x21).1 (by decide) [.int x18] [.ref a19, .ref t] rfl (Nat.le_of_ble_eq_true rfl) rfl (m_O_firstRow e_x21) ?_
              change zPJ X 0 0 _ _ [.int x21, .ref a19, .ref t] _
              obtain ⟨σ22, e_σ22, h⟩ := zbd h
              refine zc_V o (zdd k_W_hide 63 rfl) ml_W_278 mv_W_layDownRow ⟨rfl, by decide⟩ (zg_some e_σ22).1 (by decide) [.ref a19, .int x21] [] rfl (Nat.le_of_ble_eq_true rfl) rfl (m_W_layDownRow e_σ22) ?_
              change zPJ X 0 0 _ _ [] _
              refine zj_aload_n o (zdd k_W_hide 64 rfl) rfl 1 rfl ?_
              obtain ⟨a23, e_a23, h⟩ := zbd h
              refine zj_gP o (zdd k_W_hide 65 rfl) fl_W_73 rfl e_a23 ?_
              refine zj_iload o (zdd k_W_hide 66 rfl) 0 rfl ?_
              obtain ⟨x24, e_x24, h⟩ := zbd h
              refine zc_V o (zdd k_W_hide 67 rfl) ml_W_282 mv_O_howMany ⟨rfl, by decide⟩ (zg_some e_x24).1 (by decide) [.int x18] [] rfl (Nat.le_of_ble_eq_true rfl) rfl (m_O_howMany e_x24) ?_
              change zPJ X 0 0 _ _ [.int x24] _
              cases h
              exact zr_i o hr (zdd k_W_hide 68 rfl)
            · rw [if_pos hc] at h
              refine zj_iconst o (zdd k_W_hide 54 rfl) zki_m1 ?_
              cases h
              exact zr_i o hr (zdd k_W_hide 55 rfl)
          · rw [if_pos hc] at h
            refine zj_iconst o (zdd k_W_hide 19 rfl) zki_m1 ?_
            cases h
            exact zr_i o hr (zdd k_W_hide 20 rfl)
def f_W_canPretend (σ : zSt) (t : Nat) (p0 : Int32) (p1 : Int32) (p2 : Int32) : Option (Int32) :=
zg σ 11 t (
((f_W_isReader σ t p0).bind fun x1 =>
if x1 = 0 then (
some 0) else
(f_W_isReader σ t p1).bind fun x2 =>
if x2 = 0 then (
some 0) else
if p0 = p1 then (
some 0) else
(f_R_canBe p2).bind fun x3 =>
if x3 = 0 then (
some 0) else
(f_W_noneHere σ t).bind fun x4 =>
if x4 = 0 then (
some 1) else
some 0).bind zbool)
set_option maxRecDepth 100000 in
set_option maxHeartbeats 4000000 in
theorem m_W_canPretend {l : Launch} {b : Nat} {ex : Nat → Value} {D : va_G} {ca : Nat → ClassId} {σ : zSt} {t : Nat} {p0 : Int32} {p1 : Int32} {p2 : Int32} {z : Int32} (h : f_W_canPretend σ t p0 p1 p2 = some z) : zMT l b ex D ca 2 y_W_canPretend c_W_canPretend n_W_canPretend r_ret_W_canPretend [.ref t, .int p0, .int p1, .int p2] σ (some (.int z)) σ 0 0 := by
  obtain ⟨_, hg0⟩ := zg_some h
  obtain ⟨z0, hbd, hz⟩ := zbd hg0
  obtain ⟨hzb, rfl⟩ := zbool_some hz
  have h := hbd
  refine zmt_of (by decide) (Nat.le_of_ble_eq_true rfl) ⟨.boolean, rfl, zb_nar hzb⟩ (fun X o hin hrm _ _ _ _ _ hr => ?_)
  have hr := hr 0 0 (by decide) (by decide)
  have o : zOK X "WantShelves" c_W_canPretend n_W_canPretend 2 := o
  change zPJ X 0 0 0 [(0, .ref t), (1, .int p0), (2, .int p1), (3, .int p2)] [] σ
  refine zj_aload_n o (zdd k_W_canPretend 0 rfl) rfl 0 rfl ?_
  refine zj_iload_n o (zdd k_W_canPretend 1 rfl) rfl 1 rfl ?_
  obtain ⟨x1, e_x1, h⟩ := zbd h
  refine zc_V o (zdd k_W_canPretend 2 rfl) ml_W_146 mv_W_isReader ⟨rfl, by decide⟩ (zg_some e_x1).1 (by decide) [.int p0] [] rfl (Nat.le_of_ble_eq_true rfl) rfl (m_W_isReader e_x1) ?_
  change zPJ X 0 0 _ _ [.int x1] _
  refine zj_if_eq (tgt := 39) o (zdd k_W_canPretend 3 rfl) (by decide) (fun hc => ?_) (fun hc => ?_)
  · rw [if_pos hc] at h
    refine zj_iconst o (zdd k_W_canPretend 19 rfl) zki_0 ?_
    cases h
    exact zr_i o hr (zdd k_W_canPretend 20 rfl)
  · rw [if_neg hc] at h
    refine zj_aload_n o (zdd k_W_canPretend 4 rfl) rfl 0 rfl ?_
    refine zj_iload_n o (zdd k_W_canPretend 5 rfl) rfl 2 rfl ?_
    obtain ⟨x2, e_x2, h⟩ := zbd h
    refine zc_V o (zdd k_W_canPretend 6 rfl) ml_W_146 mv_W_isReader ⟨rfl, by decide⟩ (zg_some e_x2).1 (by decide) [.int p1] [] rfl (Nat.le_of_ble_eq_true rfl) rfl (m_W_isReader e_x2) ?_
    change zPJ X 0 0 _ _ [.int x2] _
    refine zj_if_eq (tgt := 39) o (zdd k_W_canPretend 7 rfl) (by decide) (fun hc => ?_) (fun hc => ?_)
    · rw [if_pos hc] at h
      refine zj_iconst o (zdd k_W_canPretend 19 rfl) zki_0 ?_
      cases h
      exact zr_i o hr (zdd k_W_canPretend 20 rfl)
    · rw [if_neg hc] at h
      refine zj_iload_n o (zdd k_W_canPretend 8 rfl) rfl 1 rfl ?_
      refine zj_iload_n o (zdd k_W_canPretend 9 rfl) rfl 2 rfl ?_
      refine zj_icmp_eq (tgt := 39) o (zdd k_W_canPretend 10 rfl) (by decide) (fun hc => ?_) (fun hc => ?_)
      · rw [if_pos hc] at h
        refine zj_iconst o (zdd k_W_canPretend 19 rfl) zki_0 ?_
        cases h
        exact zr_i o hr (zdd k_W_canPretend 20 rfl)
      · rw [if_neg hc] at h
        refine zj_iload_n o (zdd k_W_canPretend 11 rfl) rfl 3 rfl ?_
        obtain ⟨x3, e_x3, h⟩ := zbd h
        refine zc_S o (zdd k_W_canPretend 12 rfl) ml_W_261 ms_R_canBe (by decide) [.int p2] [] rfl (Nat.le_of_ble_eq_true rfl) rfl (m_R_canBe e_x3) ?_
        change zPJ X 0 0 _ _ [.int x3] _
        refine zj_if_eq (tgt := 39) o (zdd k_W_canPretend 13 rfl) (by decide) (fun hc => ?_) (fun hc => ?_)
        · rw [if_pos hc] at h
          refine zj_iconst o (zdd k_W_canPretend 19 rfl) zki_0 ?_
          cases h
          exact zr_i o hr (zdd k_W_canPretend 20 rfl)
        · rw [if_neg hc] at h
          refine zj_aload_n o (zdd k_W_canPretend 14 rfl) rfl 0 rfl ?_
          obtain ⟨x4, e_x4, h⟩ := zbd h
          refine zc_V o (zdd k_W_canPretend 15 rfl) ml_W_250 mv_W_noneHere ⟨rfl, by decide⟩ (zg_some e_x4).1 (by decide) [] [] rfl (Nat.le_of_ble_eq_true rfl) rfl (m_W_noneHere e_x4) ?_
          change zPJ X 0 0 _ _ [.int x4] _
          refine zj_if_ne (tgt := 39) o (zdd k_W_canPretend 16 rfl) (by decide) (fun hc => ?_) (fun hc => ?_)
          · rw [if_neg hc] at h
            refine zj_iconst o (zdd k_W_canPretend 19 rfl) zki_0 ?_
            cases h
            exact zr_i o hr (zdd k_W_canPretend 20 rfl)
          · rw [if_pos hc] at h
            refine zj_iconst o (zdd k_W_canPretend 17 rfl) zki_1 ?_
            refine zj_goto (tgt := 40) o (zdd k_W_canPretend 18 rfl) (by decide) ?_
            cases h
            exact zr_i o hr (zdd k_W_canPretend 20 rfl)
def f_W_pretend (σ : zSt) (t : Nat) (p0 : Int32) (p1 : Int32) (p2 : Int32) : Option (Int32 × zSt) :=
zg σ 11 t (
(zsI σ 11 t 18 0).bind fun σ1 =>
(f_W_canPretend σ1 t p0 p1 p2).bind fun x2 =>
if x2 = 0 then (
some ((-1), σ1)) else
(zgP σ1 11 t 9).bind fun a3 =>
(zgP σ1 11 t 2).bind fun a4 =>
(zgP σ1 11 t 5).bind fun a5 =>
(f_S_open σ1 a3 a4 a5).bind fun σ6 =>
(zgP σ6 11 t 9).bind fun a7 =>
(f_S_firstOf σ6 a7 p0).bind fun x8 =>
(zgP σ6 11 t 9).bind fun a9 =>
(f_S_placeFor σ6 a9 ((1 <<< (p0 &&& 31)) ||| (1 <<< (p1 &&& 31))) x8).bind fun q10 =>
(zgP q10.2 11 t 10).bind fun a11 =>
(zgP q10.2 11 t 9).bind fun a12 =>
(zgP q10.2 11 t 5).bind fun a13 =>
(f_R_fill q10.2 a11 a12 a13 p0 p2).bind fun σ14 =>
(zgP σ14 11 t 10).bind fun a15 =>
(zgP σ14 11 t 9).bind fun a16 =>
(f_R_nearest σ14 a15 a16 ((1 <<< (p0 &&& 31)) ||| (1 <<< (p1 &&& 31))) x8).bind fun q17 =>
(zgP q17.2 11 t 9).bind fun a18 =>
(f_S_placeFor q17.2 a18 ((1 <<< (p0 &&& 31)) ||| (1 <<< (p1 &&& 31))) x8).bind fun q19 =>
if q19.1 < q10.1 then (
(zgP q19.2 11 t 10).bind fun a20 =>
(f_W_layDownRow q19.2 t a20 q17.1).bind fun σ21 =>
(zgP σ21 11 t 2).bind fun a22 =>
(f_D_stepsTo σ21 a22 q10.1).bind fun x23 =>
(zgP σ21 11 t 2).bind fun a24 =>
(f_D_stepsTo σ21 a24 q19.1).bind fun x25 =>
some (x23 - x25, σ21)) else
some (0, q19.2))
set_option maxRecDepth 100000 in
set_option maxHeartbeats 4000000 in
theorem m_W_pretend {l : Launch} {b : Nat} {ex : Nat → Value} {D : va_G} {ca : Nat → ClassId} {σ : zSt} {t : Nat} {p0 : Int32} {p1 : Int32} {p2 : Int32} {z : Int32 × zSt} (h : f_W_pretend σ t p0 p1 p2 = some z) : zMT l b ex D ca 7 y_W_pretend c_W_pretend n_W_pretend r_ret_W_pretend [.ref t, .int p0, .int p1, .int p2] σ (some (.int z.1)) z.2 0 0 := by
  obtain ⟨_, hg0⟩ := zg_some h
  have h := hg0
  refine zmt_of (by decide) (Nat.le_of_ble_eq_true rfl) ⟨.int, rfl, rfl⟩ (fun X o hin hrm _ _ _ _ _ hr => ?_)
  have hr := hr 0 0 (by decide) (by decide)
  have o : zOK X "WantShelves" c_W_pretend n_W_pretend 7 := o
  change zPJ X 0 0 0 [(0, .ref t), (1, .int p0), (2, .int p1), (3, .int p2)] [] σ
  refine zj_aload_n o (zdd k_W_pretend 0 rfl) rfl 0 rfl ?_
  refine zj_iconst o (zdd k_W_pretend 1 rfl) zki_0 ?_
  obtain ⟨σ1, e_σ1, h⟩ := zbd h
  refine zj_pI o (zdd k_W_pretend 2 rfl) fl_W_124 rfl rfl e_σ1 ?_
  refine zj_aload_n o (zdd k_W_pretend 3 rfl) rfl 0 rfl ?_
  refine zj_iload_n o (zdd k_W_pretend 4 rfl) rfl 1 rfl ?_
  refine zj_iload_n o (zdd k_W_pretend 5 rfl) rfl 2 rfl ?_
  refine zj_iload_n o (zdd k_W_pretend 6 rfl) rfl 3 rfl ?_
  obtain ⟨x2, e_x2, h⟩ := zbd h
  refine zc_V o (zdd k_W_pretend 7 rfl) ml_W_285 mv_W_canPretend ⟨rfl, by decide⟩ (zg_some e_x2).1 (by decide) [.int p0, .int p1, .int p2] [] rfl (Nat.le_of_ble_eq_true rfl) rfl (m_W_canPretend e_x2) ?_
  change zPJ X 0 0 _ _ [.int x2] _
  refine zj_if_ne (tgt := 17) o (zdd k_W_pretend 8 rfl) (by decide) (fun hc => ?_) (fun hc => ?_)
  · rw [if_neg hc] at h
    refine zj_aload_n o (zdd k_W_pretend 11 rfl) rfl 0 rfl ?_
    obtain ⟨a3, e_a3, h⟩ := zbd h
    refine zj_gP o (zdd k_W_pretend 12 rfl) fl_W_56 rfl e_a3 ?_
    refine zj_aload_n o (zdd k_W_pretend 13 rfl) rfl 0 rfl ?_
    obtain ⟨a4, e_a4, h⟩ := zbd h
    refine zj_gP o (zdd k_W_pretend 14 rfl) fl_W_16 rfl e_a4 ?_
    refine zj_aload_n o (zdd k_W_pretend 15 rfl) rfl 0 rfl ?_
    obtain ⟨a5, e_a5, h⟩ := zbd h
    refine zj_gP o (zdd k_W_pretend 16 rfl) fl_W_35 rfl e_a5 ?_
    obtain ⟨σ6, e_σ6, h⟩ := zbd h
    refine zc_V o (zdd k_W_pretend 17 rfl) ml_W_166 mv_S_open ⟨rfl, by decide⟩ (zg_some e_σ6).1 (by decide) [.ref a4, .ref a5] [] rfl (Nat.le_of_ble_eq_true rfl) rfl (m_S_open e_σ6) ?_
    change zPJ X 0 0 _ _ [] _
    refine zj_iconst o (zdd k_W_pretend 18 rfl) zki_1 ?_
    refine zj_iload_n o (zdd k_W_pretend 19 rfl) rfl 1 rfl ?_
    refine zj_ishl o (zdd k_W_pretend 20 rfl) ?_
    refine zj_iconst o (zdd k_W_pretend 21 rfl) zki_1 ?_
    refine zj_iload_n o (zdd k_W_pretend 22 rfl) rfl 2 rfl ?_
    refine zj_ishl o (zdd k_W_pretend 23 rfl) ?_
    refine zj_ior o (zdd k_W_pretend 24 rfl) ?_
    refine zj_istore (loc' := [(4, .int ((1 <<< (p0 &&& 31)) ||| (1 <<< (p1 &&& 31)))), (0, .ref t), (1, .int p0), (2, .int p1), (3, .int p2)]) o (zdd k_W_pretend 25 rfl) (by decide) rfl ?_
    refine zj_aload_n o (zdd k_W_pretend 26 rfl) rfl 1 rfl ?_
    obtain ⟨a7, e_a7, h⟩ := zbd h
    refine zj_gP o (zdd k_W_pretend 27 rfl) fl_W_56 rfl e_a7 ?_
    refine zj_iload_n o (zdd k_W_pretend 28 rfl) rfl 2 rfl ?_
    obtain ⟨x8, e_x8, h⟩ := zbd h
    refine zc_V o (zdd k_W_pretend 29 rfl) ml_W_258 mv_S_firstOf ⟨rfl, by decide⟩ (zg_some e_x8).1 (by decide) [.int p0] [] rfl (Nat.le_of_ble_eq_true rfl) rfl (m_S_firstOf e_x8) ?_
    change zPJ X 0 0 _ _ [.int x8] _
    refine zj_istore (loc' := [(5, .int x8), (4, .int ((1 <<< (p0 &&& 31)) ||| (1 <<< (p1 &&& 31)))), (0, .ref t), (1, .int p0), (2, .int p1), (3, .int p2)]) o (zdd k_W_pretend 30 rfl) (by decide) rfl ?_
    refine zj_aload_n o (zdd k_W_pretend 31 rfl) rfl 2 rfl ?_
    obtain ⟨a9, e_a9, h⟩ := zbd h
    refine zj_gP o (zdd k_W_pretend 32 rfl) fl_W_56 rfl e_a9 ?_
    refine zj_iload o (zdd k_W_pretend 33 rfl) 1 rfl ?_
    refine zj_iload o (zdd k_W_pretend 34 rfl) 0 rfl ?_
    obtain ⟨q10, e_q10, h⟩ := zbd h
    refine zc_V o (zdd k_W_pretend 35 rfl) ml_W_180 mv_S_placeFor ⟨rfl, by decide⟩ (zg_some e_q10).1 (by decide) [.int ((1 <<< (p0 &&& 31)) ||| (1 <<< (p1 &&& 31))), .int x8] [] rfl (Nat.le_of_ble_eq_true rfl) rfl (m_S_placeFor e_q10) ?_
    change zPJ X 0 0 _ _ [.int q10.1] _
    refine zj_istore (loc' := [(6, .int q10.1), (5, .int x8), (4, .int ((1 <<< (p0 &&& 31)) ||| (1 <<< (p1 &&& 31)))), (0, .ref t), (1, .int p0), (2, .int p1), (3, .int p2)]) o (zdd k_W_pretend 36 rfl) (by decide) rfl ?_
    refine zj_aload_n o (zdd k_W_pretend 37 rfl) rfl 3 rfl ?_
    obtain ⟨a11, e_a11, h⟩ := zbd h
    refine zj_gP o (zdd k_W_pretend 38 rfl) fl_W_63 rfl e_a11 ?_
    refine zj_aload_n o (zdd k_W_pretend 39 rfl) rfl 3 rfl ?_
    obtain ⟨a12, e_a12, h⟩ := zbd h
    refine zj_gP o (zdd k_W_pretend 40 rfl) fl_W_56 rfl e_a12 ?_
    refine zj_aload_n o (zdd k_W_pretend 41 rfl) rfl 3 rfl ?_
    obtain ⟨a13, e_a13, h⟩ := zbd h
    refine zj_gP o (zdd k_W_pretend 42 rfl) fl_W_35 rfl e_a13 ?_
    refine zj_iload_n o (zdd k_W_pretend 43 rfl) rfl 4 rfl ?_
    refine zj_iload_n o (zdd k_W_pretend 44 rfl) rfl 6 rfl ?_
    obtain ⟨σ14, e_σ14, h⟩ := zbd h
    refine zc_V o (zdd k_W_pretend 45 rfl) ml_W_264 mv_R_fill ⟨rfl, by decide⟩ (zg_some e_σ14).1 (by decide) [.ref a12, .ref a13, .int p0, .int p2] [] rfl (Nat.le_of_ble_eq_true rfl) rfl (m_R_fill e_σ14) ?_
    change zPJ X 0 0 _ _ [] _
    refine zj_aload_n o (zdd k_W_pretend 46 rfl) rfl 3 rfl ?_
    obtain ⟨a15, e_a15, h⟩ := zbd h
    refine zj_gP o (zdd k_W_pretend 47 rfl) fl_W_63 rfl e_a15 ?_
    refine zj_aload_n o (zdd k_W_pretend 48 rfl) rfl 3 rfl ?_
    obtain ⟨a16, e_a16, h⟩ := zbd h
    refine zj_gP o (zdd k_W_pretend 49 rfl) fl_W_56 rfl e_a16 ?_
    refine zj_iload o (zdd k_W_pretend 50 rfl) 2 rfl ?_
    refine zj_iload o (zdd k_W_pretend 51 rfl) 1 rfl ?_
    obtain ⟨q17, e_q17, h⟩ := zbd h
    refine zc_V o (zdd k_W_pretend 52 rfl) ml_W_288 mv_R_nearest ⟨rfl, by decide⟩ (zg_some e_q17).1 (by decide) [.ref a16, .int ((1 <<< (p0 &&& 31)) ||| (1 <<< (p1 &&& 31))), .int x8] [] rfl (Nat.le_of_ble_eq_true rfl) rfl (m_R_nearest e_q17) ?_
    change zPJ X 0 0 _ _ [.int q17.1] _
    refine zj_istore (loc' := [(7, .int q17.1), (6, .int q10.1), (5, .int x8), (4, .int ((1 <<< (p0 &&& 31)) ||| (1 <<< (p1 &&& 31)))), (0, .ref t), (1, .int p0), (2, .int p1), (3, .int p2)]) o (zdd k_W_pretend 53 rfl) (by decide) rfl ?_
    refine zj_aload_n o (zdd k_W_pretend 54 rfl) rfl 4 rfl ?_
    obtain ⟨a18, e_a18, h⟩ := zbd h
    refine zj_gP o (zdd k_W_pretend 55 rfl) fl_W_56 rfl e_a18 ?_
    refine zj_iload o (zdd k_W_pretend 56 rfl) 3 rfl ?_
    refine zj_iload o (zdd k_W_pretend 57 rfl) 2 rfl ?_
    obtain ⟨q19, e_q19, h⟩ := zbd h
    refine zc_V o (zdd k_W_pretend 58 rfl) ml_W_180 mv_S_placeFor ⟨rfl, by decide⟩ (zg_some e_q19).1 (by decide) [.int ((1 <<< (p0 &&& 31)) ||| (1 <<< (p1 &&& 31))), .int x8] [] rfl (Nat.le_of_ble_eq_true rfl) rfl (m_S_placeFor e_q19) ?_
    change zPJ X 0 0 _ _ [.int q19.1] _
    refine zj_istore (loc' := [(8, .int q19.1), (7, .int q17.1), (6, .int q10.1), (5, .int x8), (4, .int ((1 <<< (p0 &&& 31)) ||| (1 <<< (p1 &&& 31)))), (0, .ref t), (1, .int p0), (2, .int p1), (3, .int p2)]) o (zdd k_W_pretend 59 rfl) (by decide) rfl ?_
    refine zj_iload o (zdd k_W_pretend 60 rfl) 0 rfl ?_
    refine zj_iload o (zdd k_W_pretend 61 rfl) 2 rfl ?_
    refine zj_icmp_lt (tgt := 120) o (zdd k_W_pretend 62 rfl) (by decide) (fun hc => ?_) (fun hc => ?_)
    · rw [if_pos hc] at h
      refine zj_aload_n o (zdd k_W_pretend 65 rfl) rfl 5 rfl ?_
      refine zj_aload_n o (zdd k_W_pretend 66 rfl) rfl 5 rfl ?_
      obtain ⟨a20, e_a20, h⟩ := zbd h
      refine zj_gP o (zdd k_W_pretend 67 rfl) fl_W_63 rfl e_a20 ?_
      refine zj_iload o (zdd k_W_pretend 68 rfl) 1 rfl ?_
      obtain ⟨σ21, e_σ21, h⟩ := zbd h
      refine zc_V o (zdd k_W_pretend 69 rfl) ml_W_278 mv_W_layDownRow ⟨rfl, by decide⟩ (zg_some e_σ21).1 (by decide) [.ref a20, .int q17.1] [] rfl (Nat.le_of_ble_eq_true rfl) rfl (m_W_layDownRow e_σ21) ?_
      change zPJ X 0 0 _ _ [] _
      refine zj_aload_n o (zdd k_W_pretend 70 rfl) rfl 5 rfl ?_
      obtain ⟨a22, e_a22, h⟩ := zbd h
      refine zj_gP o (zdd k_W_pretend 71 rfl) fl_W_16 rfl e_a22 ?_
      refine zj_iload o (zdd k_W_pretend 72 rfl) 2 rfl ?_
      obtain ⟨x23, e_x23, h⟩ := zbd h
      refine zc_V o (zdd k_W_pretend 73 rfl) ml_W_189 mv_D_stepsTo ⟨rfl, by decide⟩ (zg_some e_x23).1 (by decide) [.int q10.1] [] rfl (Nat.le_of_ble_eq_true rfl) rfl (m_D_stepsTo e_x23) ?_
      change zPJ X 0 0 _ _ [.int x23] _
      refine zj_aload_n o (zdd k_W_pretend 74 rfl) rfl 5 rfl ?_
      obtain ⟨a24, e_a24, h⟩ := zbd h
      refine zj_gP o (zdd k_W_pretend 75 rfl) fl_W_16 rfl e_a24 ?_
      refine zj_iload o (zdd k_W_pretend 76 rfl) 0 rfl ?_
      obtain ⟨x25, e_x25, h⟩ := zbd h
      refine zc_V o (zdd k_W_pretend 77 rfl) ml_W_189 mv_D_stepsTo ⟨rfl, by decide⟩ (zg_some e_x25).1 (by decide) [.int q19.1] [.int x23] rfl (Nat.le_of_ble_eq_true rfl) rfl (m_D_stepsTo e_x25) ?_
      change zPJ X 0 0 _ _ [.int x25, .int x23] _
      refine zj_isub o (zdd k_W_pretend 78 rfl) ?_
      cases h
      exact zr_i o hr (zdd k_W_pretend 79 rfl)
    · rw [if_neg hc] at h
      refine zj_iconst o (zdd k_W_pretend 63 rfl) zki_0 ?_
      cases h
      exact zr_i o hr (zdd k_W_pretend 64 rfl)
  · rw [if_pos hc] at h
    refine zj_iconst o (zdd k_W_pretend 9 rfl) zki_m1 ?_
    cases h
    exact zr_i o hr (zdd k_W_pretend 10 rfl)
def f_W_layDownWants_20 (k20 : zSt → Nat → Int32 → Int32 → Option (zSt)) (σ : zSt) (v0 : Nat) (v2 : Int32) (v3 : Int32) : Option (zSt) :=
(zgP σ 11 v0 2).bind fun a1 =>
(zgI σ 10 a1 0).bind fun x2 =>
if x2 ≤ v3 then (
some σ) else
(zgP σ 11 v0 5).bind fun a3 =>
(zgP σ 4 a3 0).bind fun a4 =>
(zaI σ 1 a4 ((v2 * 4) + v3)).bind fun x5 =>
(f_W_layDown σ v0 x5).bind fun σ6 =>
k20 σ6 v0 v2 (v3 + 1)
set_option maxRecDepth 100000 in
set_option maxHeartbeats 4000000 in
theorem r_W_layDownWants_20 {X : zCX} (o : zOK X "WantShelves" c_W_layDownWants n_W_layDownWants 3) {k20 : zSt → Nat → Int32 → Int32 → Option (zSt)} (hk20 : ∀ {σ : zSt} {v0 : Nat} {v2 : Int32} {v3 : Int32} {z : zSt}, k20 σ v0 v2 v3 = some z → zRX X 0 0 none z → zPJ X 0 0 20 [(0, .ref v0), (2, .int v2), (3, .int v3)] [] σ) {σ : zSt} {v0 : Nat} {v2 : Int32} {v3 : Int32} {z : zSt} (h : f_W_layDownWants_20 k20 σ v0 v2 v3 = some z) (hr : zRX X 0 0 none z) : zPJ X 0 0 20 [(0, .ref v0), (2, .int v2), (3, .int v3)] [] σ := by
  unfold f_W_layDownWants_20 at h
  refine zj_iload_n o (zdd k_W_layDownWants 12 rfl) rfl 2 rfl ?_
  refine zj_aload_n o (zdd k_W_layDownWants 13 rfl) rfl 0 rfl ?_
  obtain ⟨a1, e_a1, h⟩ := zbd h
  refine zj_gP o (zdd k_W_layDownWants 14 rfl) fl_W_16 rfl e_a1 ?_
  obtain ⟨x2, e_x2, h⟩ := zbd h
  refine zj_gI o (zdd k_W_layDownWants 15 rfl) fl_W_239 rfl e_x2 ?_
  refine zj_icmp_ge (tgt := 54) o (zdd k_W_layDownWants 16 rfl) (by decide) (fun hc => ?_) (fun hc => ?_)
  · rw [if_pos hc] at h
    cases h
    exact zr_v o hr (zdd k_W_layDownWants 30 rfl)
  · rw [if_neg hc] at h
    refine zj_aload_n o (zdd k_W_layDownWants 17 rfl) rfl 0 rfl ?_
    refine zj_aload_n o (zdd k_W_layDownWants 18 rfl) rfl 0 rfl ?_
    obtain ⟨a3, e_a3, h⟩ := zbd h
    refine zj_gP o (zdd k_W_layDownWants 19 rfl) fl_W_35 rfl e_a3 ?_
    obtain ⟨a4, e_a4, h⟩ := zbd h
    refine zj_gP o (zdd k_W_layDownWants 20 rfl) fl_W_149 rfl e_a4 ?_
    refine zj_iload_n o (zdd k_W_layDownWants 21 rfl) rfl 1 rfl ?_
    refine zj_iconst o (zdd k_W_layDownWants 22 rfl) zki_4 ?_
    refine zj_imul o (zdd k_W_layDownWants 23 rfl) ?_
    refine zj_iload_n o (zdd k_W_layDownWants 24 rfl) rfl 2 rfl ?_
    refine zj_iadd o (zdd k_W_layDownWants 25 rfl) ?_
    obtain ⟨x5, e_x5, h⟩ := zbd h
    refine zj_iald o (zdd k_W_layDownWants 26 rfl) e_x5 ?_
    obtain ⟨σ6, e_σ6, h⟩ := zbd h
    refine zc_V o (zdd k_W_layDownWants 27 rfl) ml_W_228 mv_W_layDown ⟨rfl, by decide⟩ (zg_some e_σ6).1 (by decide) [.int x5] [] rfl (Nat.le_of_ble_eq_true rfl) rfl (m_W_layDown e_σ6) ?_
    change zPJ X 0 0 _ _ [] _
    refine zj_iinc (v := v3 + 1) (loc' := [(3, .int (v3 + 1)), (0, .ref v0), (2, .int v2)]) o (zdd k_W_layDownWants 28 rfl) 2 rfl (by rw [zki_1]) (by decide) rfl ?_
    refine zj_goto (tgt := 20) o (zdd k_W_layDownWants 29 rfl) (by decide) ?_
    exact zj_sub [1, 2, 0] rfl (hk20 h hr)
def f_W_layDownWants_20L : Nat → zSt → Nat → Int32 → Int32 → Option (zSt)
  | 0 => fun _ _ _ _ => none
  | n + 1 => f_W_layDownWants_20  (f_W_layDownWants_20L  n)
theorem r_W_layDownWants_20L {X : zCX} (o : zOK X "WantShelves" c_W_layDownWants n_W_layDownWants 3) : ∀ (n : Nat) {σ : zSt} {v0 : Nat} {v2 : Int32} {v3 : Int32} {z : zSt}, f_W_layDownWants_20L n σ v0 v2 v3 = some z → zRX X 0 0 none z → zPJ X 0 0 20 [(0, .ref v0), (2, .int v2), (3, .int v3)] [] σ
  | 0 => fun h _ => by cases h
  | n + 1 => fun h hr => r_W_layDownWants_20 o (r_W_layDownWants_20L o  n) h hr
def f_W_layDownWants (σ : zSt) (t : Nat) (p0 : Nat) (p1 : Int32) : Option (zSt) :=
zg σ 11 t (
(zgI σ 6 p0 1).bind fun x1 =>
if x1 = (-1) then (
f_W_layDownWants_20L zfu σ t p1 0) else
(zgI σ 6 p0 1).bind fun x2 =>
(f_W_layDownRow σ t p0 x2).bind fun σ3 =>
some σ3)
set_option maxRecDepth 100000 in
set_option maxHeartbeats 4000000 in
theorem m_W_layDownWants {l : Launch} {b : Nat} {ex : Nat → Value} {D : va_G} {ca : Nat → ClassId} {σ : zSt} {t : Nat} {p0 : Nat} {p1 : Int32} {z : zSt} (h : f_W_layDownWants σ t p0 p1 = some z) : zMT l b ex D ca 3 y_W_layDownWants c_W_layDownWants n_W_layDownWants r_ret_W_layDownWants [.ref t, .ref p0, .int p1] σ none z 0 0 := by
  obtain ⟨_, hg0⟩ := zg_some h
  have h := hg0
  refine zmt_of (by decide) (Nat.le_of_ble_eq_true rfl) rfl (fun X o hin hrm _ _ _ _ _ hr => ?_)
  have hr := hr 0 0 (by decide) (by decide)
  have o : zOK X "WantShelves" c_W_layDownWants n_W_layDownWants 3 := o
  change zPJ X 0 0 0 [(0, .ref t), (1, .ref p0), (2, .int p1)] [] σ
  refine zj_aload_n o (zdd k_W_layDownWants 0 rfl) rfl 1 rfl ?_
  obtain ⟨x1, e_x1, h⟩ := zbd h
  refine zj_gI o (zdd k_W_layDownWants 1 rfl) fl_W_369 rfl e_x1 ?_
  refine zj_iconst o (zdd k_W_layDownWants 2 rfl) zki_m1 ?_
  refine zj_icmp_eq (tgt := 18) o (zdd k_W_layDownWants 3 rfl) (by decide) (fun hc => ?_) (fun hc => ?_)
  · rw [if_pos hc] at h
    refine zj_iconst o (zdd k_W_layDownWants 10 rfl) zki_0 ?_
    refine zj_istore_n (loc' := [(3, .int 0), (0, .ref t), (1, .ref p0), (2, .int p1)]) o (zdd k_W_layDownWants 11 rfl) rfl (by decide) rfl ?_
    exact zj_sub [1, 3, 0] rfl (r_W_layDownWants_20L o  zfu h hr)
  · rw [if_neg hc] at h
    refine zj_aload_n o (zdd k_W_layDownWants 4 rfl) rfl 0 rfl ?_
    refine zj_aload_n o (zdd k_W_layDownWants 5 rfl) rfl 1 rfl ?_
    refine zj_aload_n o (zdd k_W_layDownWants 6 rfl) rfl 1 rfl ?_
    obtain ⟨x2, e_x2, h⟩ := zbd h
    refine zj_gI o (zdd k_W_layDownWants 7 rfl) fl_W_369 rfl e_x2 ?_
    obtain ⟨σ3, e_σ3, h⟩ := zbd h
    refine zc_V o (zdd k_W_layDownWants 8 rfl) ml_W_278 mv_W_layDownRow ⟨rfl, by decide⟩ (zg_some e_σ3).1 (by decide) [.ref p0, .int x2] [] rfl (Nat.le_of_ble_eq_true rfl) rfl (m_W_layDownRow e_σ3) ?_
    change zPJ X 0 0 _ _ [] _
    cases h
    exact zr_v o hr (zdd k_W_layDownWants 9 rfl)
def f_W_rest_156 (σ : zSt) (v0 : Nat) (v1 : Int32) (v2 : Int32) (v7 : Int32) : Option (Int32 × zSt) :=
(zgP σ 11 v0 10).bind fun a1 =>
(f_W_layDownWants σ v0 a1 v1).bind fun σ2 =>
(zgP σ2 11 v0 11).bind fun a3 =>
(f_W_layDownWants σ2 v0 a3 v2).bind fun σ4 =>
some (v7, σ4)
set_option maxRecDepth 100000 in
set_option maxHeartbeats 4000000 in
theorem r_W_rest_156 {X : zCX} (o : zOK X "WantShelves" c_W_rest n_W_rest 7) {σ : zSt} {v0 : Nat} {v1 : Int32} {v2 : Int32} {v7 : Int32} {z : Int32 × zSt} (h : f_W_rest_156 σ v0 v1 v2 v7 = some z) (hr : zRX X 0 0 (some (.int z.1)) z.2) : zPJ X 0 0 156 [(0, .ref v0), (1, .int v1), (2, .int v2), (7, .int v7)] [] σ := by
  unfold f_W_rest_156 at h
  refine zj_aload_n o (zdd k_W_rest 83 rfl) rfl 0 rfl ?_
  refine zj_aload_n o (zdd k_W_rest 84 rfl) rfl 0 rfl ?_
  obtain ⟨a1, e_a1, h⟩ := zbd h
  refine zj_gP o (zdd k_W_rest 85 rfl) fl_W_63 rfl e_a1 ?_
  refine zj_iload_n o (zdd k_W_rest 86 rfl) rfl 1 rfl ?_
  obtain ⟨σ2, e_σ2, h⟩ := zbd h
  refine zc_V o (zdd k_W_rest 87 rfl) ml_W_296 mv_W_layDownWants ⟨rfl, by decide⟩ (zg_some e_σ2).1 (by decide) [.ref a1, .int v1] [] rfl (Nat.le_of_ble_eq_true rfl) rfl (m_W_layDownWants e_σ2) ?_
  change zPJ X 0 0 _ _ [] _
  refine zj_aload_n o (zdd k_W_rest 88 rfl) rfl 0 rfl ?_
  refine zj_aload_n o (zdd k_W_rest 89 rfl) rfl 0 rfl ?_
  obtain ⟨a3, e_a3, h⟩ := zbd h
  refine zj_gP o (zdd k_W_rest 90 rfl) fl_W_67 rfl e_a3 ?_
  refine zj_iload_n o (zdd k_W_rest 91 rfl) rfl 2 rfl ?_
  obtain ⟨σ4, e_σ4, h⟩ := zbd h
  refine zc_V o (zdd k_W_rest 92 rfl) ml_W_296 mv_W_layDownWants ⟨rfl, by decide⟩ (zg_some e_σ4).1 (by decide) [.ref a3, .int v2] [] rfl (Nat.le_of_ble_eq_true rfl) rfl (m_W_layDownWants e_σ4) ?_
  change zPJ X 0 0 _ _ [] _
  refine zj_iload o (zdd k_W_rest 93 rfl) 3 rfl ?_
  cases h
  exact zr_i o hr (zdd k_W_rest 94 rfl)
def f_W_rest_99 (k99 : zSt → Nat → Int32 → Int32 → Int32 → Int32 → Int32 → Int32 → Option (Int32 × zSt)) (σ : zSt) (v0 : Nat) (v1 : Int32) (v2 : Int32) (v4 : Int32) (v5 : Int32) (v6 : Int32) (v7 : Int32) : Option (Int32 × zSt) :=
if 20 < v7 then (
some ((-1), σ)) else
(zgP σ 11 v0 10).bind fun a1 =>
(zgP σ 11 v0 9).bind fun a2 =>
(zgP σ 11 v0 5).bind fun a3 =>
(f_R_takeBetter σ a1 a2 a3 v4 v5).bind fun q4 =>
(zgP q4.2 11 v0 11).bind fun a5 =>
(zgP q4.2 11 v0 9).bind fun a6 =>
(zgP q4.2 11 v0 5).bind fun a7 =>
(f_R_takeBetter q4.2 a5 a6 a7 v4 v6).bind fun q8 =>
if q4.1 ||| q8.1 = 0 then (
f_W_rest_156 q8.2 v0 v1 v2 v7) else
k99 q8.2 v0 v1 v2 v4 v5 v6 (v7 + 1)
set_option maxRecDepth 100000 in
set_option maxHeartbeats 4000000 in
theorem r_W_rest_99 {X : zCX} (o : zOK X "WantShelves" c_W_rest n_W_rest 7) {k99 : zSt → Nat → Int32 → Int32 → Int32 → Int32 → Int32 → Int32 → Option (Int32 × zSt)} (hk99 : ∀ {σ : zSt} {v0 : Nat} {v1 : Int32} {v2 : Int32} {v4 : Int32} {v5 : Int32} {v6 : Int32} {v7 : Int32} {z : Int32 × zSt}, k99 σ v0 v1 v2 v4 v5 v6 v7 = some z → zRX X 0 0 (some (.int z.1)) z.2 → zPJ X 0 0 99 [(0, .ref v0), (1, .int v1), (2, .int v2), (4, .int v4), (5, .int v5), (6, .int v6), (7, .int v7)] [] σ) {σ : zSt} {v0 : Nat} {v1 : Int32} {v2 : Int32} {v4 : Int32} {v5 : Int32} {v6 : Int32} {v7 : Int32} {z : Int32 × zSt} (h : f_W_rest_99 k99 σ v0 v1 v2 v4 v5 v6 v7 = some z) (hr : zRX X 0 0 (some (.int z.1)) z.2) : zPJ X 0 0 99 [(0, .ref v0), (1, .int v1), (2, .int v2), (4, .int v4), (5, .int v5), (6, .int v6), (7, .int v7)] [] σ := by
  unfold f_W_rest_99 at h
  refine zj_iload o (zdd k_W_rest 56 rfl) 6 rfl ?_
  refine zj_bipush o (zdd k_W_rest 57 rfl) zkb_20 ?_
  refine zj_icmp_gt (tgt := 183) o (zdd k_W_rest 58 rfl) (by decide) (fun hc => ?_) (fun hc => ?_)
  · rw [if_pos hc] at h
    refine zj_iconst o (zdd k_W_rest 97 rfl) zki_m1 ?_
    cases h
    exact zr_i o hr (zdd k_W_rest 98 rfl)
  · rw [if_neg hc] at h
    refine zj_aload_n o (zdd k_W_rest 59 rfl) rfl 0 rfl ?_
    obtain ⟨a1, e_a1, h⟩ := zbd h
    refine zj_gP o (zdd k_W_rest 60 rfl) fl_W_63 rfl e_a1 ?_
    refine zj_aload_n o (zdd k_W_rest 61 rfl) rfl 0 rfl ?_
    obtain ⟨a2, e_a2, h⟩ := zbd h
    refine zj_gP o (zdd k_W_rest 62 rfl) fl_W_56 rfl e_a2 ?_
    refine zj_aload_n o (zdd k_W_rest 63 rfl) rfl 0 rfl ?_
    obtain ⟨a3, e_a3, h⟩ := zbd h
    refine zj_gP o (zdd k_W_rest 64 rfl) fl_W_35 rfl e_a3 ?_
    refine zj_iload o (zdd k_W_rest 65 rfl) 3 rfl ?_
    refine zj_iload o (zdd k_W_rest 66 rfl) 4 rfl ?_
    obtain ⟨q4, e_q4, h⟩ := zbd h
    refine zc_V o (zdd k_W_rest 67 rfl) ml_W_292 mv_R_takeBetter ⟨rfl, by decide⟩ (zg_some e_q4).1 (by decide) [.ref a2, .ref a3, .int v4, .int v5] [] rfl (Nat.le_of_ble_eq_true rfl) rfl (m_R_takeBetter e_q4) ?_
    change zPJ X 0 0 _ _ [.int q4.1] _
    refine zj_istore (loc' := [(8, .int q4.1), (0, .ref v0), (1, .int v1), (2, .int v2), (4, .int v4), (5, .int v5), (6, .int v6), (7, .int v7)]) o (zdd k_W_rest 68 rfl) (by decide) rfl ?_
    refine zj_iload o (zdd k_W_rest 69 rfl) 0 rfl ?_
    refine zj_aload_n o (zdd k_W_rest 70 rfl) rfl 1 rfl ?_
    obtain ⟨a5, e_a5, h⟩ := zbd h
    refine zj_gP o (zdd k_W_rest 71 rfl) fl_W_67 rfl e_a5 ?_
    refine zj_aload_n o (zdd k_W_rest 72 rfl) rfl 1 rfl ?_
    obtain ⟨a6, e_a6, h⟩ := zbd h
    refine zj_gP o (zdd k_W_rest 73 rfl) fl_W_56 rfl e_a6 ?_
    refine zj_aload_n o (zdd k_W_rest 74 rfl) rfl 1 rfl ?_
    obtain ⟨a7, e_a7, h⟩ := zbd h
    refine zj_gP o (zdd k_W_rest 75 rfl) fl_W_35 rfl e_a7 ?_
    refine zj_iload o (zdd k_W_rest 76 rfl) 4 rfl ?_
    refine zj_iload o (zdd k_W_rest 77 rfl) 6 rfl ?_
    obtain ⟨q8, e_q8, h⟩ := zbd h
    refine zc_V o (zdd k_W_rest 78 rfl) ml_W_292 mv_R_takeBetter ⟨rfl, by decide⟩ (zg_some e_q8).1 (by decide) [.ref a6, .ref a7, .int v4, .int v6] [.int q4.1] rfl (Nat.le_of_ble_eq_true rfl) rfl (m_R_takeBetter e_q8) ?_
    change zPJ X 0 0 _ _ [.int q8.1, .int q4.1] _
    refine zj_ior o (zdd k_W_rest 79 rfl) ?_
    refine zj_istore (loc' := [(8, .int (q4.1 ||| q8.1)), (0, .ref v0), (1, .int v1), (2, .int v2), (4, .int v4), (5, .int v5), (6, .int v6), (7, .int v7)]) o (zdd k_W_rest 80 rfl) (by decide) rfl ?_
    refine zj_iload o (zdd k_W_rest 81 rfl) 0 rfl ?_
    refine zj_if_ne (tgt := 177) o (zdd k_W_rest 82 rfl) (by decide) (fun hc => ?_) (fun hc => ?_)
    · rw [if_neg hc] at h
      refine zj_iinc (v := v7 + 1) (loc' := [(7, .int (v7 + 1)), (8, .int (q4.1 ||| q8.1)), (0, .ref v0), (1, .int v1), (2, .int v2), (4, .int v4), (5, .int v5), (6, .int v6)]) o (zdd k_W_rest 95 rfl) 7 rfl (by rw [zki_1]) (by decide) rfl ?_
      refine zj_goto (tgt := 99) o (zdd k_W_rest 96 rfl) (by decide) ?_
      exact zj_sub [2, 3, 4, 5, 6, 7, 0] rfl (hk99 h hr)
    · rw [if_pos hc] at h
      exact zj_sub [1, 2, 3, 7] rfl (r_W_rest_156 o  h hr)
def f_W_rest_99L : Nat → zSt → Nat → Int32 → Int32 → Int32 → Int32 → Int32 → Int32 → Option (Int32 × zSt)
  | 0 => fun _ _ _ _ _ _ _ _ => none
  | n + 1 => f_W_rest_99  (f_W_rest_99L  n)
theorem r_W_rest_99L {X : zCX} (o : zOK X "WantShelves" c_W_rest n_W_rest 7) : ∀ (n : Nat) {σ : zSt} {v0 : Nat} {v1 : Int32} {v2 : Int32} {v4 : Int32} {v5 : Int32} {v6 : Int32} {v7 : Int32} {z : Int32 × zSt}, f_W_rest_99L n σ v0 v1 v2 v4 v5 v6 v7 = some z → zRX X 0 0 (some (.int z.1)) z.2 → zPJ X 0 0 99 [(0, .ref v0), (1, .int v1), (2, .int v2), (4, .int v4), (5, .int v5), (6, .int v6), (7, .int v7)] [] σ
  | 0 => fun h _ => by cases h
  | n + 1 => fun h hr => r_W_rest_99 o (r_W_rest_99L o  n) h hr
def f_W_rest (σ : zSt) (t : Nat) (p0 : Int32) (p1 : Int32) (p2 : Int32) : Option (Int32 × zSt) :=
zg σ 11 t (
(zsI σ 11 t 18 0).bind fun σ1 =>
(f_W_canPretend σ1 t p0 p1 p2).bind fun x2 =>
if x2 = 0 then (
some ((-2), σ1)) else
(zgP σ1 11 t 9).bind fun a3 =>
(zgP σ1 11 t 2).bind fun a4 =>
(zgP σ1 11 t 5).bind fun a5 =>
(f_S_open σ1 a3 a4 a5).bind fun σ6 =>
(zgP σ6 11 t 9).bind fun a7 =>
(f_S_firstOf σ6 a7 p0).bind fun x8 =>
(zgP σ6 11 t 9).bind fun a9 =>
(f_S_firstOf σ6 a9 p1).bind fun x10 =>
(zgP σ6 11 t 10).bind fun a11 =>
(zgP σ6 11 t 9).bind fun a12 =>
(zgP σ6 11 t 5).bind fun a13 =>
(f_R_fill σ6 a11 a12 a13 p0 p2).bind fun σ14 =>
(zgP σ14 11 t 11).bind fun a15 =>
(zgP σ14 11 t 9).bind fun a16 =>
(zgP σ14 11 t 5).bind fun a17 =>
(f_R_fill σ14 a15 a16 a17 p1 p2).bind fun σ18 =>
f_W_rest_99L zfu σ18 t p0 p1 ((1 <<< (p0 &&& 31)) ||| (1 <<< (p1 &&& 31))) x8 x10 1)
set_option maxRecDepth 100000 in
set_option maxHeartbeats 4000000 in
theorem m_W_rest {l : Launch} {b : Nat} {ex : Nat → Value} {D : va_G} {ca : Nat → ClassId} {σ : zSt} {t : Nat} {p0 : Int32} {p1 : Int32} {p2 : Int32} {z : Int32 × zSt} (h : f_W_rest σ t p0 p1 p2 = some z) : zMT l b ex D ca 7 y_W_rest c_W_rest n_W_rest r_ret_W_rest [.ref t, .int p0, .int p1, .int p2] σ (some (.int z.1)) z.2 0 0 := by
  obtain ⟨_, hg0⟩ := zg_some h
  have h := hg0
  refine zmt_of (by decide) (Nat.le_of_ble_eq_true rfl) ⟨.int, rfl, rfl⟩ (fun X o hin hrm _ _ _ _ _ hr => ?_)
  have hr := hr 0 0 (by decide) (by decide)
  have o : zOK X "WantShelves" c_W_rest n_W_rest 7 := o
  change zPJ X 0 0 0 [(0, .ref t), (1, .int p0), (2, .int p1), (3, .int p2)] [] σ
  refine zj_aload_n o (zdd k_W_rest 0 rfl) rfl 0 rfl ?_
  refine zj_iconst o (zdd k_W_rest 1 rfl) zki_0 ?_
  obtain ⟨σ1, e_σ1, h⟩ := zbd h
  refine zj_pI o (zdd k_W_rest 2 rfl) fl_W_124 rfl rfl e_σ1 ?_
  refine zj_aload_n o (zdd k_W_rest 3 rfl) rfl 0 rfl ?_
  refine zj_iload_n o (zdd k_W_rest 4 rfl) rfl 1 rfl ?_
  refine zj_iload_n o (zdd k_W_rest 5 rfl) rfl 2 rfl ?_
  refine zj_iload_n o (zdd k_W_rest 6 rfl) rfl 3 rfl ?_
  obtain ⟨x2, e_x2, h⟩ := zbd h
  refine zc_V o (zdd k_W_rest 7 rfl) ml_W_285 mv_W_canPretend ⟨rfl, by decide⟩ (zg_some e_x2).1 (by decide) [.int p0, .int p1, .int p2] [] rfl (Nat.le_of_ble_eq_true rfl) rfl (m_W_canPretend e_x2) ?_
  change zPJ X 0 0 _ _ [.int x2] _
  refine zj_if_ne (tgt := 18) o (zdd k_W_rest 8 rfl) (by decide) (fun hc => ?_) (fun hc => ?_)
  · rw [if_neg hc] at h
    refine zj_aload_n o (zdd k_W_rest 11 rfl) rfl 0 rfl ?_
    obtain ⟨a3, e_a3, h⟩ := zbd h
    refine zj_gP o (zdd k_W_rest 12 rfl) fl_W_56 rfl e_a3 ?_
    refine zj_aload_n o (zdd k_W_rest 13 rfl) rfl 0 rfl ?_
    obtain ⟨a4, e_a4, h⟩ := zbd h
    refine zj_gP o (zdd k_W_rest 14 rfl) fl_W_16 rfl e_a4 ?_
    refine zj_aload_n o (zdd k_W_rest 15 rfl) rfl 0 rfl ?_
    obtain ⟨a5, e_a5, h⟩ := zbd h
    refine zj_gP o (zdd k_W_rest 16 rfl) fl_W_35 rfl e_a5 ?_
    obtain ⟨σ6, e_σ6, h⟩ := zbd h
    refine zc_V o (zdd k_W_rest 17 rfl) ml_W_166 mv_S_open ⟨rfl, by decide⟩ (zg_some e_σ6).1 (by decide) [.ref a4, .ref a5] [] rfl (Nat.le_of_ble_eq_true rfl) rfl (m_S_open e_σ6) ?_
    change zPJ X 0 0 _ _ [] _
    refine zj_iconst o (zdd k_W_rest 18 rfl) zki_1 ?_
    refine zj_iload_n o (zdd k_W_rest 19 rfl) rfl 1 rfl ?_
    refine zj_ishl o (zdd k_W_rest 20 rfl) ?_
    refine zj_iconst o (zdd k_W_rest 21 rfl) zki_1 ?_
    refine zj_iload_n o (zdd k_W_rest 22 rfl) rfl 2 rfl ?_
    refine zj_ishl o (zdd k_W_rest 23 rfl) ?_
    refine zj_ior o (zdd k_W_rest 24 rfl) ?_
    refine zj_istore (loc' := [(4, .int ((1 <<< (p0 &&& 31)) ||| (1 <<< (p1 &&& 31)))), (0, .ref t), (1, .int p0), (2, .int p1), (3, .int p2)]) o (zdd k_W_rest 25 rfl) (by decide) rfl ?_
    refine zj_aload_n o (zdd k_W_rest 26 rfl) rfl 1 rfl ?_
    obtain ⟨a7, e_a7, h⟩ := zbd h
    refine zj_gP o (zdd k_W_rest 27 rfl) fl_W_56 rfl e_a7 ?_
    refine zj_iload_n o (zdd k_W_rest 28 rfl) rfl 2 rfl ?_
    obtain ⟨x8, e_x8, h⟩ := zbd h
    refine zc_V o (zdd k_W_rest 29 rfl) ml_W_258 mv_S_firstOf ⟨rfl, by decide⟩ (zg_some e_x8).1 (by decide) [.int p0] [] rfl (Nat.le_of_ble_eq_true rfl) rfl (m_S_firstOf e_x8) ?_
    change zPJ X 0 0 _ _ [.int x8] _
    refine zj_istore (loc' := [(5, .int x8), (4, .int ((1 <<< (p0 &&& 31)) ||| (1 <<< (p1 &&& 31)))), (0, .ref t), (1, .int p0), (2, .int p1), (3, .int p2)]) o (zdd k_W_rest 30 rfl) (by decide) rfl ?_
    refine zj_aload_n o (zdd k_W_rest 31 rfl) rfl 2 rfl ?_
    obtain ⟨a9, e_a9, h⟩ := zbd h
    refine zj_gP o (zdd k_W_rest 32 rfl) fl_W_56 rfl e_a9 ?_
    refine zj_iload_n o (zdd k_W_rest 33 rfl) rfl 4 rfl ?_
    obtain ⟨x10, e_x10, h⟩ := zbd h
    refine zc_V o (zdd k_W_rest 34 rfl) ml_W_258 mv_S_firstOf ⟨rfl, by decide⟩ (zg_some e_x10).1 (by decide) [.int p1] [] rfl (Nat.le_of_ble_eq_true rfl) rfl (m_S_firstOf e_x10) ?_
    change zPJ X 0 0 _ _ [.int x10] _
    refine zj_istore (loc' := [(6, .int x10), (5, .int x8), (4, .int ((1 <<< (p0 &&& 31)) ||| (1 <<< (p1 &&& 31)))), (0, .ref t), (1, .int p0), (2, .int p1), (3, .int p2)]) o (zdd k_W_rest 35 rfl) (by decide) rfl ?_
    refine zj_aload_n o (zdd k_W_rest 36 rfl) rfl 3 rfl ?_
    obtain ⟨a11, e_a11, h⟩ := zbd h
    refine zj_gP o (zdd k_W_rest 37 rfl) fl_W_63 rfl e_a11 ?_
    refine zj_aload_n o (zdd k_W_rest 38 rfl) rfl 3 rfl ?_
    obtain ⟨a12, e_a12, h⟩ := zbd h
    refine zj_gP o (zdd k_W_rest 39 rfl) fl_W_56 rfl e_a12 ?_
    refine zj_aload_n o (zdd k_W_rest 40 rfl) rfl 3 rfl ?_
    obtain ⟨a13, e_a13, h⟩ := zbd h
    refine zj_gP o (zdd k_W_rest 41 rfl) fl_W_35 rfl e_a13 ?_
    refine zj_iload_n o (zdd k_W_rest 42 rfl) rfl 4 rfl ?_
    refine zj_iload_n o (zdd k_W_rest 43 rfl) rfl 6 rfl ?_
    obtain ⟨σ14, e_σ14, h⟩ := zbd h
    refine zc_V o (zdd k_W_rest 44 rfl) ml_W_264 mv_R_fill ⟨rfl, by decide⟩ (zg_some e_σ14).1 (by decide) [.ref a12, .ref a13, .int p0, .int p2] [] rfl (Nat.le_of_ble_eq_true rfl) rfl (m_R_fill e_σ14) ?_
    change zPJ X 0 0 _ _ [] _
    refine zj_aload_n o (zdd k_W_rest 45 rfl) rfl 3 rfl ?_
    obtain ⟨a15, e_a15, h⟩ := zbd h
    refine zj_gP o (zdd k_W_rest 46 rfl) fl_W_67 rfl e_a15 ?_
    refine zj_aload_n o (zdd k_W_rest 47 rfl) rfl 3 rfl ?_
    obtain ⟨a16, e_a16, h⟩ := zbd h
    refine zj_gP o (zdd k_W_rest 48 rfl) fl_W_56 rfl e_a16 ?_
    refine zj_aload_n o (zdd k_W_rest 49 rfl) rfl 3 rfl ?_
    obtain ⟨a17, e_a17, h⟩ := zbd h
    refine zj_gP o (zdd k_W_rest 50 rfl) fl_W_35 rfl e_a17 ?_
    refine zj_iload_n o (zdd k_W_rest 51 rfl) rfl 5 rfl ?_
    refine zj_iload_n o (zdd k_W_rest 52 rfl) rfl 6 rfl ?_
    obtain ⟨σ18, e_σ18, h⟩ := zbd h
    refine zc_V o (zdd k_W_rest 53 rfl) ml_W_264 mv_R_fill ⟨rfl, by decide⟩ (zg_some e_σ18).1 (by decide) [.ref a16, .ref a17, .int p1, .int p2] [] rfl (Nat.le_of_ble_eq_true rfl) rfl (m_R_fill e_σ18) ?_
    change zPJ X 0 0 _ _ [] _
    refine zj_iconst o (zdd k_W_rest 54 rfl) zki_1 ?_
    refine zj_istore (loc' := [(7, .int 1), (6, .int x10), (5, .int x8), (4, .int ((1 <<< (p0 &&& 31)) ||| (1 <<< (p1 &&& 31)))), (0, .ref t), (1, .int p0), (2, .int p1), (3, .int p2)]) o (zdd k_W_rest 55 rfl) (by decide) rfl ?_
    exact zj_sub [4, 5, 6, 3, 2, 1, 0] rfl (r_W_rest_99L o  zfu h hr)
  · rw [if_pos hc] at h
    refine zj_bipush o (zdd k_W_rest 9 rfl) zkb_m2 ?_
    cases h
    exact zr_i o hr (zdd k_W_rest 10 rfl)
def f_W_left_47 (σ : zSt) (v0 : Nat) (v1 : Int32) : Option (Int32 × zSt) :=
(zgP σ 11 v0 15).bind fun a1 =>
(zgI σ 11 v0 16).bind fun x2 =>
(zwI σ 1 a1 x2 v1).bind fun σ3 =>
(zgI σ3 11 v0 16).bind fun x4 =>
(zsI σ3 11 v0 16 (x4 + 1)).bind fun σ5 =>
(zgI σ5 11 v0 16).bind fun x6 =>
some (x6, σ5)
set_option maxRecDepth 100000 in
set_option maxHeartbeats 4000000 in
theorem r_W_left_47 {X : zCX} (o : zOK X "WantShelves" c_W_left n_W_left 3) {σ : zSt} {v0 : Nat} {v1 : Int32} {z : Int32 × zSt} (h : f_W_left_47 σ v0 v1 = some z) (hr : zRX X 0 0 (some (.int z.1)) z.2) : zPJ X 0 0 47 [(0, .ref v0), (1, .int v1)] [] σ := by
  unfold f_W_left_47 at h
  refine zj_aload_n o (zdd k_W_left 26 rfl) rfl 0 rfl ?_
  obtain ⟨a1, e_a1, h⟩ := zbd h
  refine zj_gP o (zdd k_W_left 27 rfl) fl_W_91 rfl e_a1 ?_
  refine zj_aload_n o (zdd k_W_left 28 rfl) rfl 0 rfl ?_
  obtain ⟨x2, e_x2, h⟩ := zbd h
  refine zj_gI o (zdd k_W_left 29 rfl) fl_W_121 rfl e_x2 ?_
  refine zj_iload_n o (zdd k_W_left 30 rfl) rfl 1 rfl ?_
  obtain ⟨σ3, e_σ3, h⟩ := zbd h
  refine zj_iast o (zdd k_W_left 31 rfl) e_σ3 ?_
  refine zj_aload_n o (zdd k_W_left 32 rfl) rfl 0 rfl ?_
  refine zj_dup o (zdd k_W_left 33 rfl) rfl ?_
  obtain ⟨x4, e_x4, h⟩ := zbd h
  refine zj_gI o (zdd k_W_left 34 rfl) fl_W_121 rfl e_x4 ?_
  refine zj_iconst o (zdd k_W_left 35 rfl) zki_1 ?_
  refine zj_iadd o (zdd k_W_left 36 rfl) ?_
  obtain ⟨σ5, e_σ5, h⟩ := zbd h
  refine zj_pI o (zdd k_W_left 37 rfl) fl_W_121 rfl rfl e_σ5 ?_
  refine zj_aload_n o (zdd k_W_left 38 rfl) rfl 0 rfl ?_
  obtain ⟨x6, e_x6, h⟩ := zbd h
  refine zj_gI o (zdd k_W_left 39 rfl) fl_W_121 rfl e_x6 ?_
  cases h
  exact zr_i o hr (zdd k_W_left 40 rfl)
def f_W_left_21 (k21 : zSt → Nat → Int32 → Int32 → Option (Int32 × zSt)) (σ : zSt) (v0 : Nat) (v1 : Int32) (v2 : Int32) : Option (Int32 × zSt) :=
(zgI σ 11 v0 16).bind fun x1 =>
if x1 ≤ v2 then (
f_W_left_47 σ v0 v1) else
(zgP σ 11 v0 15).bind fun a2 =>
(zaI σ 1 a2 v2).bind fun x3 =>
if x3 = v1 then (
some ((-1), σ)) else
k21 σ v0 v1 (v2 + 1)
set_option maxRecDepth 100000 in
set_option maxHeartbeats 4000000 in
theorem r_W_left_21 {X : zCX} (o : zOK X "WantShelves" c_W_left n_W_left 3) {k21 : zSt → Nat → Int32 → Int32 → Option (Int32 × zSt)} (hk21 : ∀ {σ : zSt} {v0 : Nat} {v1 : Int32} {v2 : Int32} {z : Int32 × zSt}, k21 σ v0 v1 v2 = some z → zRX X 0 0 (some (.int z.1)) z.2 → zPJ X 0 0 21 [(0, .ref v0), (1, .int v1), (2, .int v2)] [] σ) {σ : zSt} {v0 : Nat} {v1 : Int32} {v2 : Int32} {z : Int32 × zSt} (h : f_W_left_21 k21 σ v0 v1 v2 = some z) (hr : zRX X 0 0 (some (.int z.1)) z.2) : zPJ X 0 0 21 [(0, .ref v0), (1, .int v1), (2, .int v2)] [] σ := by
  unfold f_W_left_21 at h
  refine zj_iload_n o (zdd k_W_left 12 rfl) rfl 2 rfl ?_
  refine zj_aload_n o (zdd k_W_left 13 rfl) rfl 0 rfl ?_
  obtain ⟨x1, e_x1, h⟩ := zbd h
  refine zj_gI o (zdd k_W_left 14 rfl) fl_W_121 rfl e_x1 ?_
  refine zj_icmp_ge (tgt := 47) o (zdd k_W_left 15 rfl) (by decide) (fun hc => ?_) (fun hc => ?_)
  · rw [if_pos hc] at h
    exact zj_sub [0, 1] rfl (r_W_left_47 o  h hr)
  · rw [if_neg hc] at h
    refine zj_aload_n o (zdd k_W_left 16 rfl) rfl 0 rfl ?_
    obtain ⟨a2, e_a2, h⟩ := zbd h
    refine zj_gP o (zdd k_W_left 17 rfl) fl_W_91 rfl e_a2 ?_
    refine zj_iload_n o (zdd k_W_left 18 rfl) rfl 2 rfl ?_
    obtain ⟨x3, e_x3, h⟩ := zbd h
    refine zj_iald o (zdd k_W_left 19 rfl) e_x3 ?_
    refine zj_iload_n o (zdd k_W_left 20 rfl) rfl 1 rfl ?_
    refine zj_icmp_ne (tgt := 41) o (zdd k_W_left 21 rfl) (by decide) (fun hc => ?_) (fun hc => ?_)
    · rw [if_neg hc] at h
      refine zj_iinc (v := v2 + 1) (loc' := [(2, .int (v2 + 1)), (0, .ref v0), (1, .int v1)]) o (zdd k_W_left 24 rfl) 2 rfl (by rw [zki_1]) (by decide) rfl ?_
      refine zj_goto (tgt := 21) o (zdd k_W_left 25 rfl) (by decide) ?_
      exact zj_sub [1, 2, 0] rfl (hk21 h hr)
    · rw [if_pos hc] at h
      refine zj_iconst o (zdd k_W_left 22 rfl) zki_m1 ?_
      cases h
      exact zr_i o hr (zdd k_W_left 23 rfl)
def f_W_left_21L : Nat → zSt → Nat → Int32 → Int32 → Option (Int32 × zSt)
  | 0 => fun _ _ _ _ => none
  | n + 1 => f_W_left_21  (f_W_left_21L  n)
theorem r_W_left_21L {X : zCX} (o : zOK X "WantShelves" c_W_left n_W_left 3) : ∀ (n : Nat) {σ : zSt} {v0 : Nat} {v1 : Int32} {v2 : Int32} {z : Int32 × zSt}, f_W_left_21L n σ v0 v1 v2 = some z → zRX X 0 0 (some (.int z.1)) z.2 → zPJ X 0 0 21 [(0, .ref v0), (1, .int v1), (2, .int v2)] [] σ
  | 0 => fun h _ => by cases h
  | n + 1 => fun h hr => r_W_left_21 o (r_W_left_21L o  n) h hr
def f_W_left (σ : zSt) (t : Nat) (p0 : Int32) : Option (Int32 × zSt) :=
zg σ 11 t (
(f_W_isHere σ t p0).bind fun x1 =>
if x1 = 0 then (
some ((-1), σ)) else
(zgI σ 11 t 16).bind fun x2 =>
if x2 < 10 then (
f_W_left_21L zfu σ t p0 0) else
some ((-1), σ))
set_option maxRecDepth 100000 in
set_option maxHeartbeats 4000000 in
theorem m_W_left {l : Launch} {b : Nat} {ex : Nat → Value} {D : va_G} {ca : Nat → ClassId} {σ : zSt} {t : Nat} {p0 : Int32} {z : Int32 × zSt} (h : f_W_left σ t p0 = some z) : zMT l b ex D ca 3 y_W_left c_W_left n_W_left r_ret_W_left [.ref t, .int p0] σ (some (.int z.1)) z.2 0 0 := by
  obtain ⟨_, hg0⟩ := zg_some h
  have h := hg0
  refine zmt_of (by decide) (Nat.le_of_ble_eq_true rfl) ⟨.int, rfl, rfl⟩ (fun X o hin hrm _ _ _ _ _ hr => ?_)
  have hr := hr 0 0 (by decide) (by decide)
  have o : zOK X "WantShelves" c_W_left n_W_left 3 := o
  change zPJ X 0 0 0 [(0, .ref t), (1, .int p0)] [] σ
  refine zj_aload_n o (zdd k_W_left 0 rfl) rfl 0 rfl ?_
  refine zj_iload_n o (zdd k_W_left 1 rfl) rfl 1 rfl ?_
  obtain ⟨x1, e_x1, h⟩ := zbd h
  refine zc_V o (zdd k_W_left 2 rfl) ml_W_177 mv_W_isHere ⟨rfl, by decide⟩ (zg_some e_x1).1 (by decide) [.int p0] [] rfl (Nat.le_of_ble_eq_true rfl) rfl (m_W_isHere e_x1) ?_
  change zPJ X 0 0 _ _ [.int x1] _
  refine zj_if_eq (tgt := 17) o (zdd k_W_left 3 rfl) (by decide) (fun hc => ?_) (fun hc => ?_)
  · rw [if_pos hc] at h
    refine zj_iconst o (zdd k_W_left 8 rfl) zki_m1 ?_
    cases h
    exact zr_i o hr (zdd k_W_left 9 rfl)
  · rw [if_neg hc] at h
    refine zj_aload_n o (zdd k_W_left 4 rfl) rfl 0 rfl ?_
    obtain ⟨x2, e_x2, h⟩ := zbd h
    refine zj_gI o (zdd k_W_left 5 rfl) fl_W_121 rfl e_x2 ?_
    refine zj_bipush o (zdd k_W_left 6 rfl) zkb_10 ?_
    refine zj_icmp_lt (tgt := 19) o (zdd k_W_left 7 rfl) (by decide) (fun hc => ?_) (fun hc => ?_)
    · rw [if_pos hc] at h
      refine zj_iconst o (zdd k_W_left 10 rfl) zki_0 ?_
      refine zj_istore_n (loc' := [(2, .int 0), (0, .ref t), (1, .int p0)]) o (zdd k_W_left 11 rfl) rfl (by decide) rfl ?_
      exact zj_sub [1, 2, 0] rfl (r_W_left_21L o  zfu h hr)
    · rw [if_neg hc] at h
      refine zj_iconst o (zdd k_W_left 8 rfl) zki_m1 ?_
      cases h
      exact zr_i o hr (zdd k_W_left 9 rfl)
def f_W_hush (σ : zSt) (t : Nat) : Option (Int32 × zSt) :=
zg σ 11 t (
(zgI σ 11 t 16).bind fun x1 =>
(zsI σ 11 t 16 0).bind fun σ2 =>
some (x1, σ2))
set_option maxRecDepth 100000 in
set_option maxHeartbeats 4000000 in
theorem m_W_hush {l : Launch} {b : Nat} {ex : Nat → Value} {D : va_G} {ca : Nat → ClassId} {σ : zSt} {t : Nat} {z : Int32 × zSt} (h : f_W_hush σ t = some z) : zMT l b ex D ca 1 y_W_hush c_W_hush n_W_hush r_ret_W_hush [.ref t] σ (some (.int z.1)) z.2 0 0 := by
  obtain ⟨_, hg0⟩ := zg_some h
  have h := hg0
  refine zmt_of (by decide) (Nat.le_of_ble_eq_true rfl) ⟨.int, rfl, rfl⟩ (fun X o hin hrm _ _ _ _ _ hr => ?_)
  have hr := hr 0 0 (by decide) (by decide)
  have o : zOK X "WantShelves" c_W_hush n_W_hush 1 := o
  change zPJ X 0 0 0 [(0, .ref t)] [] σ
  refine zj_aload_n o (zdd k_W_hush 0 rfl) rfl 0 rfl ?_
  obtain ⟨x1, e_x1, h⟩ := zbd h
  refine zj_gI o (zdd k_W_hush 1 rfl) fl_W_121 rfl e_x1 ?_
  refine zj_istore_n (loc' := [(1, .int x1), (0, .ref t)]) o (zdd k_W_hush 2 rfl) rfl (by decide) rfl ?_
  refine zj_aload_n o (zdd k_W_hush 3 rfl) rfl 1 rfl ?_
  refine zj_iconst o (zdd k_W_hush 4 rfl) zki_0 ?_
  obtain ⟨σ2, e_σ2, h⟩ := zbd h
  refine zj_pI o (zdd k_W_hush 5 rfl) fl_W_121 rfl rfl e_σ2 ?_
  refine zj_iload_n o (zdd k_W_hush 6 rfl) rfl 0 rfl ?_
  cases h
  exact zr_i o hr (zdd k_W_hush 7 rfl)
def f_W_was_108 (σ : zSt) (v1 : Int32) (v2 : Int32) (v3 : Int32) (v4 : Int32) : Option (Int32 × zSt) :=
if v1 = 0 then (
some (v2, σ)) else
if v1 = 1 then (
if v2 ≤ 0 then (
some (v4, σ)) else
some (v3, σ)) else
some (v4, σ)
set_option maxRecDepth 100000 in
set_option maxHeartbeats 4000000 in
theorem r_W_was_108 {X : zCX} (o : zOK X "WantShelves" c_W_was n_W_was 7) {σ : zSt} {v1 : Int32} {v2 : Int32} {v3 : Int32} {v4 : Int32} {z : Int32 × zSt} (h : f_W_was_108 σ v1 v2 v3 v4 = some z) (hr : zRX X 0 0 (some (.int z.1)) z.2) : zPJ X 0 0 108 [(1, .int v1), (2, .int v2), (3, .int v3), (4, .int v4)] [] σ := by
  unfold f_W_was_108 at h
  refine zj_iload_n o (zdd k_W_was 58 rfl) rfl 0 rfl ?_
  refine zj_if_ne (tgt := 114) o (zdd k_W_was 59 rfl) (by decide) (fun hc => ?_) (fun hc => ?_)
  · rw [if_neg hc] at h
    refine zj_iload_n o (zdd k_W_was 62 rfl) rfl 0 rfl ?_
    refine zj_iconst o (zdd k_W_was 63 rfl) zki_1 ?_
    refine zj_icmp_ne (tgt := 127) o (zdd k_W_was 64 rfl) (by decide) (fun hc => ?_) (fun hc => ?_)
    · rw [if_neg hc] at h
      refine zj_iload o (zdd k_W_was 69 rfl) 3 rfl ?_
      cases h
      exact zr_i o hr (zdd k_W_was 70 rfl)
    · rw [if_pos hc] at h
      refine zj_iload_n o (zdd k_W_was 65 rfl) rfl 1 rfl ?_
      refine zj_if_le (tgt := 127) o (zdd k_W_was 66 rfl) (by decide) (fun hc => ?_) (fun hc => ?_)
      · rw [if_pos hc] at h
        refine zj_iload o (zdd k_W_was 69 rfl) 3 rfl ?_
        cases h
        exact zr_i o hr (zdd k_W_was 70 rfl)
      · rw [if_neg hc] at h
        refine zj_iload_n o (zdd k_W_was 67 rfl) rfl 2 rfl ?_
        refine zj_goto (tgt := 129) o (zdd k_W_was 68 rfl) (by decide) ?_
        cases h
        exact zr_i o hr (zdd k_W_was 70 rfl)
  · rw [if_pos hc] at h
    refine zj_iload_n o (zdd k_W_was 60 rfl) rfl 1 rfl ?_
    cases h
    exact zr_i o hr (zdd k_W_was 61 rfl)
def f_W_was_46 (k46 : zSt → Nat → Int32 → Int32 → Int32 → Int32 → Int32 → Option (Int32 × zSt)) (σ : zSt) (v0 : Nat) (v1 : Int32) (v2 : Int32) (v3 : Int32) (v4 : Int32) (v5 : Int32) : Option (Int32 × zSt) :=
(zgP σ 11 v0 2).bind fun a1 =>
(zgI σ 10 a1 2).bind fun x2 =>
if 1 <<< (x2 &&& 31) ≤ v5 then (
f_W_was_108 σ v1 v2 v3 v4) else
(zgP σ 11 v0 9).bind fun a3 =>
(f_S_lay σ a3 v5).bind fun σ4 =>
(zgP σ4 11 v0 9).bind fun a5 =>
(zgP σ4 11 v0 15).bind fun a6 =>
(zgI σ4 11 v0 16).bind fun x7 =>
(f_S_beginsWith σ4 a5 a6 x7).bind fun x8 =>
if x8 = 0 then (
k46 σ4 v0 v1 v2 v3 v4 (v5 + 1)) else
k46 σ4 v0 v1 (v2 + 1) (v3 &&& v5) (v4 ||| v5) (v5 + 1)
set_option maxRecDepth 100000 in
set_option maxHeartbeats 4000000 in
theorem r_W_was_46 {X : zCX} (o : zOK X "WantShelves" c_W_was n_W_was 7) {k46 : zSt → Nat → Int32 → Int32 → Int32 → Int32 → Int32 → Option (Int32 × zSt)} (hk46 : ∀ {σ : zSt} {v0 : Nat} {v1 : Int32} {v2 : Int32} {v3 : Int32} {v4 : Int32} {v5 : Int32} {z : Int32 × zSt}, k46 σ v0 v1 v2 v3 v4 v5 = some z → zRX X 0 0 (some (.int z.1)) z.2 → zPJ X 0 0 46 [(0, .ref v0), (1, .int v1), (2, .int v2), (3, .int v3), (4, .int v4), (5, .int v5)] [] σ) {σ : zSt} {v0 : Nat} {v1 : Int32} {v2 : Int32} {v3 : Int32} {v4 : Int32} {v5 : Int32} {z : Int32 × zSt} (h : f_W_was_46 k46 σ v0 v1 v2 v3 v4 v5 = some z) (hr : zRX X 0 0 (some (.int z.1)) z.2) : zPJ X 0 0 46 [(0, .ref v0), (1, .int v1), (2, .int v2), (3, .int v3), (4, .int v4), (5, .int v5)] [] σ := by
  unfold f_W_was_46 at h
  refine zj_iload o (zdd k_W_was 28 rfl) 5 rfl ?_
  refine zj_iconst o (zdd k_W_was 29 rfl) zki_1 ?_
  refine zj_aload_n o (zdd k_W_was 30 rfl) rfl 0 rfl ?_
  obtain ⟨a1, e_a1, h⟩ := zbd h
  refine zj_gP o (zdd k_W_was 31 rfl) fl_W_16 rfl e_a1 ?_
  obtain ⟨x2, e_x2, h⟩ := zbd h
  refine zj_gI o (zdd k_W_was 32 rfl) fl_W_231 rfl e_x2 ?_
  refine zj_ishl o (zdd k_W_was 33 rfl) ?_
  refine zj_icmp_ge (tgt := 108) o (zdd k_W_was 34 rfl) (by decide) (fun hc => ?_) (fun hc => ?_)
  · rw [if_pos hc] at h
    exact zj_sub [1, 2, 3, 4] rfl (r_W_was_108 o  h hr)
  · rw [if_neg hc] at h
    refine zj_aload_n o (zdd k_W_was 35 rfl) rfl 0 rfl ?_
    obtain ⟨a3, e_a3, h⟩ := zbd h
    refine zj_gP o (zdd k_W_was 36 rfl) fl_W_56 rfl e_a3 ?_
    refine zj_iload o (zdd k_W_was 37 rfl) 5 rfl ?_
    obtain ⟨σ4, e_σ4, h⟩ := zbd h
    refine zc_V o (zdd k_W_was 38 rfl) ml_W_183 mv_S_lay ⟨rfl, by decide⟩ (zg_some e_σ4).1 (by decide) [.int v5] [] rfl (Nat.le_of_ble_eq_true rfl) rfl (m_S_lay e_σ4) ?_
    change zPJ X 0 0 _ _ [] _
    refine zj_aload_n o (zdd k_W_was 39 rfl) rfl 0 rfl ?_
    obtain ⟨a5, e_a5, h⟩ := zbd h
    refine zj_gP o (zdd k_W_was 40 rfl) fl_W_56 rfl e_a5 ?_
    refine zj_aload_n o (zdd k_W_was 41 rfl) rfl 0 rfl ?_
    obtain ⟨a6, e_a6, h⟩ := zbd h
    refine zj_gP o (zdd k_W_was 42 rfl) fl_W_91 rfl e_a6 ?_
    refine zj_aload_n o (zdd k_W_was 43 rfl) rfl 0 rfl ?_
    obtain ⟨x7, e_x7, h⟩ := zbd h
    refine zj_gI o (zdd k_W_was 44 rfl) fl_W_121 rfl e_x7 ?_
    obtain ⟨x8, e_x8, h⟩ := zbd h
    refine zc_V o (zdd k_W_was 45 rfl) ml_W_299 mv_S_beginsWith ⟨rfl, by decide⟩ (zg_some e_x8).1 (by decide) [.ref a6, .int x7] [] rfl (Nat.le_of_ble_eq_true rfl) rfl (m_S_beginsWith e_x8) ?_
    change zPJ X 0 0 _ _ [.int x8] _
    refine zj_if_eq (tgt := 102) o (zdd k_W_was 46 rfl) (by decide) (fun hc => ?_) (fun hc => ?_)
    · rw [if_pos hc] at h
      refine zj_iinc (v := v5 + 1) (loc' := [(5, .int (v5 + 1)), (0, .ref v0), (1, .int v1), (2, .int v2), (3, .int v3), (4, .int v4)]) o (zdd k_W_was 56 rfl) 5 rfl (by rw [zki_1]) (by decide) rfl ?_
      refine zj_goto (tgt := 46) o (zdd k_W_was 57 rfl) (by decide) ?_
      exact zj_sub [1, 2, 3, 4, 5, 0] rfl (hk46 h hr)
    · rw [if_neg hc] at h
      refine zj_iinc (v := v2 + 1) (loc' := [(2, .int (v2 + 1)), (0, .ref v0), (1, .int v1), (3, .int v3), (4, .int v4), (5, .int v5)]) o (zdd k_W_was 47 rfl) 2 rfl (by rw [zki_1]) (by decide) rfl ?_
      refine zj_iload_n o (zdd k_W_was 48 rfl) rfl 3 rfl ?_
      refine zj_iload o (zdd k_W_was 49 rfl) 5 rfl ?_
      refine zj_iand o (zdd k_W_was 50 rfl) ?_
      refine zj_istore_n (loc' := [(3, .int (v3 &&& v5)), (2, .int (v2 + 1)), (0, .ref v0), (1, .int v1), (4, .int v4), (5, .int v5)]) o (zdd k_W_was 51 rfl) rfl (by decide) rfl ?_
      refine zj_iload o (zdd k_W_was 52 rfl) 4 rfl ?_
      refine zj_iload o (zdd k_W_was 53 rfl) 5 rfl ?_
      refine zj_ior o (zdd k_W_was 54 rfl) ?_
      refine zj_istore (loc' := [(4, .int (v4 ||| v5)), (3, .int (v3 &&& v5)), (2, .int (v2 + 1)), (0, .ref v0), (1, .int v1), (5, .int v5)]) o (zdd k_W_was 55 rfl) (by decide) rfl ?_
      refine zj_iinc (v := v5 + 1) (loc' := [(5, .int (v5 + 1)), (4, .int (v4 ||| v5)), (3, .int (v3 &&& v5)), (2, .int (v2 + 1)), (0, .ref v0), (1, .int v1)]) o (zdd k_W_was 56 rfl) 5 rfl (by rw [zki_1]) (by decide) rfl ?_
      refine zj_goto (tgt := 46) o (zdd k_W_was 57 rfl) (by decide) ?_
      exact zj_sub [4, 5, 3, 2, 1, 0] rfl (hk46 h hr)
def f_W_was_46L : Nat → zSt → Nat → Int32 → Int32 → Int32 → Int32 → Int32 → Option (Int32 × zSt)
  | 0 => fun _ _ _ _ _ _ _ => none
  | n + 1 => f_W_was_46  (f_W_was_46L  n)
theorem r_W_was_46L {X : zCX} (o : zOK X "WantShelves" c_W_was n_W_was 7) : ∀ (n : Nat) {σ : zSt} {v0 : Nat} {v1 : Int32} {v2 : Int32} {v3 : Int32} {v4 : Int32} {v5 : Int32} {z : Int32 × zSt}, f_W_was_46L n σ v0 v1 v2 v3 v4 v5 = some z → zRX X 0 0 (some (.int z.1)) z.2 → zPJ X 0 0 46 [(0, .ref v0), (1, .int v1), (2, .int v2), (3, .int v3), (4, .int v4), (5, .int v5)] [] σ
  | 0 => fun h _ => by cases h
  | n + 1 => fun h hr => r_W_was_46 o (r_W_was_46L o  n) h hr
def f_W_was (σ : zSt) (t : Nat) (p0 : Int32) : Option (Int32 × zSt) :=
zg σ 11 t (
if p0 < 0 then (
some ((-1), σ)) else
if p0 ≤ 2 then (
(zgP σ 11 t 9).bind fun a1 =>
(zgP σ 11 t 2).bind fun a2 =>
(zgP σ 11 t 5).bind fun a3 =>
(f_S_open σ a1 a2 a3).bind fun σ4 =>
(zgP σ4 11 t 2).bind fun a5 =>
(zgI σ4 10 a5 2).bind fun x6 =>
f_W_was_46L zfu σ4 t p0 0 ((1 <<< (x6 &&& 31)) - 1) 0 0) else
some ((-1), σ))
set_option maxRecDepth 100000 in
set_option maxHeartbeats 4000000 in
theorem m_W_was {l : Launch} {b : Nat} {ex : Nat → Value} {D : va_G} {ca : Nat → ClassId} {σ : zSt} {t : Nat} {p0 : Int32} {z : Int32 × zSt} (h : f_W_was σ t p0 = some z) : zMT l b ex D ca 7 y_W_was c_W_was n_W_was r_ret_W_was [.ref t, .int p0] σ (some (.int z.1)) z.2 0 0 := by
  obtain ⟨_, hg0⟩ := zg_some h
  have h := hg0
  refine zmt_of (by decide) (Nat.le_of_ble_eq_true rfl) ⟨.int, rfl, rfl⟩ (fun X o hin hrm _ _ _ _ _ hr => ?_)
  have hr := hr 0 0 (by decide) (by decide)
  have o : zOK X "WantShelves" c_W_was n_W_was 7 := o
  change zPJ X 0 0 0 [(0, .ref t), (1, .int p0)] [] σ
  refine zj_iload_n o (zdd k_W_was 0 rfl) rfl 1 rfl ?_
  refine zj_if_lt (tgt := 9) o (zdd k_W_was 1 rfl) (by decide) (fun hc => ?_) (fun hc => ?_)
  · rw [if_pos hc] at h
    refine zj_iconst o (zdd k_W_was 5 rfl) zki_m1 ?_
    cases h
    exact zr_i o hr (zdd k_W_was 6 rfl)
  · rw [if_neg hc] at h
    refine zj_iload_n o (zdd k_W_was 2 rfl) rfl 1 rfl ?_
    refine zj_iconst o (zdd k_W_was 3 rfl) zki_2 ?_
    refine zj_icmp_le (tgt := 11) o (zdd k_W_was 4 rfl) (by decide) (fun hc => ?_) (fun hc => ?_)
    · rw [if_pos hc] at h
      refine zj_aload_n o (zdd k_W_was 7 rfl) rfl 0 rfl ?_
      obtain ⟨a1, e_a1, h⟩ := zbd h
      refine zj_gP o (zdd k_W_was 8 rfl) fl_W_56 rfl e_a1 ?_
      refine zj_aload_n o (zdd k_W_was 9 rfl) rfl 0 rfl ?_
      obtain ⟨a2, e_a2, h⟩ := zbd h
      refine zj_gP o (zdd k_W_was 10 rfl) fl_W_16 rfl e_a2 ?_
      refine zj_aload_n o (zdd k_W_was 11 rfl) rfl 0 rfl ?_
      obtain ⟨a3, e_a3, h⟩ := zbd h
      refine zj_gP o (zdd k_W_was 12 rfl) fl_W_35 rfl e_a3 ?_
      obtain ⟨σ4, e_σ4, h⟩ := zbd h
      refine zc_V o (zdd k_W_was 13 rfl) ml_W_166 mv_S_open ⟨rfl, by decide⟩ (zg_some e_σ4).1 (by decide) [.ref a2, .ref a3] [] rfl (Nat.le_of_ble_eq_true rfl) rfl (m_S_open e_σ4) ?_
      change zPJ X 0 0 _ _ [] _
      refine zj_iconst o (zdd k_W_was 14 rfl) zki_0 ?_
      refine zj_istore_n (loc' := [(2, .int 0), (0, .ref t), (1, .int p0)]) o (zdd k_W_was 15 rfl) rfl (by decide) rfl ?_
      refine zj_iconst o (zdd k_W_was 16 rfl) zki_1 ?_
      refine zj_aload_n o (zdd k_W_was 17 rfl) rfl 1 rfl ?_
      obtain ⟨a5, e_a5, h⟩ := zbd h
      refine zj_gP o (zdd k_W_was 18 rfl) fl_W_16 rfl e_a5 ?_
      obtain ⟨x6, e_x6, h⟩ := zbd h
      refine zj_gI o (zdd k_W_was 19 rfl) fl_W_231 rfl e_x6 ?_
      refine zj_ishl o (zdd k_W_was 20 rfl) ?_
      refine zj_iconst o (zdd k_W_was 21 rfl) zki_1 ?_
      refine zj_isub o (zdd k_W_was 22 rfl) ?_
      refine zj_istore_n (loc' := [(3, .int ((1 <<< (x6 &&& 31)) - 1)), (2, .int 0), (0, .ref t), (1, .int p0)]) o (zdd k_W_was 23 rfl) rfl (by decide) rfl ?_
      refine zj_iconst o (zdd k_W_was 24 rfl) zki_0 ?_
      refine zj_istore (loc' := [(4, .int 0), (3, .int ((1 <<< (x6 &&& 31)) - 1)), (2, .int 0), (0, .ref t), (1, .int p0)]) o (zdd k_W_was 25 rfl) (by decide) rfl ?_
      refine zj_iconst o (zdd k_W_was 26 rfl) zki_0 ?_
      refine zj_istore (loc' := [(5, .int 0), (4, .int 0), (3, .int ((1 <<< (x6 &&& 31)) - 1)), (2, .int 0), (0, .ref t), (1, .int p0)]) o (zdd k_W_was 27 rfl) (by decide) rfl ?_
      exact zj_sub [4, 5, 3, 2, 1, 0] rfl (r_W_was_46L o  zfu h hr)
    · rw [if_neg hc] at h
      refine zj_iconst o (zdd k_W_was 5 rfl) zki_m1 ?_
      cases h
      exact zr_i o hr (zdd k_W_was 6 rfl)
def f_W_one_31 (k31 : zSt → Nat → Int32 → Int32 → Option (Int32 × zSt)) (σ : zSt) (v0 : Nat) (v1 : Int32) (v2 : Int32) : Option (Int32 × zSt) :=
(zgP σ 11 v0 2).bind fun a1 =>
(zgI σ 10 a1 1).bind fun x2 =>
if x2 ≤ v2 then (
some (v1, σ)) else
(zgP σ 11 v0 9).bind fun a3 =>
(f_S_laidAt σ a3 v2).bind fun x4 =>
if x4 = (-1) then (
k31 σ v0 v1 (v2 + 1)) else
(f_W_layDown σ v0 x4).bind fun σ5 =>
(zgP σ5 11 v0 9).bind fun a6 =>
(f_S_walkersTo σ5 a6 x4).bind fun x7 =>
(zgP σ5 11 v0 2).bind fun a8 =>
(f_D_stepsTo σ5 a8 v2).bind fun x9 =>
k31 σ5 v0 (v1 + (x7 * x9)) (v2 + 1)
set_option maxRecDepth 100000 in
set_option maxHeartbeats 4000000 in
theorem r_W_one_31 {X : zCX} (o : zOK X "WantShelves" c_W_one n_W_one 7) {k31 : zSt → Nat → Int32 → Int32 → Option (Int32 × zSt)} (hk31 : ∀ {σ : zSt} {v0 : Nat} {v1 : Int32} {v2 : Int32} {z : Int32 × zSt}, k31 σ v0 v1 v2 = some z → zRX X 0 0 (some (.int z.1)) z.2 → zPJ X 0 0 31 [(0, .ref v0), (1, .int v1), (2, .int v2)] [] σ) {σ : zSt} {v0 : Nat} {v1 : Int32} {v2 : Int32} {z : Int32 × zSt} (h : f_W_one_31 k31 σ v0 v1 v2 = some z) (hr : zRX X 0 0 (some (.int z.1)) z.2) : zPJ X 0 0 31 [(0, .ref v0), (1, .int v1), (2, .int v2)] [] σ := by
  unfold f_W_one_31 at h
  refine zj_iload_n o (zdd k_W_one 17 rfl) rfl 2 rfl ?_
  refine zj_aload_n o (zdd k_W_one 18 rfl) rfl 0 rfl ?_
  obtain ⟨a1, e_a1, h⟩ := zbd h
  refine zj_gP o (zdd k_W_one 19 rfl) fl_W_16 rfl e_a1 ?_
  obtain ⟨x2, e_x2, h⟩ := zbd h
  refine zj_gI o (zdd k_W_one 20 rfl) fl_W_127 rfl e_x2 ?_
  refine zj_icmp_ge (tgt := 87) o (zdd k_W_one 21 rfl) (by decide) (fun hc => ?_) (fun hc => ?_)
  · rw [if_pos hc] at h
    refine zj_iload_n o (zdd k_W_one 47 rfl) rfl 1 rfl ?_
    cases h
    exact zr_i o hr (zdd k_W_one 48 rfl)
  · rw [if_neg hc] at h
    refine zj_aload_n o (zdd k_W_one 22 rfl) rfl 0 rfl ?_
    obtain ⟨a3, e_a3, h⟩ := zbd h
    refine zj_gP o (zdd k_W_one 23 rfl) fl_W_56 rfl e_a3 ?_
    refine zj_iload_n o (zdd k_W_one 24 rfl) rfl 2 rfl ?_
    obtain ⟨x4, e_x4, h⟩ := zbd h
    refine zc_V o (zdd k_W_one 25 rfl) ml_W_186 mv_S_laidAt ⟨rfl, by decide⟩ (zg_some e_x4).1 (by decide) [.int v2] [] rfl (Nat.le_of_ble_eq_true rfl) rfl (m_S_laidAt e_x4) ?_
    change zPJ X 0 0 _ _ [.int x4] _
    refine zj_istore_n (loc' := [(3, .int x4), (0, .ref v0), (1, .int v1), (2, .int v2)]) o (zdd k_W_one 26 rfl) rfl (by decide) rfl ?_
    refine zj_iload_n o (zdd k_W_one 27 rfl) rfl 0 rfl ?_
    refine zj_iconst o (zdd k_W_one 28 rfl) zki_m1 ?_
    refine zj_icmp_eq (tgt := 81) o (zdd k_W_one 29 rfl) (by decide) (fun hc => ?_) (fun hc => ?_)
    · rw [if_pos hc] at h
      refine zj_iinc (v := v2 + 1) (loc' := [(2, .int (v2 + 1)), (3, .int x4), (0, .ref v0), (1, .int v1)]) o (zdd k_W_one 45 rfl) 3 rfl (by rw [zki_1]) (by decide) rfl ?_
      refine zj_goto (tgt := 31) o (zdd k_W_one 46 rfl) (by decide) ?_
      exact zj_sub [2, 3, 0] rfl (hk31 h hr)
    · rw [if_neg hc] at h
      refine zj_aload_n o (zdd k_W_one 30 rfl) rfl 1 rfl ?_
      refine zj_iload_n o (zdd k_W_one 31 rfl) rfl 0 rfl ?_
      obtain ⟨σ5, e_σ5, h⟩ := zbd h
      refine zc_V o (zdd k_W_one 32 rfl) ml_W_228 mv_W_layDown ⟨rfl, by decide⟩ (zg_some e_σ5).1 (by decide) [.int x4] [] rfl (Nat.le_of_ble_eq_true rfl) rfl (m_W_layDown e_σ5) ?_
      change zPJ X 0 0 _ _ [] _
      refine zj_iload_n o (zdd k_W_one 33 rfl) rfl 2 rfl ?_
      refine zj_aload_n o (zdd k_W_one 34 rfl) rfl 1 rfl ?_
      obtain ⟨a6, e_a6, h⟩ := zbd h
      refine zj_gP o (zdd k_W_one 35 rfl) fl_W_56 rfl e_a6 ?_
      refine zj_iload_n o (zdd k_W_one 36 rfl) rfl 0 rfl ?_
      obtain ⟨x7, e_x7, h⟩ := zbd h
      refine zc_V o (zdd k_W_one 37 rfl) ml_W_306 mv_S_walkersTo ⟨rfl, by decide⟩ (zg_some e_x7).1 (by decide) [.int x4] [.int v1] rfl (Nat.le_of_ble_eq_true rfl) rfl (m_S_walkersTo e_x7) ?_
      change zPJ X 0 0 _ _ [.int x7, .int v1] _
      refine zj_aload_n o (zdd k_W_one 38 rfl) rfl 1 rfl ?_
      obtain ⟨a8, e_a8, h⟩ := zbd h
      refine zj_gP o (zdd k_W_one 39 rfl) fl_W_16 rfl e_a8 ?_
      refine zj_iload_n o (zdd k_W_one 40 rfl) rfl 3 rfl ?_
      obtain ⟨x9, e_x9, h⟩ := zbd h
      refine zc_V o (zdd k_W_one 41 rfl) ml_W_189 mv_D_stepsTo ⟨rfl, by decide⟩ (zg_some e_x9).1 (by decide) [.int v2] [.int x7, .int v1] rfl (Nat.le_of_ble_eq_true rfl) rfl (m_D_stepsTo e_x9) ?_
      change zPJ X 0 0 _ _ [.int x9, .int x7, .int v1] _
      refine zj_imul o (zdd k_W_one 42 rfl) ?_
      refine zj_iadd o (zdd k_W_one 43 rfl) ?_
      refine zj_istore_n (loc' := [(1, .int (v1 + (x7 * x9))), (3, .int x4), (0, .ref v0), (2, .int v2)]) o (zdd k_W_one 44 rfl) rfl (by decide) rfl ?_
      refine zj_iinc (v := v2 + 1) (loc' := [(2, .int (v2 + 1)), (1, .int (v1 + (x7 * x9))), (3, .int x4), (0, .ref v0)]) o (zdd k_W_one 45 rfl) 3 rfl (by rw [zki_1]) (by decide) rfl ?_
      refine zj_goto (tgt := 31) o (zdd k_W_one 46 rfl) (by decide) ?_
      exact zj_sub [3, 1, 0] rfl (hk31 h hr)
def f_W_one_31L : Nat → zSt → Nat → Int32 → Int32 → Option (Int32 × zSt)
  | 0 => fun _ _ _ _ => none
  | n + 1 => f_W_one_31  (f_W_one_31L  n)
theorem r_W_one_31L {X : zCX} (o : zOK X "WantShelves" c_W_one n_W_one 7) : ∀ (n : Nat) {σ : zSt} {v0 : Nat} {v1 : Int32} {v2 : Int32} {z : Int32 × zSt}, f_W_one_31L n σ v0 v1 v2 = some z → zRX X 0 0 (some (.int z.1)) z.2 → zPJ X 0 0 31 [(0, .ref v0), (1, .int v1), (2, .int v2)] [] σ
  | 0 => fun h _ => by cases h
  | n + 1 => fun h hr => r_W_one_31 o (r_W_one_31L o  n) h hr
def f_W_one (σ : zSt) (t : Nat) : Option (Int32 × zSt) :=
zg σ 11 t (
(zsI σ 11 t 18 0).bind fun σ1 =>
(zgP σ1 11 t 9).bind fun a2 =>
(zgP σ1 11 t 2).bind fun a3 =>
(zgP σ1 11 t 5).bind fun a4 =>
(f_S_open σ1 a2 a3 a4).bind fun σ5 =>
(zgP σ5 11 t 9).bind fun a6 =>
(f_S_layByOdds σ5 a6).bind fun σ7 =>
f_W_one_31L zfu σ7 t 0 0)
set_option maxRecDepth 100000 in
set_option maxHeartbeats 4000000 in
theorem m_W_one {l : Launch} {b : Nat} {ex : Nat → Value} {D : va_G} {ca : Nat → ClassId} {σ : zSt} {t : Nat} {z : Int32 × zSt} (h : f_W_one σ t = some z) : zMT l b ex D ca 7 y_W_one c_W_one n_W_one r_ret_W_one [.ref t] σ (some (.int z.1)) z.2 0 0 := by
  obtain ⟨_, hg0⟩ := zg_some h
  have h := hg0
  refine zmt_of (by decide) (Nat.le_of_ble_eq_true rfl) ⟨.int, rfl, rfl⟩ (fun X o hin hrm _ _ _ _ _ hr => ?_)
  have hr := hr 0 0 (by decide) (by decide)
  have o : zOK X "WantShelves" c_W_one n_W_one 7 := o
  change zPJ X 0 0 0 [(0, .ref t)] [] σ
  refine zj_aload_n o (zdd k_W_one 0 rfl) rfl 0 rfl ?_
  refine zj_iconst o (zdd k_W_one 1 rfl) zki_0 ?_
  obtain ⟨σ1, e_σ1, h⟩ := zbd h
  refine zj_pI o (zdd k_W_one 2 rfl) fl_W_124 rfl rfl e_σ1 ?_
  refine zj_aload_n o (zdd k_W_one 3 rfl) rfl 0 rfl ?_
  obtain ⟨a2, e_a2, h⟩ := zbd h
  refine zj_gP o (zdd k_W_one 4 rfl) fl_W_56 rfl e_a2 ?_
  refine zj_aload_n o (zdd k_W_one 5 rfl) rfl 0 rfl ?_
  obtain ⟨a3, e_a3, h⟩ := zbd h
  refine zj_gP o (zdd k_W_one 6 rfl) fl_W_16 rfl e_a3 ?_
  refine zj_aload_n o (zdd k_W_one 7 rfl) rfl 0 rfl ?_
  obtain ⟨a4, e_a4, h⟩ := zbd h
  refine zj_gP o (zdd k_W_one 8 rfl) fl_W_35 rfl e_a4 ?_
  obtain ⟨σ5, e_σ5, h⟩ := zbd h
  refine zc_V o (zdd k_W_one 9 rfl) ml_W_166 mv_S_open ⟨rfl, by decide⟩ (zg_some e_σ5).1 (by decide) [.ref a3, .ref a4] [] rfl (Nat.le_of_ble_eq_true rfl) rfl (m_S_open e_σ5) ?_
  change zPJ X 0 0 _ _ [] _
  refine zj_aload_n o (zdd k_W_one 10 rfl) rfl 0 rfl ?_
  obtain ⟨a6, e_a6, h⟩ := zbd h
  refine zj_gP o (zdd k_W_one 11 rfl) fl_W_56 rfl e_a6 ?_
  obtain ⟨σ7, e_σ7, h⟩ := zbd h
  refine zc_V o (zdd k_W_one 12 rfl) ml_W_303 mv_S_layByOdds ⟨rfl, by decide⟩ (zg_some e_σ7).1 (by decide) [] [] rfl (Nat.le_of_ble_eq_true rfl) rfl (m_S_layByOdds e_σ7) ?_
  change zPJ X 0 0 _ _ [] _
  refine zj_iconst o (zdd k_W_one 13 rfl) zki_0 ?_
  refine zj_istore_n (loc' := [(1, .int 0), (0, .ref t)]) o (zdd k_W_one 14 rfl) rfl (by decide) rfl ?_
  refine zj_iconst o (zdd k_W_one 15 rfl) zki_0 ?_
  refine zj_istore_n (loc' := [(2, .int 0), (1, .int 0), (0, .ref t)]) o (zdd k_W_one 16 rfl) rfl (by decide) rfl ?_
  exact zj_sub [2, 1, 0] rfl (r_W_one_31L o  zfu h hr)
def f_W_commonDivisor_3 (k3 : Int64 → Int64 → Int32 → Option (Int64)) (v0 : Int64) (v2 : Int64) (v4 : Int32) : Option (Int64) :=
if 100 ≤ v4 then (
some v0) else
if lg_cmp v2 0 = 0 then (
some v0) else
(znZ v2).bind fun n1 =>
k3 v2 (zremL v0 v2) (v4 + 1)
set_option maxRecDepth 100000 in
set_option maxHeartbeats 4000000 in
theorem r_W_commonDivisor_3 {X : zCX} (o : zOK X "WantShelves" c_W_commonDivisor n_W_commonDivisor 1) {k3 : Int64 → Int64 → Int32 → Option (Int64)} (hk3 : ∀ {σ : zSt} {v0 : Int64} {v2 : Int64} {v4 : Int32} {z : Int64}, k3 v0 v2 v4 = some z → zRX X 0 0 (some (.long z)) σ → zPJ X 0 0 3 [(0, .long v0), (2, .long v2), (4, .int v4)] [] σ) {σ : zSt} {v0 : Int64} {v2 : Int64} {v4 : Int32} {z : Int64} (h : f_W_commonDivisor_3 k3 v0 v2 v4 = some z) (hr : zRX X 0 0 (some (.long z)) σ) : zPJ X 0 0 3 [(0, .long v0), (2, .long v2), (4, .int v4)] [] σ := by
  unfold f_W_commonDivisor_3 at h
  refine zj_iload o (zdd k_W_commonDivisor 2 rfl) 2 rfl ?_
  refine zj_bipush o (zdd k_W_commonDivisor 3 rfl) zkb_100 ?_
  refine zj_icmp_ge (tgt := 32) o (zdd k_W_commonDivisor 4 rfl) (by decide) (fun hc => ?_) (fun hc => ?_)
  · rw [if_pos hc] at h
    refine zj_lload_n o (zdd k_W_commonDivisor 19 rfl) rfl 0 rfl ?_
    cases h
    exact zr_l o hr (zdd k_W_commonDivisor 20 rfl)
  · rw [if_neg hc] at h
    refine zj_lload_n o (zdd k_W_commonDivisor 5 rfl) rfl 1 rfl ?_
    refine zj_lconst (v := 0) o (zdd k_W_commonDivisor 6 rfl) rfl ?_
    refine zj_lcmp o (zdd k_W_commonDivisor 7 rfl) ?_
    refine zj_if_eq (tgt := 32) o (zdd k_W_commonDivisor 8 rfl) (by decide) (fun hc => ?_) (fun hc => ?_)
    · rw [if_pos hc] at h
      refine zj_lload_n o (zdd k_W_commonDivisor 19 rfl) rfl 0 rfl ?_
      cases h
      exact zr_l o hr (zdd k_W_commonDivisor 20 rfl)
    · rw [if_neg hc] at h
      refine zj_lload_n o (zdd k_W_commonDivisor 9 rfl) rfl 0 rfl ?_
      refine zj_lload_n o (zdd k_W_commonDivisor 10 rfl) rfl 1 rfl ?_
      obtain ⟨n1, e_n1, h⟩ := zbd h
      refine zj_lrem o (zdd k_W_commonDivisor 11 rfl) (znZ_some e_n1).1 ?_
      change zPJ X 0 0 _ _ [.long (zremL v0 v2)] _
      refine zj_lstore (loc' := [(5, .long (zremL v0 v2)), (0, .long v0), (2, .long v2), (4, .int v4)]) o (zdd k_W_commonDivisor 12 rfl) (by decide) rfl ?_
      refine zj_lload_n o (zdd k_W_commonDivisor 13 rfl) rfl 2 rfl ?_
      refine zj_lstore_n (loc' := [(0, .long v2), (5, .long (zremL v0 v2)), (2, .long v2), (4, .int v4)]) o (zdd k_W_commonDivisor 14 rfl) rfl (by decide) rfl ?_
      refine zj_lload o (zdd k_W_commonDivisor 15 rfl) 1 rfl ?_
      refine zj_lstore_n (loc' := [(2, .long (zremL v0 v2)), (0, .long v2), (5, .long (zremL v0 v2)), (4, .int v4)]) o (zdd k_W_commonDivisor 16 rfl) rfl (by decide) rfl ?_
      refine zj_iinc (v := v4 + 1) (loc' := [(4, .int (v4 + 1)), (2, .long (zremL v0 v2)), (0, .long v2), (5, .long (zremL v0 v2))]) o (zdd k_W_commonDivisor 17 rfl) 3 rfl (by rw [zki_1]) (by decide) rfl ?_
      refine zj_goto (tgt := 3) o (zdd k_W_commonDivisor 18 rfl) (by decide) ?_
      exact zj_sub [2, 1, 0] rfl (hk3 h hr)
def f_W_commonDivisor_3L : Nat → Int64 → Int64 → Int32 → Option (Int64)
  | 0 => fun _ _ _ => none
  | n + 1 => f_W_commonDivisor_3  (f_W_commonDivisor_3L  n)
theorem r_W_commonDivisor_3L {X : zCX} (o : zOK X "WantShelves" c_W_commonDivisor n_W_commonDivisor 1) : ∀ (n : Nat) {σ : zSt} {v0 : Int64} {v2 : Int64} {v4 : Int32} {z : Int64}, f_W_commonDivisor_3L n v0 v2 v4 = some z → zRX X 0 0 (some (.long z)) σ → zPJ X 0 0 3 [(0, .long v0), (2, .long v2), (4, .int v4)] [] σ
  | 0 => fun h _ => by cases h
  | n + 1 => fun h hr => r_W_commonDivisor_3 o (r_W_commonDivisor_3L o  n) h hr
def f_W_commonDivisor (p0 : Int64) (p1 : Int64) : Option (Int64) :=
f_W_commonDivisor_3L zfu p0 p1 0
set_option maxRecDepth 100000 in
set_option maxHeartbeats 4000000 in
theorem m_W_commonDivisor {l : Launch} {b : Nat} {ex : Nat → Value} {D : va_G} {ca : Nat → ClassId} {σ : zSt} {p0 : Int64} {p1 : Int64} {z : Int64} (h : f_W_commonDivisor p0 p1 = some z) : zMT l b ex D ca 1 y_W_commonDivisor c_W_commonDivisor n_W_commonDivisor r_ret_W_commonDivisor [.long p0, .long p1] σ (some (.long z)) σ 0 0 := by
  unfold f_W_commonDivisor at h
  refine zmt_of (by decide) (Nat.le_of_ble_eq_true rfl) rfl (fun X o hin hrm _ _ _ _ _ hr => ?_)
  have hr := hr 0 0 (by decide) (by decide)
  have o : zOK X "WantShelves" c_W_commonDivisor n_W_commonDivisor 1 := o
  change zPJ X 0 0 0 [(0, .long p0), (2, .long p1)] [] σ
  refine zj_iconst o (zdd k_W_commonDivisor 0 rfl) zki_0 ?_
  refine zj_istore (loc' := [(4, .int 0), (0, .long p0), (2, .long p1)]) o (zdd k_W_commonDivisor 1 rfl) (by decide) rfl ?_
  exact zj_sub [1, 2, 0] rfl (r_W_commonDivisor_3L o  zfu h hr)
def f_W_crowd_149 (σ : zSt) (v8 : Int64) (s0 : Int64) : Option (Int64 × zSt) :=
if lg_cmp v8 0 = 0 then (
some (s0, σ)) else
(znZ v8).bind fun n1 =>
some (s0 / v8, σ)
set_option maxRecDepth 100000 in
set_option maxHeartbeats 4000000 in
theorem r_W_crowd_149 {X : zCX} (o : zOK X "WantShelves" c_W_crowd n_W_crowd 7) {σ : zSt} {v8 : Int64} {s0 : Int64} {z : Int64 × zSt} (h : f_W_crowd_149 σ v8 s0 = some z) (hr : zRX X 0 0 (some (.long z.1)) z.2) : zPJ X 0 0 149 [(8, .long v8)] [.long s0] σ := by
  unfold f_W_crowd_149 at h
  refine zj_lstore (loc' := [(10, .long s0), (8, .long v8)]) o (zdd k_W_crowd 72 rfl) (by decide) rfl ?_
  refine zj_lload o (zdd k_W_crowd 73 rfl) 1 rfl ?_
  refine zj_lconst (v := 0) o (zdd k_W_crowd 74 rfl) rfl ?_
  refine zj_lcmp o (zdd k_W_crowd 75 rfl) ?_
  refine zj_if_ne (tgt := 163) o (zdd k_W_crowd 76 rfl) (by decide) (fun hc => ?_) (fun hc => ?_)
  · rw [if_neg hc] at h
    refine zj_lload o (zdd k_W_crowd 79 rfl) 0 rfl ?_
    refine zj_lload o (zdd k_W_crowd 80 rfl) 1 rfl ?_
    obtain ⟨n1, e_n1, h⟩ := zbd h
    refine zj_ldiv o (zdd k_W_crowd 81 rfl) (znZ_some e_n1).1 ?_
    cases h
    exact zr_l o hr (zdd k_W_crowd 82 rfl)
  · rw [if_pos hc] at h
    refine zj_lload o (zdd k_W_crowd 77 rfl) 0 rfl ?_
    refine zj_goto (tgt := 168) o (zdd k_W_crowd 78 rfl) (by decide) ?_
    cases h
    exact zr_l o hr (zdd k_W_crowd 82 rfl)
def f_W_crowd_129 (σ : zSt) (v3 : Int32) (v4 : Int64) (v6 : Int64) : Option (Int64 × zSt) :=
(f_W_commonDivisor v4 v6).bind fun x1 =>
if v3 = 0 then (
f_W_crowd_149 σ x1 v4) else
f_W_crowd_149 σ x1 v6
set_option maxRecDepth 100000 in
set_option maxHeartbeats 4000000 in
theorem r_W_crowd_129 {X : zCX} (o : zOK X "WantShelves" c_W_crowd n_W_crowd 7) {σ : zSt} {v3 : Int32} {v4 : Int64} {v6 : Int64} {z : Int64 × zSt} (h : f_W_crowd_129 σ v3 v4 v6 = some z) (hr : zRX X 0 0 (some (.long z.1)) z.2) : zPJ X 0 0 129 [(3, .int v3), (4, .long v4), (6, .long v6)] [] σ := by
  unfold f_W_crowd_129 at h
  refine zj_lload o (zdd k_W_crowd 63 rfl) 1 rfl ?_
  refine zj_lload o (zdd k_W_crowd 64 rfl) 2 rfl ?_
  obtain ⟨x1, e_x1, h⟩ := zbd h
  refine zc_S o (zdd k_W_crowd 65 rfl) ml_W_317 ms_W_commonDivisor (by decide) [.long v4, .long v6] [] rfl (Nat.le_of_ble_eq_true rfl) rfl (m_W_commonDivisor e_x1) ?_
  change zPJ X 0 0 _ _ [.long x1] _
  refine zj_lstore (loc' := [(8, .long x1), (3, .int v3), (4, .long v4), (6, .long v6)]) o (zdd k_W_crowd 66 rfl) (by decide) rfl ?_
  refine zj_iload_n o (zdd k_W_crowd 67 rfl) rfl 1 rfl ?_
  refine zj_if_ne (tgt := 147) o (zdd k_W_crowd 68 rfl) (by decide) (fun hc => ?_) (fun hc => ?_)
  · rw [if_neg hc] at h
    refine zj_lload o (zdd k_W_crowd 71 rfl) 3 rfl ?_
    exact zj_sub [0] rfl (r_W_crowd_149 o  h hr)
  · rw [if_pos hc] at h
    refine zj_lload o (zdd k_W_crowd 69 rfl) 2 rfl ?_
    refine zj_goto (tgt := 149) o (zdd k_W_crowd 70 rfl) (by decide) ?_
    exact zj_sub [0] rfl (r_W_crowd_149 o  h hr)
def f_W_crowd_74 (k74 : zSt → Nat → Int32 → Int32 → Int32 → Int64 → Int64 → Int32 → Option (Int64 × zSt)) (σ : zSt) (v0 : Nat) (v1 : Int32) (v2 : Int32) (v3 : Int32) (v4 : Int64) (v6 : Int64) (v8 : Int32) : Option (Int64 × zSt) :=
(zgP σ 11 v0 2).bind fun a1 =>
(zgI σ 10 a1 2).bind fun x2 =>
if 1 <<< (x2 &&& 31) ≤ v8 then (
f_W_crowd_129 σ v3 v4 v6) else
(zgP σ 11 v0 2).bind fun a3 =>
(zgP σ 11 v0 9).bind fun a4 =>
(f_S_placeFor σ a4 v8 v1).bind fun q5 =>
(f_D_stepsTo q5.2 a3 q5.1).bind fun x6 =>
if v2 < x6 then (
k74 q5.2 v0 v1 v2 v3 v4 v6 (v8 + 1)) else
(zgP q5.2 11 v0 2).bind fun a7 =>
(f_D_oddsOf q5.2 a7 v8).bind fun x8 =>
k74 q5.2 v0 v1 v2 v3 (v4 + x8) v6 (v8 + 1)
set_option maxRecDepth 100000 in
set_option maxHeartbeats 4000000 in
theorem r_W_crowd_74 {X : zCX} (o : zOK X "WantShelves" c_W_crowd n_W_crowd 7) {k74 : zSt → Nat → Int32 → Int32 → Int32 → Int64 → Int64 → Int32 → Option (Int64 × zSt)} (hk74 : ∀ {σ : zSt} {v0 : Nat} {v1 : Int32} {v2 : Int32} {v3 : Int32} {v4 : Int64} {v6 : Int64} {v8 : Int32} {z : Int64 × zSt}, k74 σ v0 v1 v2 v3 v4 v6 v8 = some z → zRX X 0 0 (some (.long z.1)) z.2 → zPJ X 0 0 74 [(0, .ref v0), (1, .int v1), (2, .int v2), (3, .int v3), (4, .long v4), (6, .long v6), (8, .int v8)] [] σ) {σ : zSt} {v0 : Nat} {v1 : Int32} {v2 : Int32} {v3 : Int32} {v4 : Int64} {v6 : Int64} {v8 : Int32} {z : Int64 × zSt} (h : f_W_crowd_74 k74 σ v0 v1 v2 v3 v4 v6 v8 = some z) (hr : zRX X 0 0 (some (.long z.1)) z.2) : zPJ X 0 0 74 [(0, .ref v0), (1, .int v1), (2, .int v2), (3, .int v3), (4, .long v4), (6, .long v6), (8, .int v8)] [] σ := by
  unfold f_W_crowd_74 at h
  refine zj_iload o (zdd k_W_crowd 37 rfl) 6 rfl ?_
  refine zj_iconst o (zdd k_W_crowd 38 rfl) zki_1 ?_
  refine zj_aload_n o (zdd k_W_crowd 39 rfl) rfl 0 rfl ?_
  obtain ⟨a1, e_a1, h⟩ := zbd h
  refine zj_gP o (zdd k_W_crowd 40 rfl) fl_W_16 rfl e_a1 ?_
  obtain ⟨x2, e_x2, h⟩ := zbd h
  refine zj_gI o (zdd k_W_crowd 41 rfl) fl_W_231 rfl e_x2 ?_
  refine zj_ishl o (zdd k_W_crowd 42 rfl) ?_
  refine zj_icmp_ge (tgt := 129) o (zdd k_W_crowd 43 rfl) (by decide) (fun hc => ?_) (fun hc => ?_)
  · rw [if_pos hc] at h
    exact zj_sub [3, 4, 5] rfl (r_W_crowd_129 o  h hr)
  · rw [if_neg hc] at h
    refine zj_aload_n o (zdd k_W_crowd 44 rfl) rfl 0 rfl ?_
    obtain ⟨a3, e_a3, h⟩ := zbd h
    refine zj_gP o (zdd k_W_crowd 45 rfl) fl_W_16 rfl e_a3 ?_
    refine zj_aload_n o (zdd k_W_crowd 46 rfl) rfl 0 rfl ?_
    obtain ⟨a4, e_a4, h⟩ := zbd h
    refine zj_gP o (zdd k_W_crowd 47 rfl) fl_W_56 rfl e_a4 ?_
    refine zj_iload o (zdd k_W_crowd 48 rfl) 6 rfl ?_
    refine zj_iload_n o (zdd k_W_crowd 49 rfl) rfl 1 rfl ?_
    obtain ⟨q5, e_q5, h⟩ := zbd h
    refine zc_V o (zdd k_W_crowd 50 rfl) ml_W_180 mv_S_placeFor ⟨rfl, by decide⟩ (zg_some e_q5).1 (by decide) [.int v8, .int v1] [.ref a3] rfl (Nat.le_of_ble_eq_true rfl) rfl (m_S_placeFor e_q5) ?_
    change zPJ X 0 0 _ _ [.int q5.1, .ref a3] _
    obtain ⟨x6, e_x6, h⟩ := zbd h
    refine zc_V o (zdd k_W_crowd 51 rfl) ml_W_189 mv_D_stepsTo ⟨rfl, by decide⟩ (zg_some e_x6).1 (by decide) [.int q5.1] [] rfl (Nat.le_of_ble_eq_true rfl) rfl (m_D_stepsTo e_x6) ?_
    change zPJ X 0 0 _ _ [.int x6] _
    refine zj_iload_n o (zdd k_W_crowd 52 rfl) rfl 2 rfl ?_
    refine zj_icmp_gt (tgt := 123) o (zdd k_W_crowd 53 rfl) (by decide) (fun hc => ?_) (fun hc => ?_)
    · rw [if_pos hc] at h
      refine zj_iinc (v := v8 + 1) (loc' := [(8, .int (v8 + 1)), (0, .ref v0), (1, .int v1), (2, .int v2), (3, .int v3), (4, .long v4), (6, .long v6)]) o (zdd k_W_crowd 61 rfl) 6 rfl (by rw [zki_1]) (by decide) rfl ?_
      refine zj_goto (tgt := 74) o (zdd k_W_crowd 62 rfl) (by decide) ?_
      exact zj_sub [1, 2, 3, 4, 5, 6, 0] rfl (hk74 h hr)
    · rw [if_neg hc] at h
      refine zj_lload o (zdd k_W_crowd 54 rfl) 4 rfl ?_
      refine zj_aload_n o (zdd k_W_crowd 55 rfl) rfl 0 rfl ?_
      obtain ⟨a7, e_a7, h⟩ := zbd h
      refine zj_gP o (zdd k_W_crowd 56 rfl) fl_W_16 rfl e_a7 ?_
      refine zj_iload o (zdd k_W_crowd 57 rfl) 6 rfl ?_
      obtain ⟨x8, e_x8, h⟩ := zbd h
      refine zc_V o (zdd k_W_crowd 58 rfl) ml_W_313 mv_D_oddsOf ⟨rfl, by decide⟩ (zg_some e_x8).1 (by decide) [.int v8] [.long v4] rfl (Nat.le_of_ble_eq_true rfl) rfl (m_D_oddsOf e_x8) ?_
      change zPJ X 0 0 _ _ [.long x8, .long v4] _
      refine zj_ladd o (zdd k_W_crowd 59 rfl) ?_
      refine zj_lstore (loc' := [(4, .long (v4 + x8)), (0, .ref v0), (1, .int v1), (2, .int v2), (3, .int v3), (6, .long v6), (8, .int v8)]) o (zdd k_W_crowd 60 rfl) (by decide) rfl ?_
      refine zj_iinc (v := v8 + 1) (loc' := [(8, .int (v8 + 1)), (4, .long (v4 + x8)), (0, .ref v0), (1, .int v1), (2, .int v2), (3, .int v3), (6, .long v6)]) o (zdd k_W_crowd 61 rfl) 6 rfl (by rw [zki_1]) (by decide) rfl ?_
      refine zj_goto (tgt := 74) o (zdd k_W_crowd 62 rfl) (by decide) ?_
      exact zj_sub [2, 3, 4, 5, 1, 6, 0] rfl (hk74 h hr)
def f_W_crowd_74L : Nat → zSt → Nat → Int32 → Int32 → Int32 → Int64 → Int64 → Int32 → Option (Int64 × zSt)
  | 0 => fun _ _ _ _ _ _ _ _ => none
  | n + 1 => f_W_crowd_74  (f_W_crowd_74L  n)
theorem r_W_crowd_74L {X : zCX} (o : zOK X "WantShelves" c_W_crowd n_W_crowd 7) : ∀ (n : Nat) {σ : zSt} {v0 : Nat} {v1 : Int32} {v2 : Int32} {v3 : Int32} {v4 : Int64} {v6 : Int64} {v8 : Int32} {z : Int64 × zSt}, f_W_crowd_74L n σ v0 v1 v2 v3 v4 v6 v8 = some z → zRX X 0 0 (some (.long z.1)) z.2 → zPJ X 0 0 74 [(0, .ref v0), (1, .int v1), (2, .int v2), (3, .int v3), (4, .long v4), (6, .long v6), (8, .int v8)] [] σ
  | 0 => fun h _ => by cases h
  | n + 1 => fun h hr => r_W_crowd_74 o (r_W_crowd_74L o  n) h hr
def f_W_crowd_45 (k45 : zSt → Nat → Int32 → Int32 → Int32 → Int64 → Int64 → Int32 → Option (Int64 × zSt)) (σ : zSt) (v0 : Nat) (v1 : Int32) (v2 : Int32) (v3 : Int32) (v4 : Int64) (v6 : Int64) (v8 : Int32) : Option (Int64 × zSt) :=
(zgP σ 11 v0 2).bind fun a1 =>
(zgI σ 10 a1 2).bind fun x2 =>
if x2 ≤ v8 then (
f_W_crowd_74L zfu σ v0 v1 v2 v3 v4 v6 0) else
k45 σ v0 v1 v2 v3 v4 (v6 * 100) (v8 + 1)
set_option maxRecDepth 100000 in
set_option maxHeartbeats 4000000 in
theorem r_W_crowd_45 {X : zCX} (o : zOK X "WantShelves" c_W_crowd n_W_crowd 7) {k45 : zSt → Nat → Int32 → Int32 → Int32 → Int64 → Int64 → Int32 → Option (Int64 × zSt)} (hk45 : ∀ {σ : zSt} {v0 : Nat} {v1 : Int32} {v2 : Int32} {v3 : Int32} {v4 : Int64} {v6 : Int64} {v8 : Int32} {z : Int64 × zSt}, k45 σ v0 v1 v2 v3 v4 v6 v8 = some z → zRX X 0 0 (some (.long z.1)) z.2 → zPJ X 0 0 45 [(0, .ref v0), (1, .int v1), (2, .int v2), (3, .int v3), (4, .long v4), (6, .long v6), (8, .int v8)] [] σ) {σ : zSt} {v0 : Nat} {v1 : Int32} {v2 : Int32} {v3 : Int32} {v4 : Int64} {v6 : Int64} {v8 : Int32} {z : Int64 × zSt} (h : f_W_crowd_45 k45 σ v0 v1 v2 v3 v4 v6 v8 = some z) (hr : zRX X 0 0 (some (.long z.1)) z.2) : zPJ X 0 0 45 [(0, .ref v0), (1, .int v1), (2, .int v2), (3, .int v3), (4, .long v4), (6, .long v6), (8, .int v8)] [] σ := by
  unfold f_W_crowd_45 at h
  refine zj_iload o (zdd k_W_crowd 24 rfl) 6 rfl ?_
  refine zj_aload_n o (zdd k_W_crowd 25 rfl) rfl 0 rfl ?_
  obtain ⟨a1, e_a1, h⟩ := zbd h
  refine zj_gP o (zdd k_W_crowd 26 rfl) fl_W_16 rfl e_a1 ?_
  obtain ⟨x2, e_x2, h⟩ := zbd h
  refine zj_gI o (zdd k_W_crowd 27 rfl) fl_W_231 rfl e_x2 ?_
  refine zj_icmp_ge (tgt := 71) o (zdd k_W_crowd 28 rfl) (by decide) (fun hc => ?_) (fun hc => ?_)
  · rw [if_pos hc] at h
    refine zj_iconst o (zdd k_W_crowd 35 rfl) zki_0 ?_
    refine zj_istore (loc' := [(8, .int 0), (0, .ref v0), (1, .int v1), (2, .int v2), (3, .int v3), (4, .long v4), (6, .long v6)]) o (zdd k_W_crowd 36 rfl) (by decide) rfl ?_
    exact zj_sub [1, 2, 3, 4, 5, 6, 0] rfl (r_W_crowd_74L o  zfu h hr)
  · rw [if_neg hc] at h
    refine zj_lload o (zdd k_W_crowd 29 rfl) 5 rfl ?_
    refine zj_ldc2 o (zdd k_W_crowd 30 rfl) lc_W_311 ?_
    refine zj_lmul o (zdd k_W_crowd 31 rfl) ?_
    refine zj_lstore (loc' := [(6, .long (v6 * 100)), (0, .ref v0), (1, .int v1), (2, .int v2), (3, .int v3), (4, .long v4), (8, .int v8)]) o (zdd k_W_crowd 32 rfl) (by decide) rfl ?_
    refine zj_iinc (v := v8 + 1) (loc' := [(8, .int (v8 + 1)), (6, .long (v6 * 100)), (0, .ref v0), (1, .int v1), (2, .int v2), (3, .int v3), (4, .long v4)]) o (zdd k_W_crowd 33 rfl) 6 rfl (by rw [zki_1]) (by decide) rfl ?_
    refine zj_goto (tgt := 45) o (zdd k_W_crowd 34 rfl) (by decide) ?_
    exact zj_sub [2, 3, 4, 5, 6, 1, 0] rfl (hk45 h hr)
def f_W_crowd_45L : Nat → zSt → Nat → Int32 → Int32 → Int32 → Int64 → Int64 → Int32 → Option (Int64 × zSt)
  | 0 => fun _ _ _ _ _ _ _ _ => none
  | n + 1 => f_W_crowd_45  (f_W_crowd_45L  n)
theorem r_W_crowd_45L {X : zCX} (o : zOK X "WantShelves" c_W_crowd n_W_crowd 7) : ∀ (n : Nat) {σ : zSt} {v0 : Nat} {v1 : Int32} {v2 : Int32} {v3 : Int32} {v4 : Int64} {v6 : Int64} {v8 : Int32} {z : Int64 × zSt}, f_W_crowd_45L n σ v0 v1 v2 v3 v4 v6 v8 = some z → zRX X 0 0 (some (.long z.1)) z.2 → zPJ X 0 0 45 [(0, .ref v0), (1, .int v1), (2, .int v2), (3, .int v3), (4, .long v4), (6, .long v6), (8, .int v8)] [] σ
  | 0 => fun h _ => by cases h
  | n + 1 => fun h hr => r_W_crowd_45 o (r_W_crowd_45L o  n) h hr
def f_W_crowd_21 (σ : zSt) (v0 : Nat) (v1 : Int32) (v2 : Int32) (v3 : Int32) : Option (Int64 × zSt) :=
(zgP σ 11 v0 9).bind fun a1 =>
(zgP σ 11 v0 2).bind fun a2 =>
(zgP σ 11 v0 5).bind fun a3 =>
(f_S_open σ a1 a2 a3).bind fun σ4 =>
f_W_crowd_45L zfu σ4 v0 v1 v2 v3 0 1 0
set_option maxRecDepth 100000 in
set_option maxHeartbeats 4000000 in
theorem r_W_crowd_21 {X : zCX} (o : zOK X "WantShelves" c_W_crowd n_W_crowd 7) {σ : zSt} {v0 : Nat} {v1 : Int32} {v2 : Int32} {v3 : Int32} {z : Int64 × zSt} (h : f_W_crowd_21 σ v0 v1 v2 v3 = some z) (hr : zRX X 0 0 (some (.long z.1)) z.2) : zPJ X 0 0 21 [(0, .ref v0), (1, .int v1), (2, .int v2), (3, .int v3)] [] σ := by
  unfold f_W_crowd_21 at h
  refine zj_aload_n o (zdd k_W_crowd 11 rfl) rfl 0 rfl ?_
  obtain ⟨a1, e_a1, h⟩ := zbd h
  refine zj_gP o (zdd k_W_crowd 12 rfl) fl_W_56 rfl e_a1 ?_
  refine zj_aload_n o (zdd k_W_crowd 13 rfl) rfl 0 rfl ?_
  obtain ⟨a2, e_a2, h⟩ := zbd h
  refine zj_gP o (zdd k_W_crowd 14 rfl) fl_W_16 rfl e_a2 ?_
  refine zj_aload_n o (zdd k_W_crowd 15 rfl) rfl 0 rfl ?_
  obtain ⟨a3, e_a3, h⟩ := zbd h
  refine zj_gP o (zdd k_W_crowd 16 rfl) fl_W_35 rfl e_a3 ?_
  obtain ⟨σ4, e_σ4, h⟩ := zbd h
  refine zc_V o (zdd k_W_crowd 17 rfl) ml_W_166 mv_S_open ⟨rfl, by decide⟩ (zg_some e_σ4).1 (by decide) [.ref a2, .ref a3] [] rfl (Nat.le_of_ble_eq_true rfl) rfl (m_S_open e_σ4) ?_
  change zPJ X 0 0 _ _ [] _
  refine zj_lconst (v := 0) o (zdd k_W_crowd 18 rfl) rfl ?_
  refine zj_lstore (loc' := [(4, .long 0), (0, .ref v0), (1, .int v1), (2, .int v2), (3, .int v3)]) o (zdd k_W_crowd 19 rfl) (by decide) rfl ?_
  refine zj_lconst (v := 1) o (zdd k_W_crowd 20 rfl) rfl ?_
  refine zj_lstore (loc' := [(6, .long 1), (4, .long 0), (0, .ref v0), (1, .int v1), (2, .int v2), (3, .int v3)]) o (zdd k_W_crowd 21 rfl) (by decide) rfl ?_
  refine zj_iconst o (zdd k_W_crowd 22 rfl) zki_0 ?_
  refine zj_istore (loc' := [(8, .int 0), (6, .long 1), (4, .long 0), (0, .ref v0), (1, .int v1), (2, .int v2), (3, .int v3)]) o (zdd k_W_crowd 23 rfl) (by decide) rfl ?_
  exact zj_sub [3, 4, 5, 6, 2, 1, 0] rfl (r_W_crowd_45L o  zfu h hr)
def f_W_crowd (σ : zSt) (t : Nat) (p0 : Int32) (p1 : Int32) (p2 : Int32) : Option (Int64 × zSt) :=
zg σ 11 t (
(f_W_isHere σ t p0).bind fun x1 =>
if x1 = 0 then (
some ((-1), σ)) else
if p2 = 0 then (
f_W_crowd_21 σ t p0 p1 p2) else
if p2 = 1 then (
f_W_crowd_21 σ t p0 p1 p2) else
some ((-1), σ))
set_option maxRecDepth 100000 in
set_option maxHeartbeats 4000000 in
theorem m_W_crowd {l : Launch} {b : Nat} {ex : Nat → Value} {D : va_G} {ca : Nat → ClassId} {σ : zSt} {t : Nat} {p0 : Int32} {p1 : Int32} {p2 : Int32} {z : Int64 × zSt} (h : f_W_crowd σ t p0 p1 p2 = some z) : zMT l b ex D ca 7 y_W_crowd c_W_crowd n_W_crowd r_ret_W_crowd [.ref t, .int p0, .int p1, .int p2] σ (some (.long z.1)) z.2 0 0 := by
  obtain ⟨_, hg0⟩ := zg_some h
  have h := hg0
  refine zmt_of (by decide) (Nat.le_of_ble_eq_true rfl) rfl (fun X o hin hrm _ _ _ _ _ hr => ?_)
  have hr := hr 0 0 (by decide) (by decide)
  have o : zOK X "WantShelves" c_W_crowd n_W_crowd 7 := o
  change zPJ X 0 0 0 [(0, .ref t), (1, .int p0), (2, .int p1), (3, .int p2)] [] σ
  refine zj_aload_n o (zdd k_W_crowd 0 rfl) rfl 0 rfl ?_
  refine zj_iload_n o (zdd k_W_crowd 1 rfl) rfl 1 rfl ?_
  obtain ⟨x1, e_x1, h⟩ := zbd h
  refine zc_V o (zdd k_W_crowd 2 rfl) ml_W_177 mv_W_isHere ⟨rfl, by decide⟩ (zg_some e_x1).1 (by decide) [.int p0] [] rfl (Nat.le_of_ble_eq_true rfl) rfl (m_W_isHere e_x1) ?_
  change zPJ X 0 0 _ _ [.int x1] _
  refine zj_if_eq (tgt := 17) o (zdd k_W_crowd 3 rfl) (by decide) (fun hc => ?_) (fun hc => ?_)
  · rw [if_pos hc] at h
    refine zj_ldc2 o (zdd k_W_crowd 9 rfl) lc_W_309 ?_
    cases h
    exact zr_l o hr (zdd k_W_crowd 10 rfl)
  · rw [if_neg hc] at h
    refine zj_iload_n o (zdd k_W_crowd 4 rfl) rfl 3 rfl ?_
    refine zj_if_eq (tgt := 21) o (zdd k_W_crowd 5 rfl) (by decide) (fun hc => ?_) (fun hc => ?_)
    · rw [if_pos hc] at h
      exact zj_sub [0, 1, 2, 3] rfl (r_W_crowd_21 o  h hr)
    · rw [if_neg hc] at h
      refine zj_iload_n o (zdd k_W_crowd 6 rfl) rfl 3 rfl ?_
      refine zj_iconst o (zdd k_W_crowd 7 rfl) zki_1 ?_
      refine zj_icmp_eq (tgt := 21) o (zdd k_W_crowd 8 rfl) (by decide) (fun hc => ?_) (fun hc => ?_)
      · rw [if_pos hc] at h
        exact zj_sub [0, 1, 2, 3] rfl (r_W_crowd_21 o  h hr)
      · rw [if_neg hc] at h
        refine zj_ldc2 o (zdd k_W_crowd 9 rfl) lc_W_309 ?_
        cases h
        exact zr_l o hr (zdd k_W_crowd 10 rfl)
def f_W_lies (σ : zSt) (t : Nat) (p0 : Int32) : Option (Int32) :=
zg σ 11 t (
if p0 < 0 then (
some (-1000000)) else
(zgI σ 11 t 18).bind fun x1 =>
if x1 ≤ p0 then (
some (-1000000)) else
(zgP σ 11 t 17).bind fun a2 =>
(zaI σ 1 a2 p0).bind fun x3 =>
some x3)
set_option maxRecDepth 100000 in
set_option maxHeartbeats 4000000 in
theorem m_W_lies {l : Launch} {b : Nat} {ex : Nat → Value} {D : va_G} {ca : Nat → ClassId} {σ : zSt} {t : Nat} {p0 : Int32} {z : Int32} (h : f_W_lies σ t p0 = some z) : zMT l b ex D ca 1 y_W_lies c_W_lies n_W_lies r_ret_W_lies [.ref t, .int p0] σ (some (.int z)) σ 0 0 := by
  obtain ⟨_, hg0⟩ := zg_some h
  have h := hg0
  refine zmt_of (by decide) (Nat.le_of_ble_eq_true rfl) ⟨.int, rfl, rfl⟩ (fun X o hin hrm _ _ _ _ _ hr => ?_)
  have hr := hr 0 0 (by decide) (by decide)
  have o : zOK X "WantShelves" c_W_lies n_W_lies 1 := o
  change zPJ X 0 0 0 [(0, .ref t), (1, .int p0)] [] σ
  refine zj_iload_n o (zdd k_W_lies 0 rfl) rfl 1 rfl ?_
  refine zj_if_lt (tgt := 21) o (zdd k_W_lies 1 rfl) (by decide) (fun hc => ?_) (fun hc => ?_)
  · rw [if_pos hc] at h
    refine zj_ldc o (zdd k_W_lies 11 rfl) co_W_152 ?_
    cases h
    exact zr_i o hr (zdd k_W_lies 12 rfl)
  · rw [if_neg hc] at h
    refine zj_iload_n o (zdd k_W_lies 2 rfl) rfl 1 rfl ?_
    refine zj_aload_n o (zdd k_W_lies 3 rfl) rfl 0 rfl ?_
    obtain ⟨x1, e_x1, h⟩ := zbd h
    refine zj_gI o (zdd k_W_lies 4 rfl) fl_W_124 rfl e_x1 ?_
    refine zj_icmp_ge (tgt := 21) o (zdd k_W_lies 5 rfl) (by decide) (fun hc => ?_) (fun hc => ?_)
    · rw [if_pos hc] at h
      refine zj_ldc o (zdd k_W_lies 11 rfl) co_W_152 ?_
      cases h
      exact zr_i o hr (zdd k_W_lies 12 rfl)
    · rw [if_neg hc] at h
      refine zj_aload_n o (zdd k_W_lies 6 rfl) rfl 0 rfl ?_
      obtain ⟨a2, e_a2, h⟩ := zbd h
      refine zj_gP o (zdd k_W_lies 7 rfl) fl_W_95 rfl e_a2 ?_
      refine zj_iload_n o (zdd k_W_lies 8 rfl) rfl 1 rfl ?_
      obtain ⟨x3, e_x3, h⟩ := zbd h
      refine zj_iald o (zdd k_W_lies 9 rfl) e_x3 ?_
      refine zj_goto (tgt := 23) o (zdd k_W_lies 10 rfl) (by decide) ?_
      cases h
      exact zr_i o hr (zdd k_W_lies 12 rfl)
def f_W_look (σ : zSt) (t : Nat) (p0 : Int32) (p1 : Int32) (p2 : Int32) : Option (Int32 × zSt) :=
zg σ 11 t (
(f_W_isReader σ t p0).bind fun x1 =>
if x1 = 0 then (
some ((-1), σ)) else
(f_W_isBook σ t p1).bind fun x2 =>
if x2 = 0 then (
some ((-1), σ)) else
(f_W_isBook σ t p2).bind fun x3 =>
if x3 = 0 then (
some ((-1), σ)) else
if p1 = p2 then (
some ((-1), σ)) else
(zgP σ 11 t 14).bind fun a4 =>
(f_L_add σ a4 p0 p1 p2).bind fun q5 =>
some (q5.1, q5.2))
set_option maxRecDepth 100000 in
set_option maxHeartbeats 4000000 in
theorem m_W_look {l : Launch} {b : Nat} {ex : Nat → Value} {D : va_G} {ca : Nat → ClassId} {σ : zSt} {t : Nat} {p0 : Int32} {p1 : Int32} {p2 : Int32} {z : Int32 × zSt} (h : f_W_look σ t p0 p1 p2 = some z) : zMT l b ex D ca 2 y_W_look c_W_look n_W_look r_ret_W_look [.ref t, .int p0, .int p1, .int p2] σ (some (.int z.1)) z.2 0 0 := by
  obtain ⟨_, hg0⟩ := zg_some h
  have h := hg0
  refine zmt_of (by decide) (Nat.le_of_ble_eq_true rfl) ⟨.int, rfl, rfl⟩ (fun X o hin hrm _ _ _ _ _ hr => ?_)
  have hr := hr 0 0 (by decide) (by decide)
  have o : zOK X "WantShelves" c_W_look n_W_look 2 := o
  change zPJ X 0 0 0 [(0, .ref t), (1, .int p0), (2, .int p1), (3, .int p2)] [] σ
  refine zj_aload_n o (zdd k_W_look 0 rfl) rfl 0 rfl ?_
  refine zj_iload_n o (zdd k_W_look 1 rfl) rfl 1 rfl ?_
  obtain ⟨x1, e_x1, h⟩ := zbd h
  refine zc_V o (zdd k_W_look 2 rfl) ml_W_146 mv_W_isReader ⟨rfl, by decide⟩ (zg_some e_x1).1 (by decide) [.int p0] [] rfl (Nat.le_of_ble_eq_true rfl) rfl (m_W_isReader e_x1) ?_
  change zPJ X 0 0 _ _ [.int x1] _
  refine zj_if_eq (tgt := 29) o (zdd k_W_look 3 rfl) (by decide) (fun hc => ?_) (fun hc => ?_)
  · rw [if_pos hc] at h
    refine zj_iconst o (zdd k_W_look 15 rfl) zki_m1 ?_
    cases h
    exact zr_i o hr (zdd k_W_look 16 rfl)
  · rw [if_neg hc] at h
    refine zj_aload_n o (zdd k_W_look 4 rfl) rfl 0 rfl ?_
    refine zj_iload_n o (zdd k_W_look 5 rfl) rfl 2 rfl ?_
    obtain ⟨x2, e_x2, h⟩ := zbd h
    refine zc_V o (zdd k_W_look 6 rfl) ml_W_136 mv_W_isBook ⟨rfl, by decide⟩ (zg_some e_x2).1 (by decide) [.int p1] [] rfl (Nat.le_of_ble_eq_true rfl) rfl (m_W_isBook e_x2) ?_
    change zPJ X 0 0 _ _ [.int x2] _
    refine zj_if_eq (tgt := 29) o (zdd k_W_look 7 rfl) (by decide) (fun hc => ?_) (fun hc => ?_)
    · rw [if_pos hc] at h
      refine zj_iconst o (zdd k_W_look 15 rfl) zki_m1 ?_
      cases h
      exact zr_i o hr (zdd k_W_look 16 rfl)
    · rw [if_neg hc] at h
      refine zj_aload_n o (zdd k_W_look 8 rfl) rfl 0 rfl ?_
      refine zj_iload_n o (zdd k_W_look 9 rfl) rfl 3 rfl ?_
      obtain ⟨x3, e_x3, h⟩ := zbd h
      refine zc_V o (zdd k_W_look 10 rfl) ml_W_136 mv_W_isBook ⟨rfl, by decide⟩ (zg_some e_x3).1 (by decide) [.int p2] [] rfl (Nat.le_of_ble_eq_true rfl) rfl (m_W_isBook e_x3) ?_
      change zPJ X 0 0 _ _ [.int x3] _
      refine zj_if_eq (tgt := 29) o (zdd k_W_look 11 rfl) (by decide) (fun hc => ?_) (fun hc => ?_)
      · rw [if_pos hc] at h
        refine zj_iconst o (zdd k_W_look 15 rfl) zki_m1 ?_
        cases h
        exact zr_i o hr (zdd k_W_look 16 rfl)
      · rw [if_neg hc] at h
        refine zj_iload_n o (zdd k_W_look 12 rfl) rfl 2 rfl ?_
        refine zj_iload_n o (zdd k_W_look 13 rfl) rfl 3 rfl ?_
        refine zj_icmp_ne (tgt := 31) o (zdd k_W_look 14 rfl) (by decide) (fun hc => ?_) (fun hc => ?_)
        · rw [if_neg hc] at h
          refine zj_aload_n o (zdd k_W_look 17 rfl) rfl 0 rfl ?_
          obtain ⟨a4, e_a4, h⟩ := zbd h
          refine zj_gP o (zdd k_W_look 18 rfl) fl_W_87 rfl e_a4 ?_
          refine zj_iload_n o (zdd k_W_look 19 rfl) rfl 1 rfl ?_
          refine zj_iload_n o (zdd k_W_look 20 rfl) rfl 2 rfl ?_
          refine zj_iload_n o (zdd k_W_look 21 rfl) rfl 3 rfl ?_
          obtain ⟨q5, e_q5, h⟩ := zbd h
          refine zc_V o (zdd k_W_look 22 rfl) ml_W_321 mv_L_add ⟨rfl, by decide⟩ (zg_some e_q5).1 (by decide) [.int p0, .int p1, .int p2] [] rfl (Nat.le_of_ble_eq_true rfl) rfl (m_L_add e_q5) ?_
          change zPJ X 0 0 _ _ [.int q5.1] _
          cases h
          exact zr_i o hr (zdd k_W_look 23 rfl)
        · rw [if_pos hc] at h
          refine zj_iconst o (zdd k_W_look 15 rfl) zki_m1 ?_
          cases h
          exact zr_i o hr (zdd k_W_look 16 rfl)
def f_W_untell (σ : zSt) (t : Nat) (p0 : Int32) : Option (Int32 × zSt) :=
zg σ 11 t (
((zgP σ 11 t 14).bind fun a1 =>
(f_L_takeOut σ a1 p0).bind fun q2 =>
some (q2.1, q2.2)).bind fun q => (zbool q.1).bind fun x => some (x, q.2))
set_option maxRecDepth 100000 in
set_option maxHeartbeats 4000000 in
theorem m_W_untell {l : Launch} {b : Nat} {ex : Nat → Value} {D : va_G} {ca : Nat → ClassId} {σ : zSt} {t : Nat} {p0 : Int32} {z : Int32 × zSt} (h : f_W_untell σ t p0 = some z) : zMT l b ex D ca 2 y_W_untell c_W_untell n_W_untell r_ret_W_untell [.ref t, .int p0] σ (some (.int z.1)) z.2 0 0 := by
  obtain ⟨_, hg0⟩ := zg_some h
  obtain ⟨z0, hbd, hz⟩ := zbd hg0
  obtain ⟨z1, hz1, hzz⟩ := zbd hz
  obtain ⟨hzb, rfl⟩ := zbool_some hz1
  cases hzz
  have h := hbd
  refine zmt_of (by decide) (Nat.le_of_ble_eq_true rfl) ⟨.boolean, rfl, zb_nar hzb⟩ (fun X o hin hrm _ _ _ _ _ hr => ?_)
  have hr := hr 0 0 (by decide) (by decide)
  have o : zOK X "WantShelves" c_W_untell n_W_untell 2 := o
  change zPJ X 0 0 0 [(0, .ref t), (1, .int p0)] [] σ
  refine zj_aload_n o (zdd k_W_untell 0 rfl) rfl 0 rfl ?_
  obtain ⟨a1, e_a1, h⟩ := zbd h
  refine zj_gP o (zdd k_W_untell 1 rfl) fl_W_87 rfl e_a1 ?_
  refine zj_iload_n o (zdd k_W_untell 2 rfl) rfl 1 rfl ?_
  obtain ⟨q2, e_q2, h⟩ := zbd h
  refine zc_V o (zdd k_W_untell 3 rfl) ml_W_324 mv_L_takeOut ⟨rfl, by decide⟩ (zg_some e_q2).1 (by decide) [.int p0] [] rfl (Nat.le_of_ble_eq_true rfl) rfl (m_L_takeOut e_q2) ?_
  change zPJ X 0 0 _ _ [.int q2.1] _
  cases h
  exact zr_i o hr (zdd k_W_untell 4 rfl)
def f_W_later (σ : zSt) (t : Nat) (p0 : Int32) : Option (Int32 × zSt) :=
zg σ 11 t (
if p0 < 0 then (
some ((-1), σ)) else
if 1000 < p0 then (
some ((-1), σ)) else
(zgP σ 11 t 14).bind fun a1 =>
(zgI σ 3 a1 1).bind fun x2 =>
if x2 + p0 ≤ 100000 then (
(zgP σ 11 t 14).bind fun a3 =>
(zgI σ 3 a3 1).bind fun x4 =>
(zsI σ 3 a3 1 (x4 + p0)).bind fun σ5 =>
(zgP σ5 11 t 14).bind fun a6 =>
(zgI σ5 3 a6 1).bind fun x7 =>
some (x7, σ5)) else
some ((-1), σ))
set_option maxRecDepth 100000 in
set_option maxHeartbeats 4000000 in
theorem m_W_later {l : Launch} {b : Nat} {ex : Nat → Value} {D : va_G} {ca : Nat → ClassId} {σ : zSt} {t : Nat} {p0 : Int32} {z : Int32 × zSt} (h : f_W_later σ t p0 = some z) : zMT l b ex D ca 1 y_W_later c_W_later n_W_later r_ret_W_later [.ref t, .int p0] σ (some (.int z.1)) z.2 0 0 := by
  obtain ⟨_, hg0⟩ := zg_some h
  have h := hg0
  refine zmt_of (by decide) (Nat.le_of_ble_eq_true rfl) ⟨.int, rfl, rfl⟩ (fun X o hin hrm _ _ _ _ _ hr => ?_)
  have hr := hr 0 0 (by decide) (by decide)
  have o : zOK X "WantShelves" c_W_later n_W_later 1 := o
  change zPJ X 0 0 0 [(0, .ref t), (1, .int p0)] [] σ
  refine zj_iload_n o (zdd k_W_later 0 rfl) rfl 1 rfl ?_
  refine zj_if_lt (tgt := 26) o (zdd k_W_later 1 rfl) (by decide) (fun hc => ?_) (fun hc => ?_)
  · rw [if_pos hc] at h
    refine zj_iconst o (zdd k_W_later 12 rfl) zki_m1 ?_
    cases h
    exact zr_i o hr (zdd k_W_later 13 rfl)
  · rw [if_neg hc] at h
    refine zj_iload_n o (zdd k_W_later 2 rfl) rfl 1 rfl ?_
    refine zj_sipush o (zdd k_W_later 3 rfl) zks_1000 ?_
    refine zj_icmp_gt (tgt := 26) o (zdd k_W_later 4 rfl) (by decide) (fun hc => ?_) (fun hc => ?_)
    · rw [if_pos hc] at h
      refine zj_iconst o (zdd k_W_later 12 rfl) zki_m1 ?_
      cases h
      exact zr_i o hr (zdd k_W_later 13 rfl)
    · rw [if_neg hc] at h
      refine zj_aload_n o (zdd k_W_later 5 rfl) rfl 0 rfl ?_
      obtain ⟨a1, e_a1, h⟩ := zbd h
      refine zj_gP o (zdd k_W_later 6 rfl) fl_W_87 rfl e_a1 ?_
      obtain ⟨x2, e_x2, h⟩ := zbd h
      refine zj_gI o (zdd k_W_later 7 rfl) fl_W_327 rfl e_x2 ?_
      refine zj_iload_n o (zdd k_W_later 8 rfl) rfl 1 rfl ?_
      refine zj_iadd o (zdd k_W_later 9 rfl) ?_
      refine zj_ldcw o (zdd k_W_later 10 rfl) co_W_330 ?_
      refine zj_icmp_le (tgt := 28) o (zdd k_W_later 11 rfl) (by decide) (fun hc => ?_) (fun hc => ?_)
      · rw [if_pos hc] at h
        refine zj_aload_n o (zdd k_W_later 14 rfl) rfl 0 rfl ?_
        obtain ⟨a3, e_a3, h⟩ := zbd h
        refine zj_gP o (zdd k_W_later 15 rfl) fl_W_87 rfl e_a3 ?_
        refine zj_dup o (zdd k_W_later 16 rfl) rfl ?_
        obtain ⟨x4, e_x4, h⟩ := zbd h
        refine zj_gI o (zdd k_W_later 17 rfl) fl_W_327 rfl e_x4 ?_
        refine zj_iload_n o (zdd k_W_later 18 rfl) rfl 1 rfl ?_
        refine zj_iadd o (zdd k_W_later 19 rfl) ?_
        obtain ⟨σ5, e_σ5, h⟩ := zbd h
        refine zj_pI o (zdd k_W_later 20 rfl) fl_W_327 rfl rfl e_σ5 ?_
        refine zj_aload_n o (zdd k_W_later 21 rfl) rfl 0 rfl ?_
        obtain ⟨a6, e_a6, h⟩ := zbd h
        refine zj_gP o (zdd k_W_later 22 rfl) fl_W_87 rfl e_a6 ?_
        obtain ⟨x7, e_x7, h⟩ := zbd h
        refine zj_gI o (zdd k_W_later 23 rfl) fl_W_327 rfl e_x7 ?_
        cases h
        exact zr_i o hr (zdd k_W_later 24 rfl)
      · rw [if_neg hc] at h
        refine zj_iconst o (zdd k_W_later 12 rfl) zki_m1 ?_
        cases h
        exact zr_i o hr (zdd k_W_later 13 rfl)
def f_W_findFitting (σ : zSt) (t : Nat) (p0 : Int32) (p1 : Int32) (p2 : Int32) : Option (zSt) :=
zg σ 11 t (
(zgP σ 11 t 9).bind fun a1 =>
(zgP σ 11 t 2).bind fun a2 =>
(zgP σ 11 t 5).bind fun a3 =>
(f_S_open σ a1 a2 a3).bind fun σ4 =>
(zgP σ4 11 t 10).bind fun a5 =>
(zgP σ4 11 t 9).bind fun a6 =>
(zgP σ4 11 t 5).bind fun a7 =>
(f_R_fill σ4 a5 a6 a7 p0 p1).bind fun σ8 =>
(zgP σ8 11 t 10).bind fun a9 =>
(zgP σ8 11 t 14).bind fun a10 =>
(f_R_keepFitting σ8 a9 a10 p2).bind fun σ11 =>
some σ11)
set_option maxRecDepth 100000 in
set_option maxHeartbeats 4000000 in
theorem m_W_findFitting {l : Launch} {b : Nat} {ex : Nat → Value} {D : va_G} {ca : Nat → ClassId} {σ : zSt} {t : Nat} {p0 : Int32} {p1 : Int32} {p2 : Int32} {z : zSt} (h : f_W_findFitting σ t p0 p1 p2 = some z) : zMT l b ex D ca 7 y_W_findFitting c_W_findFitting n_W_findFitting r_ret_W_findFitting [.ref t, .int p0, .int p1, .int p2] σ none z 0 0 := by
  obtain ⟨_, hg0⟩ := zg_some h
  have h := hg0
  refine zmt_of (by decide) (Nat.le_of_ble_eq_true rfl) rfl (fun X o hin hrm _ _ _ _ _ hr => ?_)
  have hr := hr 0 0 (by decide) (by decide)
  have o : zOK X "WantShelves" c_W_findFitting n_W_findFitting 7 := o
  change zPJ X 0 0 0 [(0, .ref t), (1, .int p0), (2, .int p1), (3, .int p2)] [] σ
  refine zj_aload_n o (zdd k_W_findFitting 0 rfl) rfl 0 rfl ?_
  obtain ⟨a1, e_a1, h⟩ := zbd h
  refine zj_gP o (zdd k_W_findFitting 1 rfl) fl_W_56 rfl e_a1 ?_
  refine zj_aload_n o (zdd k_W_findFitting 2 rfl) rfl 0 rfl ?_
  obtain ⟨a2, e_a2, h⟩ := zbd h
  refine zj_gP o (zdd k_W_findFitting 3 rfl) fl_W_16 rfl e_a2 ?_
  refine zj_aload_n o (zdd k_W_findFitting 4 rfl) rfl 0 rfl ?_
  obtain ⟨a3, e_a3, h⟩ := zbd h
  refine zj_gP o (zdd k_W_findFitting 5 rfl) fl_W_35 rfl e_a3 ?_
  obtain ⟨σ4, e_σ4, h⟩ := zbd h
  refine zc_V o (zdd k_W_findFitting 6 rfl) ml_W_166 mv_S_open ⟨rfl, by decide⟩ (zg_some e_σ4).1 (by decide) [.ref a2, .ref a3] [] rfl (Nat.le_of_ble_eq_true rfl) rfl (m_S_open e_σ4) ?_
  change zPJ X 0 0 _ _ [] _
  refine zj_aload_n o (zdd k_W_findFitting 7 rfl) rfl 0 rfl ?_
  obtain ⟨a5, e_a5, h⟩ := zbd h
  refine zj_gP o (zdd k_W_findFitting 8 rfl) fl_W_63 rfl e_a5 ?_
  refine zj_aload_n o (zdd k_W_findFitting 9 rfl) rfl 0 rfl ?_
  obtain ⟨a6, e_a6, h⟩ := zbd h
  refine zj_gP o (zdd k_W_findFitting 10 rfl) fl_W_56 rfl e_a6 ?_
  refine zj_aload_n o (zdd k_W_findFitting 11 rfl) rfl 0 rfl ?_
  obtain ⟨a7, e_a7, h⟩ := zbd h
  refine zj_gP o (zdd k_W_findFitting 12 rfl) fl_W_35 rfl e_a7 ?_
  refine zj_iload_n o (zdd k_W_findFitting 13 rfl) rfl 1 rfl ?_
  refine zj_iload_n o (zdd k_W_findFitting 14 rfl) rfl 2 rfl ?_
  obtain ⟨σ8, e_σ8, h⟩ := zbd h
  refine zc_V o (zdd k_W_findFitting 15 rfl) ml_W_264 mv_R_fill ⟨rfl, by decide⟩ (zg_some e_σ8).1 (by decide) [.ref a6, .ref a7, .int p0, .int p1] [] rfl (Nat.le_of_ble_eq_true rfl) rfl (m_R_fill e_σ8) ?_
  change zPJ X 0 0 _ _ [] _
  refine zj_aload_n o (zdd k_W_findFitting 16 rfl) rfl 0 rfl ?_
  obtain ⟨a9, e_a9, h⟩ := zbd h
  refine zj_gP o (zdd k_W_findFitting 17 rfl) fl_W_63 rfl e_a9 ?_
  refine zj_aload_n o (zdd k_W_findFitting 18 rfl) rfl 0 rfl ?_
  obtain ⟨a10, e_a10, h⟩ := zbd h
  refine zj_gP o (zdd k_W_findFitting 19 rfl) fl_W_87 rfl e_a10 ?_
  refine zj_iload_n o (zdd k_W_findFitting 20 rfl) rfl 3 rfl ?_
  obtain ⟨σ11, e_σ11, h⟩ := zbd h
  refine zc_V o (zdd k_W_findFitting 21 rfl) ml_W_372 mv_R_keepFitting ⟨rfl, by decide⟩ (zg_some e_σ11).1 (by decide) [.ref a10, .int p2] [] rfl (Nat.le_of_ble_eq_true rfl) rfl (m_R_keepFitting e_σ11) ?_
  change zPJ X 0 0 _ _ [] _
  cases h
  exact zr_v o hr (zdd k_W_findFitting 22 rfl)
def f_W_fit (σ : zSt) (t : Nat) (p0 : Int32) (p1 : Int32) (p2 : Int32) : Option (Int32 × zSt) :=
zg σ 11 t (
(f_W_isReader σ t p0).bind fun x1 =>
if x1 = 0 then (
some ((-1), σ)) else
(f_R_canBe p1).bind fun x2 =>
if x2 = 0 then (
some ((-1), σ)) else
(f_W_findFitting σ t p0 p1 p2).bind fun σ3 =>
(zgP σ3 11 t 10).bind fun a4 =>
(zgI σ3 6 a4 0).bind fun x5 =>
some (x5, σ3))
set_option maxRecDepth 100000 in
set_option maxHeartbeats 4000000 in
theorem m_W_fit {l : Launch} {b : Nat} {ex : Nat → Value} {D : va_G} {ca : Nat → ClassId} {σ : zSt} {t : Nat} {p0 : Int32} {p1 : Int32} {p2 : Int32} {z : Int32 × zSt} (h : f_W_fit σ t p0 p1 p2 = some z) : zMT l b ex D ca 8 y_W_fit c_W_fit n_W_fit r_ret_W_fit [.ref t, .int p0, .int p1, .int p2] σ (some (.int z.1)) z.2 0 0 := by
  obtain ⟨_, hg0⟩ := zg_some h
  have h := hg0
  refine zmt_of (by decide) (Nat.le_of_ble_eq_true rfl) ⟨.int, rfl, rfl⟩ (fun X o hin hrm _ _ _ _ _ hr => ?_)
  have hr := hr 0 0 (by decide) (by decide)
  have o : zOK X "WantShelves" c_W_fit n_W_fit 8 := o
  change zPJ X 0 0 0 [(0, .ref t), (1, .int p0), (2, .int p1), (3, .int p2)] [] σ
  refine zj_aload_n o (zdd k_W_fit 0 rfl) rfl 0 rfl ?_
  refine zj_iload_n o (zdd k_W_fit 1 rfl) rfl 1 rfl ?_
  obtain ⟨x1, e_x1, h⟩ := zbd h
  refine zc_V o (zdd k_W_fit 2 rfl) ml_W_146 mv_W_isReader ⟨rfl, by decide⟩ (zg_some e_x1).1 (by decide) [.int p0] [] rfl (Nat.le_of_ble_eq_true rfl) rfl (m_W_isReader e_x1) ?_
  change zPJ X 0 0 _ _ [.int x1] _
  refine zj_if_eq (tgt := 15) o (zdd k_W_fit 3 rfl) (by decide) (fun hc => ?_) (fun hc => ?_)
  · rw [if_pos hc] at h
    refine zj_iconst o (zdd k_W_fit 7 rfl) zki_m1 ?_
    cases h
    exact zr_i o hr (zdd k_W_fit 8 rfl)
  · rw [if_neg hc] at h
    refine zj_iload_n o (zdd k_W_fit 4 rfl) rfl 2 rfl ?_
    obtain ⟨x2, e_x2, h⟩ := zbd h
    refine zc_S o (zdd k_W_fit 5 rfl) ml_W_261 ms_R_canBe (by decide) [.int p1] [] rfl (Nat.le_of_ble_eq_true rfl) rfl (m_R_canBe e_x2) ?_
    change zPJ X 0 0 _ _ [.int x2] _
    refine zj_if_ne (tgt := 17) o (zdd k_W_fit 6 rfl) (by decide) (fun hc => ?_) (fun hc => ?_)
    · rw [if_neg hc] at h
      refine zj_aload_n o (zdd k_W_fit 9 rfl) rfl 0 rfl ?_
      refine zj_iload_n o (zdd k_W_fit 10 rfl) rfl 1 rfl ?_
      refine zj_iload_n o (zdd k_W_fit 11 rfl) rfl 2 rfl ?_
      refine zj_iload_n o (zdd k_W_fit 12 rfl) rfl 3 rfl ?_
      obtain ⟨σ3, e_σ3, h⟩ := zbd h
      refine zc_V o (zdd k_W_fit 13 rfl) ml_W_331 mv_W_findFitting ⟨rfl, by decide⟩ (zg_some e_σ3).1 (by decide) [.int p0, .int p1, .int p2] [] rfl (Nat.le_of_ble_eq_true rfl) rfl (m_W_findFitting e_σ3) ?_
      change zPJ X 0 0 _ _ [] _
      refine zj_aload_n o (zdd k_W_fit 14 rfl) rfl 0 rfl ?_
      obtain ⟨a4, e_a4, h⟩ := zbd h
      refine zj_gP o (zdd k_W_fit 15 rfl) fl_W_63 rfl e_a4 ?_
      obtain ⟨x5, e_x5, h⟩ := zbd h
      refine zj_gI o (zdd k_W_fit 16 rfl) fl_W_335 rfl e_x5 ?_
      cases h
      exact zr_i o hr (zdd k_W_fit 17 rfl)
    · rw [if_pos hc] at h
      refine zj_iconst o (zdd k_W_fit 7 rfl) zki_m1 ?_
      cases h
      exact zr_i o hr (zdd k_W_fit 8 rfl)
def f_W_sure (σ : zSt) (t : Nat) (p0 : Int32) (p1 : Int32) (p2 : Int32) (p3 : Int32) (p4 : Int32) : Option (Int32 × zSt) :=
zg σ 11 t (
(f_W_isReader σ t p0).bind fun x1 =>
if x1 = 0 then (
some ((-1000000), σ)) else
(f_W_isTopic σ t p1).bind fun x2 =>
if x2 = 0 then (
some ((-1000000), σ)) else
(f_R_canBe p3).bind fun x3 =>
if x3 = 0 then (
some ((-1000000), σ)) else
(f_W_findFitting σ t p0 p3 p4).bind fun σ4 =>
if p2 = 0 then (
(zgP σ4 11 t 10).bind fun a5 =>
(f_R_leastFitting σ4 a5 p1).bind fun x6 =>
some (x6, σ4)) else
(zgP σ4 11 t 10).bind fun a7 =>
(f_R_mostFitting σ4 a7 p1).bind fun x8 =>
some (x8, σ4))
set_option maxRecDepth 100000 in
set_option maxHeartbeats 4000000 in
theorem m_W_sure {l : Launch} {b : Nat} {ex : Nat → Value} {D : va_G} {ca : Nat → ClassId} {σ : zSt} {t : Nat} {p0 : Int32} {p1 : Int32} {p2 : Int32} {p3 : Int32} {p4 : Int32} {z : Int32 × zSt} (h : f_W_sure σ t p0 p1 p2 p3 p4 = some z) : zMT l b ex D ca 8 y_W_sure c_W_sure n_W_sure r_ret_W_sure [.ref t, .int p0, .int p1, .int p2, .int p3, .int p4] σ (some (.int z.1)) z.2 0 0 := by
  obtain ⟨_, hg0⟩ := zg_some h
  have h := hg0
  refine zmt_of (by decide) (Nat.le_of_ble_eq_true rfl) ⟨.int, rfl, rfl⟩ (fun X o hin hrm _ _ _ _ _ hr => ?_)
  have hr := hr 0 0 (by decide) (by decide)
  have o : zOK X "WantShelves" c_W_sure n_W_sure 8 := o
  change zPJ X 0 0 0 [(0, .ref t), (1, .int p0), (2, .int p1), (3, .int p2), (4, .int p3), (5, .int p4)] [] σ
  refine zj_aload_n o (zdd k_W_sure 0 rfl) rfl 0 rfl ?_
  refine zj_iload_n o (zdd k_W_sure 1 rfl) rfl 1 rfl ?_
  obtain ⟨x1, e_x1, h⟩ := zbd h
  refine zc_V o (zdd k_W_sure 2 rfl) ml_W_146 mv_W_isReader ⟨rfl, by decide⟩ (zg_some e_x1).1 (by decide) [.int p0] [] rfl (Nat.le_of_ble_eq_true rfl) rfl (m_W_isReader e_x1) ?_
  change zPJ X 0 0 _ _ [.int x1] _
  refine zj_if_eq (tgt := 24) o (zdd k_W_sure 3 rfl) (by decide) (fun hc => ?_) (fun hc => ?_)
  · rw [if_pos hc] at h
    refine zj_ldc o (zdd k_W_sure 11 rfl) co_W_152 ?_
    cases h
    exact zr_i o hr (zdd k_W_sure 12 rfl)
  · rw [if_neg hc] at h
    refine zj_aload_n o (zdd k_W_sure 4 rfl) rfl 0 rfl ?_
    refine zj_iload_n o (zdd k_W_sure 5 rfl) rfl 2 rfl ?_
    obtain ⟨x2, e_x2, h⟩ := zbd h
    refine zc_V o (zdd k_W_sure 6 rfl) ml_W_140 mv_W_isTopic ⟨rfl, by decide⟩ (zg_some e_x2).1 (by decide) [.int p1] [] rfl (Nat.le_of_ble_eq_true rfl) rfl (m_W_isTopic e_x2) ?_
    change zPJ X 0 0 _ _ [.int x2] _
    refine zj_if_eq (tgt := 24) o (zdd k_W_sure 7 rfl) (by decide) (fun hc => ?_) (fun hc => ?_)
    · rw [if_pos hc] at h
      refine zj_ldc o (zdd k_W_sure 11 rfl) co_W_152 ?_
      cases h
      exact zr_i o hr (zdd k_W_sure 12 rfl)
    · rw [if_neg hc] at h
      refine zj_iload o (zdd k_W_sure 8 rfl) 4 rfl ?_
      obtain ⟨x3, e_x3, h⟩ := zbd h
      refine zc_S o (zdd k_W_sure 9 rfl) ml_W_261 ms_R_canBe (by decide) [.int p3] [] rfl (Nat.le_of_ble_eq_true rfl) rfl (m_R_canBe e_x3) ?_
      change zPJ X 0 0 _ _ [.int x3] _
      refine zj_if_ne (tgt := 27) o (zdd k_W_sure 10 rfl) (by decide) (fun hc => ?_) (fun hc => ?_)
      · rw [if_neg hc] at h
        refine zj_aload_n o (zdd k_W_sure 13 rfl) rfl 0 rfl ?_
        refine zj_iload_n o (zdd k_W_sure 14 rfl) rfl 1 rfl ?_
        refine zj_iload o (zdd k_W_sure 15 rfl) 4 rfl ?_
        refine zj_iload o (zdd k_W_sure 16 rfl) 5 rfl ?_
        obtain ⟨σ4, e_σ4, h⟩ := zbd h
        refine zc_V o (zdd k_W_sure 17 rfl) ml_W_331 mv_W_findFitting ⟨rfl, by decide⟩ (zg_some e_σ4).1 (by decide) [.int p0, .int p3, .int p4] [] rfl (Nat.le_of_ble_eq_true rfl) rfl (m_W_findFitting e_σ4) ?_
        change zPJ X 0 0 _ _ [] _
        refine zj_iload_n o (zdd k_W_sure 18 rfl) rfl 3 rfl ?_
        refine zj_if_eq (tgt := 51) o (zdd k_W_sure 19 rfl) (by decide) (fun hc => ?_) (fun hc => ?_)
        · rw [if_pos hc] at h
          refine zj_aload_n o (zdd k_W_sure 25 rfl) rfl 0 rfl ?_
          obtain ⟨a5, e_a5, h⟩ := zbd h
          refine zj_gP o (zdd k_W_sure 26 rfl) fl_W_63 rfl e_a5 ?_
          refine zj_iload_n o (zdd k_W_sure 27 rfl) rfl 2 rfl ?_
          obtain ⟨x6, e_x6, h⟩ := zbd h
          refine zc_V o (zdd k_W_sure 28 rfl) ml_W_341 mv_R_leastFitting ⟨rfl, by decide⟩ (zg_some e_x6).1 (by decide) [.int p1] [] rfl (Nat.le_of_ble_eq_true rfl) rfl (m_R_leastFitting e_x6) ?_
          change zPJ X 0 0 _ _ [.int x6] _
          cases h
          exact zr_i o hr (zdd k_W_sure 29 rfl)
        · rw [if_neg hc] at h
          refine zj_aload_n o (zdd k_W_sure 20 rfl) rfl 0 rfl ?_
          obtain ⟨a7, e_a7, h⟩ := zbd h
          refine zj_gP o (zdd k_W_sure 21 rfl) fl_W_63 rfl e_a7 ?_
          refine zj_iload_n o (zdd k_W_sure 22 rfl) rfl 2 rfl ?_
          obtain ⟨x8, e_x8, h⟩ := zbd h
          refine zc_V o (zdd k_W_sure 23 rfl) ml_W_338 mv_R_mostFitting ⟨rfl, by decide⟩ (zg_some e_x8).1 (by decide) [.int p1] [] rfl (Nat.le_of_ble_eq_true rfl) rfl (m_R_mostFitting e_x8) ?_
          change zPJ X 0 0 _ _ [.int x8] _
          refine zj_goto (tgt := 59) o (zdd k_W_sure 24 rfl) (by decide) ?_
          cases h
          exact zr_i o hr (zdd k_W_sure 29 rfl)
      · rw [if_pos hc] at h
        refine zj_ldc o (zdd k_W_sure 11 rfl) co_W_152 ?_
        cases h
        exact zr_i o hr (zdd k_W_sure 12 rfl)
def f_W_ask_92 (k74 : zSt → Nat → Int32 → Int32 → Int32 → Int32 → Option (Int32 × zSt)) (k92 : zSt → Nat → Int32 → Int32 → Int32 → Int32 → Int32 → Option (Int32 × zSt)) (σ : zSt) (v0 : Nat) (v3 : Int32) (v5 : Int32) (v6 : Int32) (v7 : Int32) (v8 : Int32) : Option (Int32 × zSt) :=
(zgP σ 11 v0 2).bind fun a1 =>
(zgI σ 10 a1 1).bind fun x2 =>
if x2 ≤ v8 then (
k74 σ v0 v3 v5 v6 (v7 + 1)) else
(zgP σ 11 v0 10).bind fun a3 =>
(f_R_leftAtMost σ a3 v7 v8).bind fun x4 =>
if v6 ≤ x4 then (
k92 σ v0 v3 v5 v6 v7 (v8 + 1)) else
k92 σ v0 v3 ((10 * v7) + v8) x4 v7 (v8 + 1)
set_option maxRecDepth 100000 in
set_option maxHeartbeats 4000000 in
theorem r_W_ask_92 {X : zCX} (o : zOK X "WantShelves" c_W_ask n_W_ask 8) {k74 : zSt → Nat → Int32 → Int32 → Int32 → Int32 → Option (Int32 × zSt)} {k92 : zSt → Nat → Int32 → Int32 → Int32 → Int32 → Int32 → Option (Int32 × zSt)} (hk74 : ∀ {σ : zSt} {v0 : Nat} {v3 : Int32} {v5 : Int32} {v6 : Int32} {v7 : Int32} {z : Int32 × zSt}, k74 σ v0 v3 v5 v6 v7 = some z → zRX X 0 0 (some (.int z.1)) z.2 → zPJ X 0 0 74 [(0, .ref v0), (3, .int v3), (5, .int v5), (6, .int v6), (7, .int v7)] [] σ) (hk92 : ∀ {σ : zSt} {v0 : Nat} {v3 : Int32} {v5 : Int32} {v6 : Int32} {v7 : Int32} {v8 : Int32} {z : Int32 × zSt}, k92 σ v0 v3 v5 v6 v7 v8 = some z → zRX X 0 0 (some (.int z.1)) z.2 → zPJ X 0 0 92 [(0, .ref v0), (3, .int v3), (5, .int v5), (6, .int v6), (7, .int v7), (8, .int v8)] [] σ) {σ : zSt} {v0 : Nat} {v3 : Int32} {v5 : Int32} {v6 : Int32} {v7 : Int32} {v8 : Int32} {z : Int32 × zSt} (h : f_W_ask_92 k74 k92 σ v0 v3 v5 v6 v7 v8 = some z) (hr : zRX X 0 0 (some (.int z.1)) z.2) : zPJ X 0 0 92 [(0, .ref v0), (3, .int v3), (5, .int v5), (6, .int v6), (7, .int v7), (8, .int v8)] [] σ := by
  unfold f_W_ask_92 at h
  refine zj_iload o (zdd k_W_ask 49 rfl) 5 rfl ?_
  refine zj_aload_n o (zdd k_W_ask 50 rfl) rfl 0 rfl ?_
  obtain ⟨a1, e_a1, h⟩ := zbd h
  refine zj_gP o (zdd k_W_ask 51 rfl) fl_W_16 rfl e_a1 ?_
  obtain ⟨x2, e_x2, h⟩ := zbd h
  refine zj_gI o (zdd k_W_ask 52 rfl) fl_W_127 rfl e_x2 ?_
  refine zj_icmp_ge (tgt := 144) o (zdd k_W_ask 53 rfl) (by decide) (fun hc => ?_) (fun hc => ?_)
  · rw [if_pos hc] at h
    refine zj_iinc (v := v7 + 1) (loc' := [(7, .int (v7 + 1)), (0, .ref v0), (3, .int v3), (5, .int v5), (6, .int v6), (8, .int v8)]) o (zdd k_W_ask 73 rfl) 4 rfl (by rw [zki_1]) (by decide) rfl ?_
    refine zj_goto (tgt := 74) o (zdd k_W_ask 74 rfl) (by decide) ?_
    exact zj_sub [1, 2, 3, 4, 0] rfl (hk74 h hr)
  · rw [if_neg hc] at h
    refine zj_aload_n o (zdd k_W_ask 54 rfl) rfl 0 rfl ?_
    obtain ⟨a3, e_a3, h⟩ := zbd h
    refine zj_gP o (zdd k_W_ask 55 rfl) fl_W_63 rfl e_a3 ?_
    refine zj_iload o (zdd k_W_ask 56 rfl) 4 rfl ?_
    refine zj_iload o (zdd k_W_ask 57 rfl) 5 rfl ?_
    obtain ⟨x4, e_x4, h⟩ := zbd h
    refine zc_V o (zdd k_W_ask 58 rfl) ml_W_344 mv_R_leftAtMost ⟨rfl, by decide⟩ (zg_some e_x4).1 (by decide) [.int v7, .int v8] [] rfl (Nat.le_of_ble_eq_true rfl) rfl (m_R_leftAtMost e_x4) ?_
    change zPJ X 0 0 _ _ [.int x4] _
    refine zj_istore (loc' := [(9, .int x4), (0, .ref v0), (3, .int v3), (5, .int v5), (6, .int v6), (7, .int v7), (8, .int v8)]) o (zdd k_W_ask 59 rfl) (by decide) rfl ?_
    refine zj_iload o (zdd k_W_ask 60 rfl) 0 rfl ?_
    refine zj_iload o (zdd k_W_ask 61 rfl) 4 rfl ?_
    refine zj_icmp_ge (tgt := 138) o (zdd k_W_ask 62 rfl) (by decide) (fun hc => ?_) (fun hc => ?_)
    · rw [if_pos hc] at h
      refine zj_iinc (v := v8 + 1) (loc' := [(8, .int (v8 + 1)), (9, .int x4), (0, .ref v0), (3, .int v3), (5, .int v5), (6, .int v6), (7, .int v7)]) o (zdd k_W_ask 71 rfl) 6 rfl (by rw [zki_1]) (by decide) rfl ?_
      refine zj_goto (tgt := 92) o (zdd k_W_ask 72 rfl) (by decide) ?_
      exact zj_sub [2, 3, 4, 5, 6, 0] rfl (hk92 h hr)
    · rw [if_neg hc] at h
      refine zj_iload o (zdd k_W_ask 63 rfl) 0 rfl ?_
      refine zj_istore (loc' := [(6, .int x4), (9, .int x4), (0, .ref v0), (3, .int v3), (5, .int v5), (7, .int v7), (8, .int v8)]) o (zdd k_W_ask 64 rfl) (by decide) rfl ?_
      refine zj_bipush o (zdd k_W_ask 65 rfl) zkb_10 ?_
      refine zj_iload o (zdd k_W_ask 66 rfl) 5 rfl ?_
      refine zj_imul o (zdd k_W_ask 67 rfl) ?_
      refine zj_iload o (zdd k_W_ask 68 rfl) 6 rfl ?_
      refine zj_iadd o (zdd k_W_ask 69 rfl) ?_
      refine zj_istore (loc' := [(5, .int ((10 * v7) + v8)), (6, .int x4), (9, .int x4), (0, .ref v0), (3, .int v3), (7, .int v7), (8, .int v8)]) o (zdd k_W_ask 70 rfl) (by decide) rfl ?_
      refine zj_iinc (v := v8 + 1) (loc' := [(8, .int (v8 + 1)), (5, .int ((10 * v7) + v8)), (6, .int x4), (9, .int x4), (0, .ref v0), (3, .int v3), (7, .int v7)]) o (zdd k_W_ask 71 rfl) 6 rfl (by rw [zki_1]) (by decide) rfl ?_
      refine zj_goto (tgt := 92) o (zdd k_W_ask 72 rfl) (by decide) ?_
      exact zj_sub [4, 5, 1, 2, 6, 0] rfl (hk92 h hr)
def f_W_ask_92L (k74 : zSt → Nat → Int32 → Int32 → Int32 → Int32 → Option (Int32 × zSt)) : Nat → zSt → Nat → Int32 → Int32 → Int32 → Int32 → Int32 → Option (Int32 × zSt)
  | 0 => fun _ _ _ _ _ _ _ => none
  | n + 1 => f_W_ask_92  k74 (f_W_ask_92L k74 n)
theorem r_W_ask_92L {X : zCX} (o : zOK X "WantShelves" c_W_ask n_W_ask 8) {k74 : zSt → Nat → Int32 → Int32 → Int32 → Int32 → Option (Int32 × zSt)} (hk74 : ∀ {σ : zSt} {v0 : Nat} {v3 : Int32} {v5 : Int32} {v6 : Int32} {v7 : Int32} {z : Int32 × zSt}, k74 σ v0 v3 v5 v6 v7 = some z → zRX X 0 0 (some (.int z.1)) z.2 → zPJ X 0 0 74 [(0, .ref v0), (3, .int v3), (5, .int v5), (6, .int v6), (7, .int v7)] [] σ) : ∀ (n : Nat) {σ : zSt} {v0 : Nat} {v3 : Int32} {v5 : Int32} {v6 : Int32} {v7 : Int32} {v8 : Int32} {z : Int32 × zSt}, f_W_ask_92L k74 n σ v0 v3 v5 v6 v7 v8 = some z → zRX X 0 0 (some (.int z.1)) z.2 → zPJ X 0 0 92 [(0, .ref v0), (3, .int v3), (5, .int v5), (6, .int v6), (7, .int v7), (8, .int v8)] [] σ
  | 0 => fun h _ => by cases h
  | n + 1 => fun h hr => r_W_ask_92 o hk74 (r_W_ask_92L o hk74 n) h hr
def f_W_ask_150 (σ : zSt) (v3 : Int32) (v5 : Int32) (v6 : Int32) : Option (Int32 × zSt) :=
if v3 = 0 then (
some (v5, σ)) else
some (v6, σ)
set_option maxRecDepth 100000 in
set_option maxHeartbeats 4000000 in
theorem r_W_ask_150 {X : zCX} (o : zOK X "WantShelves" c_W_ask n_W_ask 8) {σ : zSt} {v3 : Int32} {v5 : Int32} {v6 : Int32} {z : Int32 × zSt} (h : f_W_ask_150 σ v3 v5 v6 = some z) (hr : zRX X 0 0 (some (.int z.1)) z.2) : zPJ X 0 0 150 [(3, .int v3), (5, .int v5), (6, .int v6)] [] σ := by
  unfold f_W_ask_150 at h
  refine zj_iload_n o (zdd k_W_ask 75 rfl) rfl 0 rfl ?_
  refine zj_if_ne (tgt := 159) o (zdd k_W_ask 76 rfl) (by decide) (fun hc => ?_) (fun hc => ?_)
  · rw [if_neg hc] at h
    refine zj_iload o (zdd k_W_ask 79 rfl) 2 rfl ?_
    cases h
    exact zr_i o hr (zdd k_W_ask 80 rfl)
  · rw [if_pos hc] at h
    refine zj_iload o (zdd k_W_ask 77 rfl) 1 rfl ?_
    refine zj_goto (tgt := 161) o (zdd k_W_ask 78 rfl) (by decide) ?_
    cases h
    exact zr_i o hr (zdd k_W_ask 80 rfl)
def f_W_ask_74 (k74 : zSt → Nat → Int32 → Int32 → Int32 → Int32 → Option (Int32 × zSt)) (σ : zSt) (v0 : Nat) (v3 : Int32) (v5 : Int32) (v6 : Int32) (v7 : Int32) : Option (Int32 × zSt) :=
(zgP σ 11 v0 2).bind fun a1 =>
(zgI σ 10 a1 1).bind fun x2 =>
if x2 ≤ v7 then (
f_W_ask_150 σ v3 v5 v6) else
f_W_ask_92L k74 zfu σ v0 v3 v5 v6 v7 (v7 + 1)
set_option maxRecDepth 100000 in
set_option maxHeartbeats 4000000 in
theorem r_W_ask_74 {X : zCX} (o : zOK X "WantShelves" c_W_ask n_W_ask 8) {k74 : zSt → Nat → Int32 → Int32 → Int32 → Int32 → Option (Int32 × zSt)} (hk74 : ∀ {σ : zSt} {v0 : Nat} {v3 : Int32} {v5 : Int32} {v6 : Int32} {v7 : Int32} {z : Int32 × zSt}, k74 σ v0 v3 v5 v6 v7 = some z → zRX X 0 0 (some (.int z.1)) z.2 → zPJ X 0 0 74 [(0, .ref v0), (3, .int v3), (5, .int v5), (6, .int v6), (7, .int v7)] [] σ) {σ : zSt} {v0 : Nat} {v3 : Int32} {v5 : Int32} {v6 : Int32} {v7 : Int32} {z : Int32 × zSt} (h : f_W_ask_74 k74 σ v0 v3 v5 v6 v7 = some z) (hr : zRX X 0 0 (some (.int z.1)) z.2) : zPJ X 0 0 74 [(0, .ref v0), (3, .int v3), (5, .int v5), (6, .int v6), (7, .int v7)] [] σ := by
  unfold f_W_ask_74 at h
  refine zj_iload o (zdd k_W_ask 40 rfl) 4 rfl ?_
  refine zj_aload_n o (zdd k_W_ask 41 rfl) rfl 0 rfl ?_
  obtain ⟨a1, e_a1, h⟩ := zbd h
  refine zj_gP o (zdd k_W_ask 42 rfl) fl_W_16 rfl e_a1 ?_
  obtain ⟨x2, e_x2, h⟩ := zbd h
  refine zj_gI o (zdd k_W_ask 43 rfl) fl_W_127 rfl e_x2 ?_
  refine zj_icmp_ge (tgt := 150) o (zdd k_W_ask 44 rfl) (by decide) (fun hc => ?_) (fun hc => ?_)
  · rw [if_pos hc] at h
    exact zj_sub [1, 2, 3] rfl (r_W_ask_150 o  h hr)
  · rw [if_neg hc] at h
    refine zj_iload o (zdd k_W_ask 45 rfl) 4 rfl ?_
    refine zj_iconst o (zdd k_W_ask 46 rfl) zki_1 ?_
    refine zj_iadd o (zdd k_W_ask 47 rfl) ?_
    refine zj_istore (loc' := [(8, .int (v7 + 1)), (0, .ref v0), (3, .int v3), (5, .int v5), (6, .int v6), (7, .int v7)]) o (zdd k_W_ask 48 rfl) (by decide) rfl ?_
    exact zj_sub [1, 2, 3, 4, 5, 0] rfl (r_W_ask_92L o hk74 zfu h hr)
def f_W_ask_74L : Nat → zSt → Nat → Int32 → Int32 → Int32 → Int32 → Option (Int32 × zSt)
  | 0 => fun _ _ _ _ _ _ => none
  | n + 1 => f_W_ask_74  (f_W_ask_74L  n)
theorem r_W_ask_74L {X : zCX} (o : zOK X "WantShelves" c_W_ask n_W_ask 8) : ∀ (n : Nat) {σ : zSt} {v0 : Nat} {v3 : Int32} {v5 : Int32} {v6 : Int32} {v7 : Int32} {z : Int32 × zSt}, f_W_ask_74L n σ v0 v3 v5 v6 v7 = some z → zRX X 0 0 (some (.int z.1)) z.2 → zPJ X 0 0 74 [(0, .ref v0), (3, .int v3), (5, .int v5), (6, .int v6), (7, .int v7)] [] σ
  | 0 => fun h _ => by cases h
  | n + 1 => fun h hr => r_W_ask_74 o (r_W_ask_74L o  n) h hr
def f_W_ask_24 (σ : zSt) (v0 : Nat) (v1 : Int32) (v2 : Int32) (v3 : Int32) (v4 : Int32) : Option (Int32 × zSt) :=
(zgP σ 11 v0 2).bind fun a1 =>
(zgI σ 10 a1 1).bind fun x2 =>
if 2 ≤ x2 then (
(f_W_findFitting σ v0 v1 v2 v4).bind fun σ3 =>
(zgP σ3 11 v0 10).bind fun a4 =>
(zgI σ3 6 a4 0).bind fun x5 =>
if x5 = 0 then (
some ((-1), σ3)) else
(zgP σ3 11 v0 10).bind fun a6 =>
(zgI σ3 6 a6 0).bind fun x7 =>
f_W_ask_74L zfu σ3 v0 v3 (-1) (x7 + 1) 0) else
some ((-1), σ)
set_option maxRecDepth 100000 in
set_option maxHeartbeats 4000000 in
theorem r_W_ask_24 {X : zCX} (o : zOK X "WantShelves" c_W_ask n_W_ask 8) {σ : zSt} {v0 : Nat} {v1 : Int32} {v2 : Int32} {v3 : Int32} {v4 : Int32} {z : Int32 × zSt} (h : f_W_ask_24 σ v0 v1 v2 v3 v4 = some z) (hr : zRX X 0 0 (some (.int z.1)) z.2) : zPJ X 0 0 24 [(0, .ref v0), (1, .int v1), (2, .int v2), (3, .int v3), (4, .int v4)] [] σ := by
  unfold f_W_ask_24 at h
  refine zj_aload_n o (zdd k_W_ask 12 rfl) rfl 0 rfl ?_
  obtain ⟨a1, e_a1, h⟩ := zbd h
  refine zj_gP o (zdd k_W_ask 13 rfl) fl_W_16 rfl e_a1 ?_
  obtain ⟨x2, e_x2, h⟩ := zbd h
  refine zj_gI o (zdd k_W_ask 14 rfl) fl_W_127 rfl e_x2 ?_
  refine zj_iconst o (zdd k_W_ask 15 rfl) zki_2 ?_
  refine zj_icmp_ge (tgt := 37) o (zdd k_W_ask 16 rfl) (by decide) (fun hc => ?_) (fun hc => ?_)
  · rw [if_pos hc] at h
    refine zj_aload_n o (zdd k_W_ask 19 rfl) rfl 0 rfl ?_
    refine zj_iload_n o (zdd k_W_ask 20 rfl) rfl 1 rfl ?_
    refine zj_iload_n o (zdd k_W_ask 21 rfl) rfl 2 rfl ?_
    refine zj_iload o (zdd k_W_ask 22 rfl) 4 rfl ?_
    obtain ⟨σ3, e_σ3, h⟩ := zbd h
    refine zc_V o (zdd k_W_ask 23 rfl) ml_W_331 mv_W_findFitting ⟨rfl, by decide⟩ (zg_some e_σ3).1 (by decide) [.int v1, .int v2, .int v4] [] rfl (Nat.le_of_ble_eq_true rfl) rfl (m_W_findFitting e_σ3) ?_
    change zPJ X 0 0 _ _ [] _
    refine zj_aload_n o (zdd k_W_ask 24 rfl) rfl 0 rfl ?_
    obtain ⟨a4, e_a4, h⟩ := zbd h
    refine zj_gP o (zdd k_W_ask 25 rfl) fl_W_63 rfl e_a4 ?_
    obtain ⟨x5, e_x5, h⟩ := zbd h
    refine zj_gI o (zdd k_W_ask 26 rfl) fl_W_335 rfl e_x5 ?_
    refine zj_if_ne (tgt := 57) o (zdd k_W_ask 27 rfl) (by decide) (fun hc => ?_) (fun hc => ?_)
    · rw [if_neg hc] at h
      refine zj_iconst o (zdd k_W_ask 30 rfl) zki_m1 ?_
      refine zj_istore (loc' := [(5, .int (-1)), (0, .ref v0), (1, .int v1), (2, .int v2), (3, .int v3), (4, .int v4)]) o (zdd k_W_ask 31 rfl) (by decide) rfl ?_
      refine zj_aload_n o (zdd k_W_ask 32 rfl) rfl 1 rfl ?_
      obtain ⟨a6, e_a6, h⟩ := zbd h
      refine zj_gP o (zdd k_W_ask 33 rfl) fl_W_63 rfl e_a6 ?_
      obtain ⟨x7, e_x7, h⟩ := zbd h
      refine zj_gI o (zdd k_W_ask 34 rfl) fl_W_335 rfl e_x7 ?_
      refine zj_iconst o (zdd k_W_ask 35 rfl) zki_1 ?_
      refine zj_iadd o (zdd k_W_ask 36 rfl) ?_
      refine zj_istore (loc' := [(6, .int (x7 + 1)), (5, .int (-1)), (0, .ref v0), (1, .int v1), (2, .int v2), (3, .int v3), (4, .int v4)]) o (zdd k_W_ask 37 rfl) (by decide) rfl ?_
      refine zj_iconst o (zdd k_W_ask 38 rfl) zki_0 ?_
      refine zj_istore (loc' := [(7, .int 0), (6, .int (x7 + 1)), (5, .int (-1)), (0, .ref v0), (1, .int v1), (2, .int v2), (3, .int v3), (4, .int v4)]) o (zdd k_W_ask 39 rfl) (by decide) rfl ?_
      exact zj_sub [3, 6, 2, 1, 0] rfl (r_W_ask_74L o  zfu h hr)
    · rw [if_pos hc] at h
      refine zj_iconst o (zdd k_W_ask 28 rfl) zki_m1 ?_
      cases h
      exact zr_i o hr (zdd k_W_ask 29 rfl)
  · rw [if_neg hc] at h
    refine zj_iconst o (zdd k_W_ask 17 rfl) zki_m1 ?_
    cases h
    exact zr_i o hr (zdd k_W_ask 18 rfl)
def f_W_ask (σ : zSt) (t : Nat) (p0 : Int32) (p1 : Int32) (p2 : Int32) (p3 : Int32) : Option (Int32 × zSt) :=
zg σ 11 t (
(f_W_isReader σ t p0).bind fun x1 =>
if x1 = 0 then (
some ((-1), σ)) else
(f_R_canBe p1).bind fun x2 =>
if x2 = 0 then (
some ((-1), σ)) else
if p2 = 0 then (
f_W_ask_24 σ t p0 p1 p2 p3) else
if p2 = 1 then (
f_W_ask_24 σ t p0 p1 p2 p3) else
some ((-1), σ))
set_option maxRecDepth 100000 in
set_option maxHeartbeats 4000000 in
theorem m_W_ask {l : Launch} {b : Nat} {ex : Nat → Value} {D : va_G} {ca : Nat → ClassId} {σ : zSt} {t : Nat} {p0 : Int32} {p1 : Int32} {p2 : Int32} {p3 : Int32} {z : Int32 × zSt} (h : f_W_ask σ t p0 p1 p2 p3 = some z) : zMT l b ex D ca 8 y_W_ask c_W_ask n_W_ask r_ret_W_ask [.ref t, .int p0, .int p1, .int p2, .int p3] σ (some (.int z.1)) z.2 0 0 := by
  obtain ⟨_, hg0⟩ := zg_some h
  have h := hg0
  refine zmt_of (by decide) (Nat.le_of_ble_eq_true rfl) ⟨.int, rfl, rfl⟩ (fun X o hin hrm _ _ _ _ _ hr => ?_)
  have hr := hr 0 0 (by decide) (by decide)
  have o : zOK X "WantShelves" c_W_ask n_W_ask 8 := o
  change zPJ X 0 0 0 [(0, .ref t), (1, .int p0), (2, .int p1), (3, .int p2), (4, .int p3)] [] σ
  refine zj_aload_n o (zdd k_W_ask 0 rfl) rfl 0 rfl ?_
  refine zj_iload_n o (zdd k_W_ask 1 rfl) rfl 1 rfl ?_
  obtain ⟨x1, e_x1, h⟩ := zbd h
  refine zc_V o (zdd k_W_ask 2 rfl) ml_W_146 mv_W_isReader ⟨rfl, by decide⟩ (zg_some e_x1).1 (by decide) [.int p0] [] rfl (Nat.le_of_ble_eq_true rfl) rfl (m_W_isReader e_x1) ?_
  change zPJ X 0 0 _ _ [.int x1] _
  refine zj_if_eq (tgt := 35) o (zdd k_W_ask 3 rfl) (by decide) (fun hc => ?_) (fun hc => ?_)
  · rw [if_pos hc] at h
    refine zj_iconst o (zdd k_W_ask 17 rfl) zki_m1 ?_
    cases h
    exact zr_i o hr (zdd k_W_ask 18 rfl)
  · rw [if_neg hc] at h
    refine zj_iload_n o (zdd k_W_ask 4 rfl) rfl 2 rfl ?_
    obtain ⟨x2, e_x2, h⟩ := zbd h
    refine zc_S o (zdd k_W_ask 5 rfl) ml_W_261 ms_R_canBe (by decide) [.int p1] [] rfl (Nat.le_of_ble_eq_true rfl) rfl (m_R_canBe e_x2) ?_
    change zPJ X 0 0 _ _ [.int x2] _
    refine zj_if_eq (tgt := 35) o (zdd k_W_ask 6 rfl) (by decide) (fun hc => ?_) (fun hc => ?_)
    · rw [if_pos hc] at h
      refine zj_iconst o (zdd k_W_ask 17 rfl) zki_m1 ?_
      cases h
      exact zr_i o hr (zdd k_W_ask 18 rfl)
    · rw [if_neg hc] at h
      refine zj_iload_n o (zdd k_W_ask 7 rfl) rfl 3 rfl ?_
      refine zj_if_eq (tgt := 24) o (zdd k_W_ask 8 rfl) (by decide) (fun hc => ?_) (fun hc => ?_)
      · rw [if_pos hc] at h
        exact zj_sub [0, 1, 2, 3, 4] rfl (r_W_ask_24 o  h hr)
      · rw [if_neg hc] at h
        refine zj_iload_n o (zdd k_W_ask 9 rfl) rfl 3 rfl ?_
        refine zj_iconst o (zdd k_W_ask 10 rfl) zki_1 ?_
        refine zj_icmp_ne (tgt := 35) o (zdd k_W_ask 11 rfl) (by decide) (fun hc => ?_) (fun hc => ?_)
        · rw [if_neg hc] at h
          refine zj_iconst o (zdd k_W_ask 17 rfl) zki_m1 ?_
          cases h
          exact zr_i o hr (zdd k_W_ask 18 rfl)
        · rw [if_pos hc] at h
          exact zj_sub [0, 1, 2, 3, 4] rfl (r_W_ask_24 o  h hr)
def f_W_image (σ : zSt) (t : Nat) (p0 : Int32) : Option (Int32 × zSt) :=
zg σ 11 t (
if p0 < 0 then (
some ((-1), σ)) else
if p0 < 3 then (
(zgP σ 11 t 7).bind fun a1 =>
(zaP σ a1 p0).bind fun a2 =>
(zgP σ 11 t 5).bind fun a3 =>
(f_N_copy σ a2 a3).bind fun σ4 =>
(zgP σ4 11 t 7).bind fun a5 =>
(zaP σ4 a5 p0).bind fun a6 =>
(zsI σ4 4 a6 5 1).bind fun σ7 =>
(zgP σ7 11 t 5).bind fun a8 =>
(f_N_readings σ7 a8).bind fun x9 =>
some (x9, σ7)) else
some ((-1), σ))
set_option maxRecDepth 100000 in
set_option maxHeartbeats 4000000 in
theorem m_W_image {l : Launch} {b : Nat} {ex : Nat → Value} {D : va_G} {ca : Nat → ClassId} {σ : zSt} {t : Nat} {p0 : Int32} {z : Int32 × zSt} (h : f_W_image σ t p0 = some z) : zMT l b ex D ca 3 y_W_image c_W_image n_W_image r_ret_W_image [.ref t, .int p0] σ (some (.int z.1)) z.2 0 0 := by
  obtain ⟨_, hg0⟩ := zg_some h
  have h := hg0
  refine zmt_of (by decide) (Nat.le_of_ble_eq_true rfl) ⟨.int, rfl, rfl⟩ (fun X o hin hrm _ _ _ _ _ hr => ?_)
  have hr := hr 0 0 (by decide) (by decide)
  have o : zOK X "WantShelves" c_W_image n_W_image 3 := o
  change zPJ X 0 0 0 [(0, .ref t), (1, .int p0)] [] σ
  refine zj_iload_n o (zdd k_W_image 0 rfl) rfl 1 rfl ?_
  refine zj_if_lt (tgt := 9) o (zdd k_W_image 1 rfl) (by decide) (fun hc => ?_) (fun hc => ?_)
  · rw [if_pos hc] at h
    refine zj_iconst o (zdd k_W_image 5 rfl) zki_m1 ?_
    cases h
    exact zr_i o hr (zdd k_W_image 6 rfl)
  · rw [if_neg hc] at h
    refine zj_iload_n o (zdd k_W_image 2 rfl) rfl 1 rfl ?_
    refine zj_iconst o (zdd k_W_image 3 rfl) zki_3 ?_
    refine zj_icmp_lt (tgt := 11) o (zdd k_W_image 4 rfl) (by decide) (fun hc => ?_) (fun hc => ?_)
    · rw [if_pos hc] at h
      refine zj_aload_n o (zdd k_W_image 7 rfl) rfl 0 rfl ?_
      obtain ⟨a1, e_a1, h⟩ := zbd h
      refine zj_gP o (zdd k_W_image 8 rfl) fl_W_42 rfl e_a1 ?_
      refine zj_iload_n o (zdd k_W_image 9 rfl) rfl 1 rfl ?_
      obtain ⟨a2, e_a2, h⟩ := zbd h
      refine zj_aald o (zdd k_W_image 10 rfl) e_a2 ?_
      refine zj_aload_n o (zdd k_W_image 11 rfl) rfl 0 rfl ?_
      obtain ⟨a3, e_a3, h⟩ := zbd h
      refine zj_gP o (zdd k_W_image 12 rfl) fl_W_35 rfl e_a3 ?_
      obtain ⟨σ4, e_σ4, h⟩ := zbd h
      refine zc_V o (zdd k_W_image 13 rfl) ml_W_254 mv_N_copy ⟨rfl, by decide⟩ (zg_some e_σ4).1 (by decide) [.ref a3] [] rfl (Nat.le_of_ble_eq_true rfl) rfl (m_N_copy e_σ4) ?_
      change zPJ X 0 0 _ _ [] _
      refine zj_aload_n o (zdd k_W_image 14 rfl) rfl 0 rfl ?_
      obtain ⟨a5, e_a5, h⟩ := zbd h
      refine zj_gP o (zdd k_W_image 15 rfl) fl_W_42 rfl e_a5 ?_
      refine zj_iload_n o (zdd k_W_image 16 rfl) rfl 1 rfl ?_
      obtain ⟨a6, e_a6, h⟩ := zbd h
      refine zj_aald o (zdd k_W_image 17 rfl) e_a6 ?_
      refine zj_iconst o (zdd k_W_image 18 rfl) zki_1 ?_
      obtain ⟨σ7, e_σ7, h⟩ := zbd h
      refine zj_pZ o (zdd k_W_image 19 rfl) fl_W_117 rfl (by decide) rfl e_σ7 ?_
      refine zj_aload_n o (zdd k_W_image 20 rfl) rfl 0 rfl ?_
      obtain ⟨a8, e_a8, h⟩ := zbd h
      refine zj_gP o (zdd k_W_image 21 rfl) fl_W_35 rfl e_a8 ?_
      obtain ⟨x9, e_x9, h⟩ := zbd h
      refine zc_V o (zdd k_W_image 22 rfl) ml_W_347 mv_N_readings ⟨rfl, by decide⟩ (zg_some e_x9).1 (by decide) [] [] rfl (Nat.le_of_ble_eq_true rfl) rfl (m_N_readings e_x9) ?_
      change zPJ X 0 0 _ _ [.int x9] _
      cases h
      exact zr_i o hr (zdd k_W_image 23 rfl)
    · rw [if_neg hc] at h
      refine zj_iconst o (zdd k_W_image 5 rfl) zki_m1 ?_
      cases h
      exact zr_i o hr (zdd k_W_image 6 rfl)
def f_W_back (σ : zSt) (t : Nat) (p0 : Int32) : Option (Int32 × zSt) :=
zg σ 11 t (
if p0 < 0 then (
some ((-1), σ)) else
if 3 ≤ p0 then (
some ((-1), σ)) else
(zgP σ 11 t 7).bind fun a1 =>
(zaP σ a1 p0).bind fun a2 =>
(zgI σ 4 a2 5).bind fun x3 =>
if x3 = 0 then (
some ((-1), σ)) else
(zgP σ 11 t 5).bind fun a4 =>
(zgP σ 11 t 7).bind fun a5 =>
(zaP σ a5 p0).bind fun a6 =>
(f_N_copy σ a4 a6).bind fun σ7 =>
(zgP σ7 11 t 8).bind fun a8 =>
(f_A_clear σ7 a8).bind fun σ9 =>
(zgP σ9 11 t 5).bind fun a10 =>
(f_N_readings σ9 a10).bind fun x11 =>
some (x11, σ9))
set_option maxRecDepth 100000 in
set_option maxHeartbeats 4000000 in
theorem m_W_back {l : Launch} {b : Nat} {ex : Nat → Value} {D : va_G} {ca : Nat → ClassId} {σ : zSt} {t : Nat} {p0 : Int32} {z : Int32 × zSt} (h : f_W_back σ t p0 = some z) : zMT l b ex D ca 3 y_W_back c_W_back n_W_back r_ret_W_back [.ref t, .int p0] σ (some (.int z.1)) z.2 0 0 := by
  obtain ⟨_, hg0⟩ := zg_some h
  have h := hg0
  refine zmt_of (by decide) (Nat.le_of_ble_eq_true rfl) ⟨.int, rfl, rfl⟩ (fun X o hin hrm _ _ _ _ _ hr => ?_)
  have hr := hr 0 0 (by decide) (by decide)
  have o : zOK X "WantShelves" c_W_back n_W_back 3 := o
  change zPJ X 0 0 0 [(0, .ref t), (1, .int p0)] [] σ
  refine zj_iload_n o (zdd k_W_back 0 rfl) rfl 1 rfl ?_
  refine zj_if_lt (tgt := 21) o (zdd k_W_back 1 rfl) (by decide) (fun hc => ?_) (fun hc => ?_)
  · rw [if_pos hc] at h
    refine zj_iconst o (zdd k_W_back 11 rfl) zki_m1 ?_
    cases h
    exact zr_i o hr (zdd k_W_back 12 rfl)
  · rw [if_neg hc] at h
    refine zj_iload_n o (zdd k_W_back 2 rfl) rfl 1 rfl ?_
    refine zj_iconst o (zdd k_W_back 3 rfl) zki_3 ?_
    refine zj_icmp_ge (tgt := 21) o (zdd k_W_back 4 rfl) (by decide) (fun hc => ?_) (fun hc => ?_)
    · rw [if_pos hc] at h
      refine zj_iconst o (zdd k_W_back 11 rfl) zki_m1 ?_
      cases h
      exact zr_i o hr (zdd k_W_back 12 rfl)
    · rw [if_neg hc] at h
      refine zj_aload_n o (zdd k_W_back 5 rfl) rfl 0 rfl ?_
      obtain ⟨a1, e_a1, h⟩ := zbd h
      refine zj_gP o (zdd k_W_back 6 rfl) fl_W_42 rfl e_a1 ?_
      refine zj_iload_n o (zdd k_W_back 7 rfl) rfl 1 rfl ?_
      obtain ⟨a2, e_a2, h⟩ := zbd h
      refine zj_aald o (zdd k_W_back 8 rfl) e_a2 ?_
      obtain ⟨x3, e_x3, h⟩ := zbd h
      refine zj_gI o (zdd k_W_back 9 rfl) fl_W_117 rfl e_x3 ?_
      refine zj_if_ne (tgt := 23) o (zdd k_W_back 10 rfl) (by decide) (fun hc => ?_) (fun hc => ?_)
      · rw [if_neg hc] at h
        refine zj_aload_n o (zdd k_W_back 13 rfl) rfl 0 rfl ?_
        obtain ⟨a4, e_a4, h⟩ := zbd h
        refine zj_gP o (zdd k_W_back 14 rfl) fl_W_35 rfl e_a4 ?_
        refine zj_aload_n o (zdd k_W_back 15 rfl) rfl 0 rfl ?_
        obtain ⟨a5, e_a5, h⟩ := zbd h
        refine zj_gP o (zdd k_W_back 16 rfl) fl_W_42 rfl e_a5 ?_
        refine zj_iload_n o (zdd k_W_back 17 rfl) rfl 1 rfl ?_
        obtain ⟨a6, e_a6, h⟩ := zbd h
        refine zj_aald o (zdd k_W_back 18 rfl) e_a6 ?_
        obtain ⟨σ7, e_σ7, h⟩ := zbd h
        refine zc_V o (zdd k_W_back 19 rfl) ml_W_254 mv_N_copy ⟨rfl, by decide⟩ (zg_some e_σ7).1 (by decide) [.ref a6] [] rfl (Nat.le_of_ble_eq_true rfl) rfl (m_N_copy e_σ7) ?_
        change zPJ X 0 0 _ _ [] _
        refine zj_aload_n o (zdd k_W_back 20 rfl) rfl 0 rfl ?_
        obtain ⟨a8, e_a8, h⟩ := zbd h
        refine zj_gP o (zdd k_W_back 21 rfl) fl_W_49 rfl e_a8 ?_
        obtain ⟨σ9, e_σ9, h⟩ := zbd h
        refine zc_V o (zdd k_W_back 22 rfl) ml_W_113 mv_A_clear ⟨rfl, by decide⟩ (zg_some e_σ9).1 (by decide) [] [] rfl (Nat.le_of_ble_eq_true rfl) rfl (m_A_clear e_σ9) ?_
        change zPJ X 0 0 _ _ [] _
        refine zj_aload_n o (zdd k_W_back 23 rfl) rfl 0 rfl ?_
        obtain ⟨a10, e_a10, h⟩ := zbd h
        refine zj_gP o (zdd k_W_back 24 rfl) fl_W_35 rfl e_a10 ?_
        obtain ⟨x11, e_x11, h⟩ := zbd h
        refine zc_V o (zdd k_W_back 25 rfl) ml_W_347 mv_N_readings ⟨rfl, by decide⟩ (zg_some e_x11).1 (by decide) [] [] rfl (Nat.le_of_ble_eq_true rfl) rfl (m_N_readings e_x11) ?_
        change zPJ X 0 0 _ _ [.int x11] _
        cases h
        exact zr_i o hr (zdd k_W_back 26 rfl)
      · rw [if_pos hc] at h
        refine zj_iconst o (zdd k_W_back 11 rfl) zki_m1 ?_
        cases h
        exact zr_i o hr (zdd k_W_back 12 rfl)
def f_W_about (σ : zSt) (t : Nat) (p0 : Int32) : Option (Int32) :=
zg σ 11 t (
if p0 = 0 then (
(zgP σ 11 t 2).bind fun a1 =>
(zgI σ 10 a1 0).bind fun x2 =>
some x2) else
if p0 = 1 then (
(zgP σ 11 t 2).bind fun a3 =>
(zgI σ 10 a3 1).bind fun x4 =>
some x4) else
if p0 = 2 then (
(zgP σ 11 t 2).bind fun a5 =>
(zgI σ 10 a5 2).bind fun x6 =>
some x6) else
if p0 = 3 then (
(zgP σ 11 t 5).bind fun a7 =>
(zgI σ 4 a7 3).bind fun x8 =>
some x8) else
if p0 = 4 then (
(zgP σ 11 t 5).bind fun a9 =>
(zgI σ 4 a9 4).bind fun x10 =>
some x10) else
if p0 = 5 then (
(zgP σ 11 t 5).bind fun a11 =>
(f_N_readings σ a11).bind fun x12 =>
some x12) else
if p0 = 6 then (
(zgP σ 11 t 8).bind fun a13 =>
(zgI σ 0 a13 0).bind fun x14 =>
some x14) else
if p0 = 7 then (
(zgP σ 11 t 8).bind fun a15 =>
(zgI σ 0 a15 1).bind fun x16 =>
some x16) else
if p0 = 8 then (
(zgP σ 11 t 14).bind fun a17 =>
(zgI σ 3 a17 0).bind fun x18 =>
some x18) else
if p0 = 9 then (
(zgI σ 11 t 16).bind fun x19 =>
some x19) else
if p0 = 10 then (
(zgP σ 11 t 14).bind fun a20 =>
(zgI σ 3 a20 1).bind fun x21 =>
some x21) else
if p0 = 11 then (
(zgI σ 11 t 1).bind fun x22 =>
some x22) else
if p0 = 12 then (
(zgP σ 11 t 2).bind fun a23 =>
(zgI σ 10 a23 6).bind fun x24 =>
some x24) else
if p0 = 13 then (
(zgI σ 11 t 18).bind fun x25 =>
some x25) else
if p0 = 14 then (
(zgP σ 11 t 2).bind fun a26 =>
(zgI σ 10 a26 3).bind fun x27 =>
some x27) else
some (-1))
set_option maxRecDepth 100000 in
set_option maxHeartbeats 4000000 in
theorem m_W_about {l : Launch} {b : Nat} {ex : Nat → Value} {D : va_G} {ca : Nat → ClassId} {σ : zSt} {t : Nat} {p0 : Int32} {z : Int32} (h : f_W_about σ t p0 = some z) : zMT l b ex D ca 3 y_W_about c_W_about n_W_about r_ret_W_about [.ref t, .int p0] σ (some (.int z)) σ 0 0 := by
  obtain ⟨_, hg0⟩ := zg_some h
  have h := hg0
  refine zmt_of (by decide) (Nat.le_of_ble_eq_true rfl) ⟨.int, rfl, rfl⟩ (fun X o hin hrm _ _ _ _ _ hr => ?_)
  have hr := hr 0 0 (by decide) (by decide)
  have o : zOK X "WantShelves" c_W_about n_W_about 3 := o
  change zPJ X 0 0 0 [(0, .ref t), (1, .int p0)] [] σ
  refine zj_iload_n o (zdd k_W_about 0 rfl) rfl 1 rfl ?_
  refine zj_tableC (dt := 187) o [76, 84, 92, 100, 108, 116, 124, 132, 140, 148, 153, 161, 166, 174, 179] (zdd k_W_about 1 rfl) (by decide) (by decide) (by decide) (by decide) (by decide) [(0, 76), (1, 84), (2, 92), (3, 100), (4, 108), (5, 116), (6, 124), (7, 132), (8, 140), (9, 148), (10, 153), (11, 161), (12, 166), (13, 174), (14, 179)] (by decide) ?_
  by_cases hc : p0 = 0
  · rw [if_pos hc] at h
    rw [zcase_pos hc]
    refine zj_aload_n o (zdd k_W_about 2 rfl) rfl 0 rfl ?_
    obtain ⟨a1, e_a1, h⟩ := zbd h
    refine zj_gP o (zdd k_W_about 3 rfl) fl_W_16 rfl e_a1 ?_
    obtain ⟨x2, e_x2, h⟩ := zbd h
    refine zj_gI o (zdd k_W_about 4 rfl) fl_W_239 rfl e_x2 ?_
    cases h
    exact zr_i o hr (zdd k_W_about 5 rfl)
  · rw [if_neg hc] at h
    rw [zcase_neg hc]
    by_cases hc : p0 = 1
    · rw [if_pos hc] at h
      rw [zcase_pos hc]
      refine zj_aload_n o (zdd k_W_about 6 rfl) rfl 0 rfl ?_
      obtain ⟨a3, e_a3, h⟩ := zbd h
      refine zj_gP o (zdd k_W_about 7 rfl) fl_W_16 rfl e_a3 ?_
      obtain ⟨x4, e_x4, h⟩ := zbd h
      refine zj_gI o (zdd k_W_about 8 rfl) fl_W_127 rfl e_x4 ?_
      cases h
      exact zr_i o hr (zdd k_W_about 9 rfl)
    · rw [if_neg hc] at h
      rw [zcase_neg hc]
      by_cases hc : p0 = 2
      · rw [if_pos hc] at h
        rw [zcase_pos hc]
        refine zj_aload_n o (zdd k_W_about 10 rfl) rfl 0 rfl ?_
        obtain ⟨a5, e_a5, h⟩ := zbd h
        refine zj_gP o (zdd k_W_about 11 rfl) fl_W_16 rfl e_a5 ?_
        obtain ⟨x6, e_x6, h⟩ := zbd h
        refine zj_gI o (zdd k_W_about 12 rfl) fl_W_231 rfl e_x6 ?_
        cases h
        exact zr_i o hr (zdd k_W_about 13 rfl)
      · rw [if_neg hc] at h
        rw [zcase_neg hc]
        by_cases hc : p0 = 3
        · rw [if_pos hc] at h
          rw [zcase_pos hc]
          refine zj_aload_n o (zdd k_W_about 14 rfl) rfl 0 rfl ?_
          obtain ⟨a7, e_a7, h⟩ := zbd h
          refine zj_gP o (zdd k_W_about 15 rfl) fl_W_35 rfl e_a7 ?_
          obtain ⟨x8, e_x8, h⟩ := zbd h
          refine zj_gI o (zdd k_W_about 16 rfl) fl_W_159 rfl e_x8 ?_
          cases h
          exact zr_i o hr (zdd k_W_about 17 rfl)
        · rw [if_neg hc] at h
          rw [zcase_neg hc]
          by_cases hc : p0 = 4
          · rw [if_pos hc] at h
            rw [zcase_pos hc]
            refine zj_aload_n o (zdd k_W_about 18 rfl) rfl 0 rfl ?_
            obtain ⟨a9, e_a9, h⟩ := zbd h
            refine zj_gP o (zdd k_W_about 19 rfl) fl_W_35 rfl e_a9 ?_
            obtain ⟨x10, e_x10, h⟩ := zbd h
            refine zj_gI o (zdd k_W_about 20 rfl) fl_W_202 rfl e_x10 ?_
            cases h
            exact zr_i o hr (zdd k_W_about 21 rfl)
          · rw [if_neg hc] at h
            rw [zcase_neg hc]
            by_cases hc : p0 = 5
            · rw [if_pos hc] at h
              rw [zcase_pos hc]
              refine zj_aload_n o (zdd k_W_about 22 rfl) rfl 0 rfl ?_
              obtain ⟨a11, e_a11, h⟩ := zbd h
              refine zj_gP o (zdd k_W_about 23 rfl) fl_W_35 rfl e_a11 ?_
              obtain ⟨x12, e_x12, h⟩ := zbd h
              refine zc_V o (zdd k_W_about 24 rfl) ml_W_347 mv_N_readings ⟨rfl, by decide⟩ (zg_some e_x12).1 (by decide) [] [] rfl (Nat.le_of_ble_eq_true rfl) rfl (m_N_readings e_x12) ?_
              change zPJ X 0 0 _ _ [.int x12] _
              cases h
              exact zr_i o hr (zdd k_W_about 25 rfl)
            · rw [if_neg hc] at h
              rw [zcase_neg hc]
              by_cases hc : p0 = 6
              · rw [if_pos hc] at h
                rw [zcase_pos hc]
                refine zj_aload_n o (zdd k_W_about 26 rfl) rfl 0 rfl ?_
                obtain ⟨a13, e_a13, h⟩ := zbd h
                refine zj_gP o (zdd k_W_about 27 rfl) fl_W_49 rfl e_a13 ?_
                obtain ⟨x14, e_x14, h⟩ := zbd h
                refine zj_gI o (zdd k_W_about 28 rfl) fl_W_351 rfl e_x14 ?_
                cases h
                exact zr_i o hr (zdd k_W_about 29 rfl)
              · rw [if_neg hc] at h
                rw [zcase_neg hc]
                by_cases hc : p0 = 7
                · rw [if_pos hc] at h
                  rw [zcase_pos hc]
                  refine zj_aload_n o (zdd k_W_about 30 rfl) rfl 0 rfl ?_
                  obtain ⟨a15, e_a15, h⟩ := zbd h
                  refine zj_gP o (zdd k_W_about 31 rfl) fl_W_49 rfl e_a15 ?_
                  obtain ⟨x16, e_x16, h⟩ := zbd h
                  refine zj_gI o (zdd k_W_about 32 rfl) fl_W_354 rfl e_x16 ?_
                  cases h
                  exact zr_i o hr (zdd k_W_about 33 rfl)
                · rw [if_neg hc] at h
                  rw [zcase_neg hc]
                  by_cases hc : p0 = 8
                  · rw [if_pos hc] at h
                    rw [zcase_pos hc]
                    refine zj_aload_n o (zdd k_W_about 34 rfl) rfl 0 rfl ?_
                    obtain ⟨a17, e_a17, h⟩ := zbd h
                    refine zj_gP o (zdd k_W_about 35 rfl) fl_W_87 rfl e_a17 ?_
                    obtain ⟨x18, e_x18, h⟩ := zbd h
                    refine zj_gI o (zdd k_W_about 36 rfl) fl_W_357 rfl e_x18 ?_
                    cases h
                    exact zr_i o hr (zdd k_W_about 37 rfl)
                  · rw [if_neg hc] at h
                    rw [zcase_neg hc]
                    by_cases hc : p0 = 9
                    · rw [if_pos hc] at h
                      rw [zcase_pos hc]
                      refine zj_aload_n o (zdd k_W_about 38 rfl) rfl 0 rfl ?_
                      obtain ⟨x19, e_x19, h⟩ := zbd h
                      refine zj_gI o (zdd k_W_about 39 rfl) fl_W_121 rfl e_x19 ?_
                      cases h
                      exact zr_i o hr (zdd k_W_about 40 rfl)
                    · rw [if_neg hc] at h
                      rw [zcase_neg hc]
                      by_cases hc : p0 = 10
                      · rw [if_pos hc] at h
                        rw [zcase_pos hc]
                        refine zj_aload_n o (zdd k_W_about 41 rfl) rfl 0 rfl ?_
                        obtain ⟨a20, e_a20, h⟩ := zbd h
                        refine zj_gP o (zdd k_W_about 42 rfl) fl_W_87 rfl e_a20 ?_
                        obtain ⟨x21, e_x21, h⟩ := zbd h
                        refine zj_gI o (zdd k_W_about 43 rfl) fl_W_327 rfl e_x21 ?_
                        cases h
                        exact zr_i o hr (zdd k_W_about 44 rfl)
                      · rw [if_neg hc] at h
                        rw [zcase_neg hc]
                        by_cases hc : p0 = 11
                        · rw [if_pos hc] at h
                          rw [zcase_pos hc]
                          refine zj_aload_n o (zdd k_W_about 45 rfl) rfl 0 rfl ?_
                          obtain ⟨x22, e_x22, h⟩ := zbd h
                          refine zj_gI o (zdd k_W_about 46 rfl) fl_W_101 rfl e_x22 ?_
                          cases h
                          exact zr_i o hr (zdd k_W_about 47 rfl)
                        · rw [if_neg hc] at h
                          rw [zcase_neg hc]
                          by_cases hc : p0 = 12
                          · rw [if_pos hc] at h
                            rw [zcase_pos hc]
                            refine zj_aload_n o (zdd k_W_about 48 rfl) rfl 0 rfl ?_
                            obtain ⟨a23, e_a23, h⟩ := zbd h
                            refine zj_gP o (zdd k_W_about 49 rfl) fl_W_16 rfl e_a23 ?_
                            obtain ⟨x24, e_x24, h⟩ := zbd h
                            refine zj_gI o (zdd k_W_about 50 rfl) fl_W_360 rfl e_x24 ?_
                            cases h
                            exact zr_i o hr (zdd k_W_about 51 rfl)
                          · rw [if_neg hc] at h
                            rw [zcase_neg hc]
                            by_cases hc : p0 = 13
                            · rw [if_pos hc] at h
                              rw [zcase_pos hc]
                              refine zj_aload_n o (zdd k_W_about 52 rfl) rfl 0 rfl ?_
                              obtain ⟨x25, e_x25, h⟩ := zbd h
                              refine zj_gI o (zdd k_W_about 53 rfl) fl_W_124 rfl e_x25 ?_
                              cases h
                              exact zr_i o hr (zdd k_W_about 54 rfl)
                            · rw [if_neg hc] at h
                              rw [zcase_neg hc]
                              by_cases hc : p0 = 14
                              · rw [if_pos hc] at h
                                rw [zcase_pos hc]
                                refine zj_aload_n o (zdd k_W_about 55 rfl) rfl 0 rfl ?_
                                obtain ⟨a26, e_a26, h⟩ := zbd h
                                refine zj_gP o (zdd k_W_about 56 rfl) fl_W_16 rfl e_a26 ?_
                                obtain ⟨x27, e_x27, h⟩ := zbd h
                                refine zj_gI o (zdd k_W_about 57 rfl) fl_W_363 rfl e_x27 ?_
                                cases h
                                exact zr_i o hr (zdd k_W_about 58 rfl)
                              · rw [if_neg hc] at h
                                rw [zcase_neg hc]
                                change zPJ X 0 0 187 _ _ _
                                refine zj_iconst o (zdd k_W_about 59 rfl) zki_m1 ?_
                                cases h
                                exact zr_i o hr (zdd k_W_about 60 rfl)
