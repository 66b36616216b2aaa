def f_M_init (σ : zSt) (t : Nat) : Option (zSt) :=
zg σ 12 t (
(some (znew σ (1, 1600))).bind fun (σ1 : zSt) =>
(some σ.1.length).bind fun (a2 : Nat) =>
(zsP σ1 12 t 0 a2).bind fun σ3 =>
(zsI σ3 12 t 3 (-1)).bind fun σ4 =>
(some (znew σ4 (4, 20))).bind fun (σ5 : zSt) =>
(some σ4.1.length).bind fun (a6 : Nat) =>
(zsP σ5 12 t 10 a6).bind fun σ7 =>
(some (znew σ7 (1, 640))).bind fun (σ8 : zSt) =>
(some σ7.1.length).bind fun (a9 : Nat) =>
(zsP σ8 12 t 11 a9).bind fun σ10 =>
(some (znew σ10 (1, 640))).bind fun (σ11 : zSt) =>
(some σ10.1.length).bind fun (a12 : Nat) =>
(zsP σ11 12 t 12 a12).bind fun σ13 =>
(some (znew σ13 (1, 2))).bind fun (σ14 : zSt) =>
(some σ13.1.length).bind fun (a15 : Nat) =>
(zsP σ14 12 t 13 a15).bind fun σ16 =>
(some (znew σ16 (1, 640))).bind fun (σ17 : zSt) =>
(some σ16.1.length).bind fun (a18 : Nat) =>
(zsP σ17 12 t 14 a18).bind fun σ19 =>
(some (znew σ19 (1, 640))).bind fun (σ20 : zSt) =>
(some σ19.1.length).bind fun (a21 : Nat) =>
(zsP σ20 12 t 15 a21).bind fun σ22 =>
(some (znew σ22 (1, 2))).bind fun (σ23 : zSt) =>
(some σ22.1.length).bind fun (a24 : Nat) =>
(zsP σ23 12 t 16 a24).bind fun σ25 =>
(some (znew σ25 (1, 160))).bind fun (σ26 : zSt) =>
(some σ25.1.length).bind fun (a27 : Nat) =>
(zsP σ26 12 t 17 a27).bind fun σ28 =>
(some (znew σ28 (1, 64))).bind fun (σ29 : zSt) =>
(some σ28.1.length).bind fun (a30 : Nat) =>
(zsP σ29 12 t 18 a30).bind fun σ31 =>
(some (znew σ31 (1, 6))).bind fun (σ32 : zSt) =>
(some σ31.1.length).bind fun (a33 : Nat) =>
(zsP σ32 12 t 25 a33).bind fun σ34 =>
(some (znew σ34 (1, 40))).bind fun (σ35 : zSt) =>
(some σ34.1.length).bind fun (a36 : Nat) =>
(zsP σ35 12 t 26 a36).bind fun σ37 =>
(some (znew σ37 (1, 24))).bind fun (σ38 : zSt) =>
(some σ37.1.length).bind fun (a39 : Nat) =>
(zsP σ38 12 t 27 a39).bind fun σ40 =>
(some (znew σ40 (1, 24))).bind fun (σ41 : zSt) =>
(some σ40.1.length).bind fun (a42 : Nat) =>
(zsP σ41 12 t 28 a42).bind fun σ43 =>
(some (znew σ43 (1, 6))).bind fun (σ44 : zSt) =>
(some σ43.1.length).bind fun (a45 : Nat) =>
(zsP σ44 12 t 29 a45).bind fun σ46 =>
(some (znew σ46 (1, 40))).bind fun (σ47 : zSt) =>
(some σ46.1.length).bind fun (a48 : Nat) =>
(zsP σ47 12 t 30 a48).bind fun σ49 =>
(some (znew σ49 (1, 24))).bind fun (σ50 : zSt) =>
(some σ49.1.length).bind fun (a51 : Nat) =>
(zsP σ50 12 t 31 a51).bind fun σ52 =>
(some (znew σ52 (1, 24))).bind fun (σ53 : zSt) =>
(some σ52.1.length).bind fun (a54 : Nat) =>
(zsP σ53 12 t 32 a54).bind fun σ55 =>
(some (znew σ55 (1, 6))).bind fun (σ56 : zSt) =>
(some σ55.1.length).bind fun (a57 : Nat) =>
(zsP σ56 12 t 33 a57).bind fun σ58 =>
(zsI σ58 12 t 45 5).bind fun σ59 =>
(zsI σ59 12 t 46 3).bind fun σ60 =>
(some (znew σ60 (1, 96))).bind fun (σ61 : zSt) =>
(some σ60.1.length).bind fun (a62 : Nat) =>
(zsP σ61 12 t 49 a62).bind fun σ63 =>
(some (znew σ63 (1, 4))).bind fun (σ64 : zSt) =>
(some σ63.1.length).bind fun (a65 : Nat) =>
(zsP σ64 12 t 50 a65).bind fun σ66 =>
(some (znew σ66 (1, 60))).bind fun (σ67 : zSt) =>
(some σ66.1.length).bind fun (a68 : Nat) =>
(zsP σ67 12 t 51 a68).bind fun σ69 =>
(some (znew σ69 (1, 10))).bind fun (σ70 : zSt) =>
(some σ69.1.length).bind fun (a71 : Nat) =>
(zsP σ70 12 t 52 a71).bind fun σ72 =>
(some (znew σ72 (1, 10))).bind fun (σ73 : zSt) =>
(some σ72.1.length).bind fun (a74 : Nat) =>
(zsP σ73 12 t 53 a74).bind fun σ75 =>
(some (znew σ75 (1, 3840))).bind fun (σ76 : zSt) =>
(some σ75.1.length).bind fun (a77 : Nat) =>
(zsP σ76 12 t 55 a77).bind fun σ78 =>
(some (znew σ78 (1, 16))).bind fun (σ79 : zSt) =>
(some σ78.1.length).bind fun (a80 : Nat) =>
(zsP σ79 12 t 58 a80).bind fun σ81 =>
(some (znew σ81 (1, 1024))).bind fun (σ82 : zSt) =>
(some σ81.1.length).bind fun (a83 : Nat) =>
(zsP σ82 12 t 60 a83).bind fun σ84 =>
(some (znew σ84 (1, 1024))).bind fun (σ85 : zSt) =>
(some σ84.1.length).bind fun (a86 : Nat) =>
(zsP σ85 12 t 61 a86).bind fun σ87 =>
(some (znew σ87 (1, 1024))).bind fun (σ88 : zSt) =>
(some σ87.1.length).bind fun (a89 : Nat) =>
(zsP σ88 12 t 62 a89).bind fun σ90 =>
(some (znew σ90 (1, 96))).bind fun (σ91 : zSt) =>
(some σ90.1.length).bind fun (a92 : Nat) =>
(zsP σ91 12 t 63 a92).bind fun σ93 =>
(some (znew σ93 (4, 625))).bind fun (σ94 : zSt) =>
(some σ93.1.length).bind fun (a95 : Nat) =>
(zsP σ94 12 t 64 a95).bind fun σ96 =>
(some (znew σ96 (3, 625))).bind fun (σ97 : zSt) =>
(some σ96.1.length).bind fun (a98 : Nat) =>
(zsP σ97 12 t 65 a98).bind fun σ99 =>
(some (znew σ99 (1, 10))).bind fun (σ100 : zSt) =>
(some σ99.1.length).bind fun (a101 : Nat) =>
(zsP σ100 12 t 70 a101).bind fun σ102 =>
(some (znew σ102 (1, 10))).bind fun (σ103 : zSt) =>
(some σ102.1.length).bind fun (a104 : Nat) =>
(zsP σ103 12 t 72 a104).bind fun σ105 =>
(some (znew σ105 (1, 30))).bind fun (σ106 : zSt) =>
(some σ105.1.length).bind fun (a107 : Nat) =>
(zsP σ106 12 t 73 a107).bind fun σ108 =>
(some (znew σ108 (1, 30))).bind fun (σ109 : zSt) =>
(some σ108.1.length).bind fun (a110 : Nat) =>
(zsP σ109 12 t 74 a110).bind fun σ111 =>
(some (znew σ111 (1, 30))).bind fun (σ112 : zSt) =>
(some σ111.1.length).bind fun (a113 : Nat) =>
(zsP σ112 12 t 75 a113).bind fun σ114 =>
(some (znew σ114 (1, 30))).bind fun (σ115 : zSt) =>
(some σ114.1.length).bind fun (a116 : Nat) =>
(zsP σ115 12 t 76 a116).bind fun σ117 =>
(some (znew σ117 (1, 30))).bind fun (σ118 : zSt) =>
(some σ117.1.length).bind fun (a119 : Nat) =>
(zsP σ118 12 t 77 a119).bind fun σ120 =>
(some (znew σ120 (1, 100))).bind fun (σ121 : zSt) =>
(some σ120.1.length).bind fun (a122 : Nat) =>
(zsP σ121 12 t 80 a122).bind fun σ123 =>
(some (znew σ123 (3, 3))).bind fun (σ124 : zSt) =>
(some σ123.1.length).bind fun (a125 : Nat) =>
(zsP σ124 12 t 81 a125).bind fun σ126 =>
(some (znew σ126 (1, 288))).bind fun (σ127 : zSt) =>
(some σ126.1.length).bind fun (a128 : Nat) =>
(zsP σ127 12 t 82 a128).bind fun σ129 =>
(zgP σ129 12 t 49).bind fun a130 =>
(zwI σ129 1 a130 (24 + 0) (-1)).bind fun σ131 =>
(zgP σ131 12 t 49).bind fun a132 =>
(zwI σ131 1 a132 (24 + 1) (-1)).bind fun σ133 =>
(zgP σ133 12 t 49).bind fun a134 =>
(zwI σ133 1 a134 (24 + 2) (-1)).bind fun σ135 =>
(zgP σ135 12 t 49).bind fun a136 =>
(zwI σ135 1 a136 (24 + 3) (-1)).bind fun σ137 =>
(zgP σ137 12 t 49).bind fun a138 =>
(zwI σ137 1 a138 (24 + 4) (-1)).bind fun σ139 =>
(zgP σ139 12 t 49).bind fun a140 =>
(zwI σ139 1 a140 (24 + 5) (-1)).bind fun σ141 =>
some σ141)
set_option maxRecDepth 100000 in
set_option maxHeartbeats 4000000 in
theorem m_M_init {l : Launch} {b : Nat} {ex : Nat → Value} {D : va_G} {ca : Nat → ClassId} {σ : zSt} {t : Nat} {z : zSt} (h : f_M_init σ t = some z) : zMT l b ex D ca 1 y_M_init c_M_init n_M_init r_ret_M_init [.ref t] σ none z 42 13617 := by
  obtain ⟨_, hg0⟩ := zg_some h
  have h := hg0
  refine zmt_of (by decide) (Nat.le_of_ble_eq_true rfl) rfl (fun X o hin hrm _ _ _ _ _ hr => ?_)
  have hin := hin rfl
  have hr := hr 42 13617 (by decide) (by decide)
  have o : zOK X "WantShelvesModel" c_M_init n_M_init 1 := o
  change zPJ X 0 0 0 [(0, .ref t)] [] σ
  refine zj_aload_n o (zdd k_M_init_0 0 rfl) rfl 0 rfl ?_
  refine zj_objInit o (zdd k_M_init_0 1 rfl) ml_M_1 ob_im ob_code (by decide) (Nat.le_of_ble_eq_true rfl) ?_
  refine zj_aload_n o (zdd k_M_init_0 2 rfl) rfl 0 rfl ?_
  refine zj_sipush o (zdd k_M_init_0 3 rfl) zks_1600 ?_
  obtain ⟨σ1, e_σ1, h⟩ := zbd h
  refine zj_newa_int (N := 1600) (mc := 42) (ms := 13617) o (zdd k_M_init_0 4 rfl) ac_int (by decide) (by decide) (by decide) hrm (by decide) (by decide) ?_
  rw [Option.some.inj e_σ1]
  change zPJ X 1 1600 _ _ _ _
  obtain ⟨a2, e_a2, h⟩ := zbd h
  rw [Option.some.inj e_a2]
  obtain ⟨σ3, e_σ3, h⟩ := zbd h
  refine zj_fP o (zdd k_M_init_0 5 rfl) fl_M_7 (Or.inr ⟨_, rfl⟩) hin rfl rfl e_σ3 ?_
  refine zj_aload_n o (zdd k_M_init_0 6 rfl) rfl 0 rfl ?_
  refine zj_iconst o (zdd k_M_init_0 7 rfl) zki_m1 ?_
  obtain ⟨σ4, e_σ4, h⟩ := zbd h
  refine zj_pI o (zdd k_M_init_0 8 rfl) fl_M_13 rfl rfl e_σ4 ?_
  refine zj_aload_n o (zdd k_M_init_0 9 rfl) rfl 0 rfl ?_
  refine zj_bipush o (zdd k_M_init_0 10 rfl) zkb_20 ?_
  obtain ⟨σ5, e_σ5, h⟩ := zbd h
  refine zj_newa_long (N := 20) (mc := 42) (ms := 13617) o (zdd k_M_init_0 11 rfl) ac_long (by decide) (by decide) (by decide) hrm (by decide) (by decide) ?_
  rw [Option.some.inj e_σ5]
  change zPJ X 2 1620 _ _ _ _
  obtain ⟨a6, e_a6, h⟩ := zbd h
  rw [Option.some.inj e_a6]
  obtain ⟨σ7, e_σ7, h⟩ := zbd h
  refine zj_fP o (zdd k_M_init_0 12 rfl) fl_M_17 (Or.inr ⟨_, rfl⟩) hin rfl rfl e_σ7 ?_
  refine zj_aload_n o (zdd k_M_init_0 13 rfl) rfl 0 rfl ?_
  refine zj_sipush o (zdd k_M_init_0 14 rfl) zks_640 ?_
  obtain ⟨σ8, e_σ8, h⟩ := zbd h
  refine zj_newa_int (N := 640) (mc := 42) (ms := 13617) o (zdd k_M_init_0 15 rfl) ac_int (by decide) (by decide) (by decide) hrm (by decide) (by decide) ?_
  rw [Option.some.inj e_σ8]
  change zPJ X 3 2260 _ _ _ _
  obtain ⟨a9, e_a9, h⟩ := zbd h
  rw [Option.some.inj e_a9]
  obtain ⟨σ10, e_σ10, h⟩ := zbd h
  refine zj_fP o (zdd k_M_init_0 16 rfl) fl_M_21 (Or.inr ⟨_, rfl⟩) hin rfl rfl e_σ10 ?_
  refine zj_aload_n o (zdd k_M_init_0 17 rfl) rfl 0 rfl ?_
  refine zj_sipush o (zdd k_M_init_0 18 rfl) zks_640 ?_
  obtain ⟨σ11, e_σ11, h⟩ := zbd h
  refine zj_newa_int (N := 640) (mc := 42) (ms := 13617) o (zdd k_M_init_0 19 rfl) ac_int (by decide) (by decide) (by decide) hrm (by decide) (by decide) ?_
  rw [Option.some.inj e_σ11]
  change zPJ X 4 2900 _ _ _ _
  obtain ⟨a12, e_a12, h⟩ := zbd h
  rw [Option.some.inj e_a12]
  obtain ⟨σ13, e_σ13, h⟩ := zbd h
  refine zj_fP o (zdd k_M_init_0 20 rfl) fl_M_24 (Or.inr ⟨_, rfl⟩) hin rfl rfl e_σ13 ?_
  refine zj_aload_n o (zdd k_M_init_0 21 rfl) rfl 0 rfl ?_
  refine zj_iconst o (zdd k_M_init_0 22 rfl) zki_2 ?_
  obtain ⟨σ14, e_σ14, h⟩ := zbd h
  refine zj_newa_int (N := 2) (mc := 42) (ms := 13617) o (zdd k_M_init_0 23 rfl) ac_int (by decide) (by decide) (by decide) hrm (by decide) (by decide) ?_
  rw [Option.some.inj e_σ14]
  change zPJ X 5 2902 _ _ _ _
  obtain ⟨a15, e_a15, h⟩ := zbd h
  rw [Option.some.inj e_a15]
  obtain ⟨σ16, e_σ16, h⟩ := zbd h
  refine zj_fP o (zdd k_M_init_0 24 rfl) fl_M_27 (Or.inr ⟨_, rfl⟩) hin rfl rfl e_σ16 ?_
  refine zj_aload_n o (zdd k_M_init_0 25 rfl) rfl 0 rfl ?_
  refine zj_sipush o (zdd k_M_init_0 26 rfl) zks_640 ?_
  obtain ⟨σ17, e_σ17, h⟩ := zbd h
  refine zj_newa_int (N := 640) (mc := 42) (ms := 13617) o (zdd k_M_init_0 27 rfl) ac_int (by decide) (by decide) (by decide) hrm (by decide) (by decide) ?_
  rw [Option.some.inj e_σ17]
  change zPJ X 6 3542 _ _ _ _
  obtain ⟨a18, e_a18, h⟩ := zbd h
  rw [Option.some.inj e_a18]
  obtain ⟨σ19, e_σ19, h⟩ := zbd h
  refine zj_fP o (zdd k_M_init_0 28 rfl) fl_M_30 (Or.inr ⟨_, rfl⟩) hin rfl rfl e_σ19 ?_
  refine zj_aload_n o (zdd k_M_init_0 29 rfl) rfl 0 rfl ?_
  refine zj_sipush o (zdd k_M_init_0 30 rfl) zks_640 ?_
  obtain ⟨σ20, e_σ20, h⟩ := zbd h
  refine zj_newa_int (N := 640) (mc := 42) (ms := 13617) o (zdd k_M_init_0 31 rfl) ac_int (by decide) (by decide) (by decide) hrm (by decide) (by decide) ?_
  rw [Option.some.inj e_σ20]
  change zPJ X 7 4182 _ _ _ _
  obtain ⟨a21, e_a21, h⟩ := zbd h
  rw [Option.some.inj e_a21]
  obtain ⟨σ22, e_σ22, h⟩ := zbd h
  refine zj_fP o (zdd k_M_init_0 32 rfl) fl_M_33 (Or.inr ⟨_, rfl⟩) hin rfl rfl e_σ22 ?_
  refine zj_aload_n o (zdd k_M_init_0 33 rfl) rfl 0 rfl ?_
  refine zj_iconst o (zdd k_M_init_0 34 rfl) zki_2 ?_
  obtain ⟨σ23, e_σ23, h⟩ := zbd h
  refine zj_newa_int (N := 2) (mc := 42) (ms := 13617) o (zdd k_M_init_0 35 rfl) ac_int (by decide) (by decide) (by decide) hrm (by decide) (by decide) ?_
  rw [Option.some.inj e_σ23]
  change zPJ X 8 4184 _ _ _ _
  obtain ⟨a24, e_a24, h⟩ := zbd h
  rw [Option.some.inj e_a24]
  obtain ⟨σ25, e_σ25, h⟩ := zbd h
  refine zj_fP o (zdd k_M_init_0 36 rfl) fl_M_36 (Or.inr ⟨_, rfl⟩) hin rfl rfl e_σ25 ?_
  refine zj_aload_n o (zdd k_M_init_0 37 rfl) rfl 0 rfl ?_
  refine zj_sipush o (zdd k_M_init_0 38 rfl) zks_160 ?_
  obtain ⟨σ26, e_σ26, h⟩ := zbd h
  refine zj_newa_int (N := 160) (mc := 42) (ms := 13617) o (zdd k_M_init_0 39 rfl) ac_int (by decide) (by decide) (by decide) hrm (by decide) (by decide) ?_
  rw [Option.some.inj e_σ26]
  change zPJ X 9 4344 _ _ _ _
  obtain ⟨a27, e_a27, h⟩ := zbd h
  rw [Option.some.inj e_a27]
  obtain ⟨σ28, e_σ28, h⟩ := zbd h
  refine zj_fP o (zdd k_M_init_0 40 rfl) fl_M_39 (Or.inr ⟨_, rfl⟩) hin rfl rfl e_σ28 ?_
  refine zj_aload_n o (zdd k_M_init_0 41 rfl) rfl 0 rfl ?_
  refine zj_bipush o (zdd k_M_init_0 42 rfl) zkb_64 ?_
  obtain ⟨σ29, e_σ29, h⟩ := zbd h
  refine zj_newa_int (N := 64) (mc := 42) (ms := 13617) o (zdd k_M_init_0 43 rfl) ac_int (by decide) (by decide) (by decide) hrm (by decide) (by decide) ?_
  rw [Option.some.inj e_σ29]
  change zPJ X 10 4408 _ _ _ _
  obtain ⟨a30, e_a30, h⟩ := zbd h
  rw [Option.some.inj e_a30]
  obtain ⟨σ31, e_σ31, h⟩ := zbd h
  refine zj_fP o (zdd k_M_init_0 44 rfl) fl_M_42 (Or.inr ⟨_, rfl⟩) hin rfl rfl e_σ31 ?_
  refine zj_aload_n o (zdd k_M_init_0 45 rfl) rfl 0 rfl ?_
  refine zj_bipush o (zdd k_M_init_0 46 rfl) zkb_6 ?_
  obtain ⟨σ32, e_σ32, h⟩ := zbd h
  refine zj_newa_int (N := 6) (mc := 42) (ms := 13617) o (zdd k_M_init_0 47 rfl) ac_int (by decide) (by decide) (by decide) hrm (by decide) (by decide) ?_
  rw [Option.some.inj e_σ32]
  change zPJ X 11 4414 _ _ _ _
  obtain ⟨a33, e_a33, h⟩ := zbd h
  rw [Option.some.inj e_a33]
  obtain ⟨σ34, e_σ34, h⟩ := zbd h
  refine zj_fP o (zdd k_M_init_0 48 rfl) fl_M_45 (Or.inr ⟨_, rfl⟩) hin rfl rfl e_σ34 ?_
  refine zj_aload_n o (zdd k_M_init_0 49 rfl) rfl 0 rfl ?_
  refine zj_bipush o (zdd k_M_init_1 0 rfl) zkb_40 ?_
  obtain ⟨σ35, e_σ35, h⟩ := zbd h
  refine zj_newa_int (N := 40) (mc := 42) (ms := 13617) o (zdd k_M_init_1 1 rfl) ac_int (by decide) (by decide) (by decide) hrm (by decide) (by decide) ?_
  rw [Option.some.inj e_σ35]
  change zPJ X 12 4454 _ _ _ _
  obtain ⟨a36, e_a36, h⟩ := zbd h
  rw [Option.some.inj e_a36]
  obtain ⟨σ37, e_σ37, h⟩ := zbd h
  refine zj_fP o (zdd k_M_init_1 2 rfl) fl_M_48 (Or.inr ⟨_, rfl⟩) hin rfl rfl e_σ37 ?_
  refine zj_aload_n o (zdd k_M_init_1 3 rfl) rfl 0 rfl ?_
  refine zj_bipush o (zdd k_M_init_1 4 rfl) zkb_24 ?_
  obtain ⟨σ38, e_σ38, h⟩ := zbd h
  refine zj_newa_int (N := 24) (mc := 42) (ms := 13617) o (zdd k_M_init_1 5 rfl) ac_int (by decide) (by decide) (by decide) hrm (by decide) (by decide) ?_
  rw [Option.some.inj e_σ38]
  change zPJ X 13 4478 _ _ _ _
  obtain ⟨a39, e_a39, h⟩ := zbd h
  rw [Option.some.inj e_a39]
  obtain ⟨σ40, e_σ40, h⟩ := zbd h
  refine zj_fP o (zdd k_M_init_1 6 rfl) fl_M_51 (Or.inr ⟨_, rfl⟩) hin rfl rfl e_σ40 ?_
  refine zj_aload_n o (zdd k_M_init_1 7 rfl) rfl 0 rfl ?_
  refine zj_bipush o (zdd k_M_init_1 8 rfl) zkb_24 ?_
  obtain ⟨σ41, e_σ41, h⟩ := zbd h
  refine zj_newa_int (N := 24) (mc := 42) (ms := 13617) o (zdd k_M_init_1 9 rfl) ac_int (by decide) (by decide) (by decide) hrm (by decide) (by decide) ?_
  rw [Option.some.inj e_σ41]
  change zPJ X 14 4502 _ _ _ _
  obtain ⟨a42, e_a42, h⟩ := zbd h
  rw [Option.some.inj e_a42]
  obtain ⟨σ43, e_σ43, h⟩ := zbd h
  refine zj_fP o (zdd k_M_init_1 10 rfl) fl_M_54 (Or.inr ⟨_, rfl⟩) hin rfl rfl e_σ43 ?_
  refine zj_aload_n o (zdd k_M_init_1 11 rfl) rfl 0 rfl ?_
  refine zj_bipush o (zdd k_M_init_1 12 rfl) zkb_6 ?_
  obtain ⟨σ44, e_σ44, h⟩ := zbd h
  refine zj_newa_int (N := 6) (mc := 42) (ms := 13617) o (zdd k_M_init_1 13 rfl) ac_int (by decide) (by decide) (by decide) hrm (by decide) (by decide) ?_
  rw [Option.some.inj e_σ44]
  change zPJ X 15 4508 _ _ _ _
  obtain ⟨a45, e_a45, h⟩ := zbd h
  rw [Option.some.inj e_a45]
  obtain ⟨σ46, e_σ46, h⟩ := zbd h
  refine zj_fP o (zdd k_M_init_1 14 rfl) fl_M_57 (Or.inr ⟨_, rfl⟩) hin rfl rfl e_σ46 ?_
  refine zj_aload_n o (zdd k_M_init_1 15 rfl) rfl 0 rfl ?_
  refine zj_bipush o (zdd k_M_init_1 16 rfl) zkb_40 ?_
  obtain ⟨σ47, e_σ47, h⟩ := zbd h
  refine zj_newa_int (N := 40) (mc := 42) (ms := 13617) o (zdd k_M_init_1 17 rfl) ac_int (by decide) (by decide) (by decide) hrm (by decide) (by decide) ?_
  rw [Option.some.inj e_σ47]
  change zPJ X 16 4548 _ _ _ _
  obtain ⟨a48, e_a48, h⟩ := zbd h
  rw [Option.some.inj e_a48]
  obtain ⟨σ49, e_σ49, h⟩ := zbd h
  refine zj_fP o (zdd k_M_init_1 18 rfl) fl_M_60 (Or.inr ⟨_, rfl⟩) hin rfl rfl e_σ49 ?_
  refine zj_aload_n o (zdd k_M_init_1 19 rfl) rfl 0 rfl ?_
  refine zj_bipush o (zdd k_M_init_1 20 rfl) zkb_24 ?_
  obtain ⟨σ50, e_σ50, h⟩ := zbd h
  refine zj_newa_int (N := 24) (mc := 42) (ms := 13617) o (zdd k_M_init_1 21 rfl) ac_int (by decide) (by decide) (by decide) hrm (by decide) (by decide) ?_
  rw [Option.some.inj e_σ50]
  change zPJ X 17 4572 _ _ _ _
  obtain ⟨a51, e_a51, h⟩ := zbd h
  rw [Option.some.inj e_a51]
  obtain ⟨σ52, e_σ52, h⟩ := zbd h
  refine zj_fP o (zdd k_M_init_1 22 rfl) fl_M_63 (Or.inr ⟨_, rfl⟩) hin rfl rfl e_σ52 ?_
  refine zj_aload_n o (zdd k_M_init_1 23 rfl) rfl 0 rfl ?_
  refine zj_bipush o (zdd k_M_init_1 24 rfl) zkb_24 ?_
  obtain ⟨σ53, e_σ53, h⟩ := zbd h
  refine zj_newa_int (N := 24) (mc := 42) (ms := 13617) o (zdd k_M_init_1 25 rfl) ac_int (by decide) (by decide) (by decide) hrm (by decide) (by decide) ?_
  rw [Option.some.inj e_σ53]
  change zPJ X 18 4596 _ _ _ _
  obtain ⟨a54, e_a54, h⟩ := zbd h
  rw [Option.some.inj e_a54]
  obtain ⟨σ55, e_σ55, h⟩ := zbd h
  refine zj_fP o (zdd k_M_init_1 26 rfl) fl_M_66 (Or.inr ⟨_, rfl⟩) hin rfl rfl e_σ55 ?_
  refine zj_aload_n o (zdd k_M_init_1 27 rfl) rfl 0 rfl ?_
  refine zj_bipush o (zdd k_M_init_1 28 rfl) zkb_6 ?_
  obtain ⟨σ56, e_σ56, h⟩ := zbd h
  refine zj_newa_int (N := 6) (mc := 42) (ms := 13617) o (zdd k_M_init_1 29 rfl) ac_int (by decide) (by decide) (by decide) hrm (by decide) (by decide) ?_
  rw [Option.some.inj e_σ56]
  change zPJ X 19 4602 _ _ _ _
  obtain ⟨a57, e_a57, h⟩ := zbd h
  rw [Option.some.inj e_a57]
  obtain ⟨σ58, e_σ58, h⟩ := zbd h
  refine zj_fP o (zdd k_M_init_1 30 rfl) fl_M_69 (Or.inr ⟨_, rfl⟩) hin rfl rfl e_σ58 ?_
  refine zj_aload_n o (zdd k_M_init_1 31 rfl) rfl 0 rfl ?_
  refine zj_iconst o (zdd k_M_init_1 32 rfl) zki_5 ?_
  obtain ⟨σ59, e_σ59, h⟩ := zbd h
  refine zj_pI o (zdd k_M_init_1 33 rfl) fl_M_72 rfl rfl e_σ59 ?_
  refine zj_aload_n o (zdd k_M_init_1 34 rfl) rfl 0 rfl ?_
  refine zj_iconst o (zdd k_M_init_1 35 rfl) zki_3 ?_
  obtain ⟨σ60, e_σ60, h⟩ := zbd h
  refine zj_pI o (zdd k_M_init_1 36 rfl) fl_M_75 rfl rfl e_σ60 ?_
  refine zj_aload_n o (zdd k_M_init_1 37 rfl) rfl 0 rfl ?_
  refine zj_bipush o (zdd k_M_init_1 38 rfl) zkb_96 ?_
  obtain ⟨σ61, e_σ61, h⟩ := zbd h
  refine zj_newa_int (N := 96) (mc := 42) (ms := 13617) o (zdd k_M_init_1 39 rfl) ac_int (by decide) (by decide) (by decide) hrm (by decide) (by decide) ?_
  rw [Option.some.inj e_σ61]
  change zPJ X 20 4698 _ _ _ _
  obtain ⟨a62, e_a62, h⟩ := zbd h
  rw [Option.some.inj e_a62]
  obtain ⟨σ63, e_σ63, h⟩ := zbd h
  refine zj_fP o (zdd k_M_init_1 40 rfl) fl_M_78 (Or.inr ⟨_, rfl⟩) hin rfl rfl e_σ63 ?_
  refine zj_aload_n o (zdd k_M_init_1 41 rfl) rfl 0 rfl ?_
  refine zj_iconst o (zdd k_M_init_1 42 rfl) zki_4 ?_
  obtain ⟨σ64, e_σ64, h⟩ := zbd h
  refine zj_newa_int (N := 4) (mc := 42) (ms := 13617) o (zdd k_M_init_1 43 rfl) ac_int (by decide) (by decide) (by decide) hrm (by decide) (by decide) ?_
  rw [Option.some.inj e_σ64]
  change zPJ X 21 4702 _ _ _ _
  obtain ⟨a65, e_a65, h⟩ := zbd h
  rw [Option.some.inj e_a65]
  obtain ⟨σ66, e_σ66, h⟩ := zbd h
  refine zj_fP o (zdd k_M_init_1 44 rfl) fl_M_81 (Or.inr ⟨_, rfl⟩) hin rfl rfl e_σ66 ?_
  refine zj_aload_n o (zdd k_M_init_1 45 rfl) rfl 0 rfl ?_
  refine zj_bipush o (zdd k_M_init_1 46 rfl) zkb_60 ?_
  obtain ⟨σ67, e_σ67, h⟩ := zbd h
  refine zj_newa_int (N := 60) (mc := 42) (ms := 13617) o (zdd k_M_init_1 47 rfl) ac_int (by decide) (by decide) (by decide) hrm (by decide) (by decide) ?_
  rw [Option.some.inj e_σ67]
  change zPJ X 22 4762 _ _ _ _
  obtain ⟨a68, e_a68, h⟩ := zbd h
  rw [Option.some.inj e_a68]
  obtain ⟨σ69, e_σ69, h⟩ := zbd h
  refine zj_fP o (zdd k_M_init_1 48 rfl) fl_M_84 (Or.inr ⟨_, rfl⟩) hin rfl rfl e_σ69 ?_
  refine zj_aload_n o (zdd k_M_init_1 49 rfl) rfl 0 rfl ?_
  refine zj_bipush o (zdd k_M_init_2 0 rfl) zkb_10 ?_
  obtain ⟨σ70, e_σ70, h⟩ := zbd h
  refine zj_newa_int (N := 10) (mc := 42) (ms := 13617) o (zdd k_M_init_2 1 rfl) ac_int (by decide) (by decide) (by decide) hrm (by decide) (by decide) ?_
  rw [Option.some.inj e_σ70]
  change zPJ X 23 4772 _ _ _ _
  obtain ⟨a71, e_a71, h⟩ := zbd h
  rw [Option.some.inj e_a71]
  obtain ⟨σ72, e_σ72, h⟩ := zbd h
  refine zj_fP o (zdd k_M_init_2 2 rfl) fl_M_87 (Or.inr ⟨_, rfl⟩) hin rfl rfl e_σ72 ?_
  refine zj_aload_n o (zdd k_M_init_2 3 rfl) rfl 0 rfl ?_
  refine zj_bipush o (zdd k_M_init_2 4 rfl) zkb_10 ?_
  obtain ⟨σ73, e_σ73, h⟩ := zbd h
  refine zj_newa_int (N := 10) (mc := 42) (ms := 13617) o (zdd k_M_init_2 5 rfl) ac_int (by decide) (by decide) (by decide) hrm (by decide) (by decide) ?_
  rw [Option.some.inj e_σ73]
  change zPJ X 24 4782 _ _ _ _
  obtain ⟨a74, e_a74, h⟩ := zbd h
  rw [Option.some.inj e_a74]
  obtain ⟨σ75, e_σ75, h⟩ := zbd h
  refine zj_fP o (zdd k_M_init_2 6 rfl) fl_M_90 (Or.inr ⟨_, rfl⟩) hin rfl rfl e_σ75 ?_
  refine zj_aload_n o (zdd k_M_init_2 7 rfl) rfl 0 rfl ?_
  refine zj_sipush o (zdd k_M_init_2 8 rfl) zks_3840 ?_
  obtain ⟨σ76, e_σ76, h⟩ := zbd h
  refine zj_newa_int (N := 3840) (mc := 42) (ms := 13617) o (zdd k_M_init_2 9 rfl) ac_int (by decide) (by decide) (by decide) hrm (by decide) (by decide) ?_
  rw [Option.some.inj e_σ76]
  change zPJ X 25 8622 _ _ _ _
  obtain ⟨a77, e_a77, h⟩ := zbd h
  rw [Option.some.inj e_a77]
  obtain ⟨σ78, e_σ78, h⟩ := zbd h
  refine zj_fP o (zdd k_M_init_2 10 rfl) fl_M_93 (Or.inr ⟨_, rfl⟩) hin rfl rfl e_σ78 ?_
  refine zj_aload_n o (zdd k_M_init_2 11 rfl) rfl 0 rfl ?_
  refine zj_bipush o (zdd k_M_init_2 12 rfl) zkb_16 ?_
  obtain ⟨σ79, e_σ79, h⟩ := zbd h
  refine zj_newa_int (N := 16) (mc := 42) (ms := 13617) o (zdd k_M_init_2 13 rfl) ac_int (by decide) (by decide) (by decide) hrm (by decide) (by decide) ?_
  rw [Option.some.inj e_σ79]
  change zPJ X 26 8638 _ _ _ _
  obtain ⟨a80, e_a80, h⟩ := zbd h
  rw [Option.some.inj e_a80]
  obtain ⟨σ81, e_σ81, h⟩ := zbd h
  refine zj_fP o (zdd k_M_init_2 14 rfl) fl_M_96 (Or.inr ⟨_, rfl⟩) hin rfl rfl e_σ81 ?_
  refine zj_aload_n o (zdd k_M_init_2 15 rfl) rfl 0 rfl ?_
  refine zj_sipush o (zdd k_M_init_2 16 rfl) zks_1024 ?_
  obtain ⟨σ82, e_σ82, h⟩ := zbd h
  refine zj_newa_int (N := 1024) (mc := 42) (ms := 13617) o (zdd k_M_init_2 17 rfl) ac_int (by decide) (by decide) (by decide) hrm (by decide) (by decide) ?_
  rw [Option.some.inj e_σ82]
  change zPJ X 27 9662 _ _ _ _
  obtain ⟨a83, e_a83, h⟩ := zbd h
  rw [Option.some.inj e_a83]
  obtain ⟨σ84, e_σ84, h⟩ := zbd h
  refine zj_fP o (zdd k_M_init_2 18 rfl) fl_M_99 (Or.inr ⟨_, rfl⟩) hin rfl rfl e_σ84 ?_
  refine zj_aload_n o (zdd k_M_init_2 19 rfl) rfl 0 rfl ?_
  refine zj_sipush o (zdd k_M_init_2 20 rfl) zks_1024 ?_
  obtain ⟨σ85, e_σ85, h⟩ := zbd h
  refine zj_newa_int (N := 1024) (mc := 42) (ms := 13617) o (zdd k_M_init_2 21 rfl) ac_int (by decide) (by decide) (by decide) hrm (by decide) (by decide) ?_
  rw [Option.some.inj e_σ85]
  change zPJ X 28 10686 _ _ _ _
  obtain ⟨a86, e_a86, h⟩ := zbd h
  rw [Option.some.inj e_a86]
  obtain ⟨σ87, e_σ87, h⟩ := zbd h
  refine zj_fP o (zdd k_M_init_2 22 rfl) fl_M_102 (Or.inr ⟨_, rfl⟩) hin rfl rfl e_σ87 ?_
  refine zj_aload_n o (zdd k_M_init_2 23 rfl) rfl 0 rfl ?_
  refine zj_sipush o (zdd k_M_init_2 24 rfl) zks_1024 ?_
  obtain ⟨σ88, e_σ88, h⟩ := zbd h
  refine zj_newa_int (N := 1024) (mc := 42) (ms := 13617) o (zdd k_M_init_2 25 rfl) ac_int (by decide) (by decide) (by decide) hrm (by decide) (by decide) ?_
  rw [Option.some.inj e_σ88]
  change zPJ X 29 11710 _ _ _ _
  obtain ⟨a89, e_a89, h⟩ := zbd h
  rw [Option.some.inj e_a89]
  obtain ⟨σ90, e_σ90, h⟩ := zbd h
  refine zj_fP o (zdd k_M_init_2 26 rfl) fl_M_105 (Or.inr ⟨_, rfl⟩) hin rfl rfl e_σ90 ?_
  refine zj_aload_n o (zdd k_M_init_2 27 rfl) rfl 0 rfl ?_
  refine zj_bipush o (zdd k_M_init_2 28 rfl) zkb_96 ?_
  obtain ⟨σ91, e_σ91, h⟩ := zbd h
  refine zj_newa_int (N := 96) (mc := 42) (ms := 13617) o (zdd k_M_init_2 29 rfl) ac_int (by decide) (by decide) (by decide) hrm (by decide) (by decide) ?_
  rw [Option.some.inj e_σ91]
  change zPJ X 30 11806 _ _ _ _
  obtain ⟨a92, e_a92, h⟩ := zbd h
  rw [Option.some.inj e_a92]
  obtain ⟨σ93, e_σ93, h⟩ := zbd h
  refine zj_fP o (zdd k_M_init_2 30 rfl) fl_M_108 (Or.inr ⟨_, rfl⟩) hin rfl rfl e_σ93 ?_
  refine zj_aload_n o (zdd k_M_init_2 31 rfl) rfl 0 rfl ?_
  refine zj_sipush o (zdd k_M_init_2 32 rfl) zks_625 ?_
  obtain ⟨σ94, e_σ94, h⟩ := zbd h
  refine zj_newa_long (N := 625) (mc := 42) (ms := 13617) o (zdd k_M_init_2 33 rfl) ac_long (by decide) (by decide) (by decide) hrm (by decide) (by decide) ?_
  rw [Option.some.inj e_σ94]
  change zPJ X 31 12431 _ _ _ _
  obtain ⟨a95, e_a95, h⟩ := zbd h
  rw [Option.some.inj e_a95]
  obtain ⟨σ96, e_σ96, h⟩ := zbd h
  refine zj_fP o (zdd k_M_init_2 34 rfl) fl_M_111 (Or.inr ⟨_, rfl⟩) hin rfl rfl e_σ96 ?_
  refine zj_aload_n o (zdd k_M_init_2 35 rfl) rfl 0 rfl ?_
  refine zj_sipush o (zdd k_M_init_2 36 rfl) zks_625 ?_
  obtain ⟨σ97, e_σ97, h⟩ := zbd h
  refine zj_newa_boolean (N := 625) (mc := 42) (ms := 13617) o (zdd k_M_init_2 37 rfl) ac_boolean (by decide) (by decide) (by decide) hrm (by decide) (by decide) ?_
  rw [Option.some.inj e_σ97]
  change zPJ X 32 13056 _ _ _ _
  obtain ⟨a98, e_a98, h⟩ := zbd h
  rw [Option.some.inj e_a98]
  obtain ⟨σ99, e_σ99, h⟩ := zbd h
  refine zj_fP o (zdd k_M_init_2 38 rfl) fl_M_114 (Or.inr ⟨_, rfl⟩) hin rfl rfl e_σ99 ?_
  refine zj_aload_n o (zdd k_M_init_2 39 rfl) rfl 0 rfl ?_
  refine zj_bipush o (zdd k_M_init_2 40 rfl) zkb_10 ?_
  obtain ⟨σ100, e_σ100, h⟩ := zbd h
  refine zj_newa_int (N := 10) (mc := 42) (ms := 13617) o (zdd k_M_init_2 41 rfl) ac_int (by decide) (by decide) (by decide) hrm (by decide) (by decide) ?_
  rw [Option.some.inj e_σ100]
  change zPJ X 33 13066 _ _ _ _
  obtain ⟨a101, e_a101, h⟩ := zbd h
  rw [Option.some.inj e_a101]
  obtain ⟨σ102, e_σ102, h⟩ := zbd h
  refine zj_fP o (zdd k_M_init_2 42 rfl) fl_M_118 (Or.inr ⟨_, rfl⟩) hin rfl rfl e_σ102 ?_
  refine zj_aload_n o (zdd k_M_init_2 43 rfl) rfl 0 rfl ?_
  refine zj_bipush o (zdd k_M_init_2 44 rfl) zkb_10 ?_
  obtain ⟨σ103, e_σ103, h⟩ := zbd h
  refine zj_newa_int (N := 10) (mc := 42) (ms := 13617) o (zdd k_M_init_2 45 rfl) ac_int (by decide) (by decide) (by decide) hrm (by decide) (by decide) ?_
  rw [Option.some.inj e_σ103]
  change zPJ X 34 13076 _ _ _ _
  obtain ⟨a104, e_a104, h⟩ := zbd h
  rw [Option.some.inj e_a104]
  obtain ⟨σ105, e_σ105, h⟩ := zbd h
  refine zj_fP o (zdd k_M_init_2 46 rfl) fl_M_121 (Or.inr ⟨_, rfl⟩) hin rfl rfl e_σ105 ?_
  refine zj_aload_n o (zdd k_M_init_2 47 rfl) rfl 0 rfl ?_
  refine zj_bipush o (zdd k_M_init_2 48 rfl) zkb_30 ?_
  obtain ⟨σ106, e_σ106, h⟩ := zbd h
  refine zj_newa_int (N := 30) (mc := 42) (ms := 13617) o (zdd k_M_init_2 49 rfl) ac_int (by decide) (by decide) (by decide) hrm (by decide) (by decide) ?_
  rw [Option.some.inj e_σ106]
  change zPJ X 35 13106 _ _ _ _
  obtain ⟨a107, e_a107, h⟩ := zbd h
  rw [Option.some.inj e_a107]
  obtain ⟨σ108, e_σ108, h⟩ := zbd h
  refine zj_fP o (zdd k_M_init_3 0 rfl) fl_M_124 (Or.inr ⟨_, rfl⟩) hin rfl rfl e_σ108 ?_
  refine zj_aload_n o (zdd k_M_init_3 1 rfl) rfl 0 rfl ?_
  refine zj_bipush o (zdd k_M_init_3 2 rfl) zkb_30 ?_
  obtain ⟨σ109, e_σ109, h⟩ := zbd h
  refine zj_newa_int (N := 30) (mc := 42) (ms := 13617) o (zdd k_M_init_3 3 rfl) ac_int (by decide) (by decide) (by decide) hrm (by decide) (by decide) ?_
  rw [Option.some.inj e_σ109]
  change zPJ X 36 13136 _ _ _ _
  obtain ⟨a110, e_a110, h⟩ := zbd h
  rw [Option.some.inj e_a110]
  obtain ⟨σ111, e_σ111, h⟩ := zbd h
  refine zj_fP o (zdd k_M_init_3 4 rfl) fl_M_127 (Or.inr ⟨_, rfl⟩) hin rfl rfl e_σ111 ?_
  refine zj_aload_n o (zdd k_M_init_3 5 rfl) rfl 0 rfl ?_
  refine zj_bipush o (zdd k_M_init_3 6 rfl) zkb_30 ?_
  obtain ⟨σ112, e_σ112, h⟩ := zbd h
  refine zj_newa_int (N := 30) (mc := 42) (ms := 13617) o (zdd k_M_init_3 7 rfl) ac_int (by decide) (by decide) (by decide) hrm (by decide) (by decide) ?_
  rw [Option.some.inj e_σ112]
  change zPJ X 37 13166 _ _ _ _
  obtain ⟨a113, e_a113, h⟩ := zbd h
  rw [Option.some.inj e_a113]
  obtain ⟨σ114, e_σ114, h⟩ := zbd h
  refine zj_fP o (zdd k_M_init_3 8 rfl) fl_M_130 (Or.inr ⟨_, rfl⟩) hin rfl rfl e_σ114 ?_
  refine zj_aload_n o (zdd k_M_init_3 9 rfl) rfl 0 rfl ?_
  refine zj_bipush o (zdd k_M_init_3 10 rfl) zkb_30 ?_
  obtain ⟨σ115, e_σ115, h⟩ := zbd h
  refine zj_newa_int (N := 30) (mc := 42) (ms := 13617) o (zdd k_M_init_3 11 rfl) ac_int (by decide) (by decide) (by decide) hrm (by decide) (by decide) ?_
  rw [Option.some.inj e_σ115]
  change zPJ X 38 13196 _ _ _ _
  obtain ⟨a116, e_a116, h⟩ := zbd h
  rw [Option.some.inj e_a116]
  obtain ⟨σ117, e_σ117, h⟩ := zbd h
  refine zj_fP o (zdd k_M_init_3 12 rfl) fl_M_133 (Or.inr ⟨_, rfl⟩) hin rfl rfl e_σ117 ?_
  refine zj_aload_n o (zdd k_M_init_3 13 rfl) rfl 0 rfl ?_
  refine zj_bipush o (zdd k_M_init_3 14 rfl) zkb_30 ?_
  obtain ⟨σ118, e_σ118, h⟩ := zbd h
  refine zj_newa_int (N := 30) (mc := 42) (ms := 13617) o (zdd k_M_init_3 15 rfl) ac_int (by decide) (by decide) (by decide) hrm (by decide) (by decide) ?_
  rw [Option.some.inj e_σ118]
  change zPJ X 39 13226 _ _ _ _
  obtain ⟨a119, e_a119, h⟩ := zbd h
  rw [Option.some.inj e_a119]
  obtain ⟨σ120, e_σ120, h⟩ := zbd h
  refine zj_fP o (zdd k_M_init_3 16 rfl) fl_M_136 (Or.inr ⟨_, rfl⟩) hin rfl rfl e_σ120 ?_
  refine zj_aload_n o (zdd k_M_init_3 17 rfl) rfl 0 rfl ?_
  refine zj_bipush o (zdd k_M_init_3 18 rfl) zkb_100 ?_
  obtain ⟨σ121, e_σ121, h⟩ := zbd h
  refine zj_newa_int (N := 100) (mc := 42) (ms := 13617) o (zdd k_M_init_3 19 rfl) ac_int (by decide) (by decide) (by decide) hrm (by decide) (by decide) ?_
  rw [Option.some.inj e_σ121]
  change zPJ X 40 13326 _ _ _ _
  obtain ⟨a122, e_a122, h⟩ := zbd h
  rw [Option.some.inj e_a122]
  obtain ⟨σ123, e_σ123, h⟩ := zbd h
  refine zj_fP o (zdd k_M_init_3 20 rfl) fl_M_139 (Or.inr ⟨_, rfl⟩) hin rfl rfl e_σ123 ?_
  refine zj_aload_n o (zdd k_M_init_3 21 rfl) rfl 0 rfl ?_
  refine zj_iconst o (zdd k_M_init_3 22 rfl) zki_3 ?_
  obtain ⟨σ124, e_σ124, h⟩ := zbd h
  refine zj_newa_boolean (N := 3) (mc := 42) (ms := 13617) o (zdd k_M_init_3 23 rfl) ac_boolean (by decide) (by decide) (by decide) hrm (by decide) (by decide) ?_
  rw [Option.some.inj e_σ124]
  change zPJ X 41 13329 _ _ _ _
  obtain ⟨a125, e_a125, h⟩ := zbd h
  rw [Option.some.inj e_a125]
  obtain ⟨σ126, e_σ126, h⟩ := zbd h
  refine zj_fP o (zdd k_M_init_3 24 rfl) fl_M_142 (Or.inr ⟨_, rfl⟩) hin rfl rfl e_σ126 ?_
  refine zj_aload_n o (zdd k_M_init_3 25 rfl) rfl 0 rfl ?_
  refine zj_sipush o (zdd k_M_init_3 26 rfl) zks_288 ?_
  obtain ⟨σ127, e_σ127, h⟩ := zbd h
  refine zj_newa_int (N := 288) (mc := 42) (ms := 13617) o (zdd k_M_init_3 27 rfl) ac_int (by decide) (by decide) (by decide) hrm (by decide) (by decide) ?_
  rw [Option.some.inj e_σ127]
  change zPJ X 42 13617 _ _ _ _
  obtain ⟨a128, e_a128, h⟩ := zbd h
  rw [Option.some.inj e_a128]
  obtain ⟨σ129, e_σ129, h⟩ := zbd h
  refine zj_fP o (zdd k_M_init_3 28 rfl) fl_M_145 (Or.inr ⟨_, rfl⟩) hin rfl rfl e_σ129 ?_
  refine zj_iconst o (zdd k_M_init_3 29 rfl) zki_0 ?_
  refine zj_istore_n (loc' := [(1, .int 0), (0, .ref t)]) o (zdd k_M_init_3 30 rfl) rfl (by decide) rfl ?_
  refine zj_iload_n o (zdd k_M_init_3 31 rfl) rfl 0 rfl ?_
  refine zj_bipush o (zdd k_M_init_3 32 rfl) zkb_6 ?_
  refine zj_icmp_ge (tgt := 388) o (zdd k_M_init_3 33 rfl) (by decide) (fun hc => absurd hc (by decide)) (fun _ => ?_)
  refine zj_aload_n o (zdd k_M_init_3 34 rfl) rfl 1 rfl ?_
  obtain ⟨a130, e_a130, h⟩ := zbd h
  refine zj_gP o (zdd k_M_init_3 35 rfl) fl_M_78 rfl e_a130 ?_
  refine zj_bipush o (zdd k_M_init_3 36 rfl) zkb_24 ?_
  refine zj_iload_n o (zdd k_M_init_3 37 rfl) rfl 0 rfl ?_
  refine zj_iadd o (zdd k_M_init_3 38 rfl) ?_
  refine zj_iconst o (zdd k_M_init_3 39 rfl) zki_m1 ?_
  obtain ⟨σ131, e_σ131, h⟩ := zbd h
  refine zj_iast o (zdd k_M_init_3 40 rfl) e_σ131 ?_
  refine zj_iinc (v := 1) (loc' := [(1, .int 1), (0, .ref t)]) o (zdd k_M_init_3 41 rfl) 0 rfl (by decide) (by decide) rfl ?_
  refine zj_goto (tgt := 366) o (zdd k_M_init_3 42 rfl) (by decide) ?_
  refine zj_iload_n o (zdd k_M_init_3 31 rfl) rfl 0 rfl ?_
  refine zj_bipush o (zdd k_M_init_3 32 rfl) zkb_6 ?_
  refine zj_icmp_ge (tgt := 388) o (zdd k_M_init_3 33 rfl) (by decide) (fun hc => absurd hc (by decide)) (fun _ => ?_)
  refine zj_aload_n o (zdd k_M_init_3 34 rfl) rfl 1 rfl ?_
  obtain ⟨a132, e_a132, h⟩ := zbd h
  refine zj_gP o (zdd k_M_init_3 35 rfl) fl_M_78 rfl e_a132 ?_
  refine zj_bipush o (zdd k_M_init_3 36 rfl) zkb_24 ?_
  refine zj_iload_n o (zdd k_M_init_3 37 rfl) rfl 0 rfl ?_
  refine zj_iadd o (zdd k_M_init_3 38 rfl) ?_
  refine zj_iconst o (zdd k_M_init_3 39 rfl) zki_m1 ?_
  obtain ⟨σ133, e_σ133, h⟩ := zbd h
  refine zj_iast o (zdd k_M_init_3 40 rfl) e_σ133 ?_
  refine zj_iinc (v := 2) (loc' := [(1, .int 2), (0, .ref t)]) o (zdd k_M_init_3 41 rfl) 0 rfl (by decide) (by decide) rfl ?_
  refine zj_goto (tgt := 366) o (zdd k_M_init_3 42 rfl) (by decide) ?_
  refine zj_iload_n o (zdd k_M_init_3 31 rfl) rfl 0 rfl ?_
  refine zj_bipush o (zdd k_M_init_3 32 rfl) zkb_6 ?_
  refine zj_icmp_ge (tgt := 388) o (zdd k_M_init_3 33 rfl) (by decide) (fun hc => absurd hc (by decide)) (fun _ => ?_)
  refine zj_aload_n o (zdd k_M_init_3 34 rfl) rfl 1 rfl ?_
  obtain ⟨a134, e_a134, h⟩ := zbd h
  refine zj_gP o (zdd k_M_init_3 35 rfl) fl_M_78 rfl e_a134 ?_
  refine zj_bipush o (zdd k_M_init_3 36 rfl) zkb_24 ?_
  refine zj_iload_n o (zdd k_M_init_3 37 rfl) rfl 0 rfl ?_
  refine zj_iadd o (zdd k_M_init_3 38 rfl) ?_
  refine zj_iconst o (zdd k_M_init_3 39 rfl) zki_m1 ?_
  obtain ⟨σ135, e_σ135, h⟩ := zbd h
  refine zj_iast o (zdd k_M_init_3 40 rfl) e_σ135 ?_
  refine zj_iinc (v := 3) (loc' := [(1, .int 3), (0, .ref t)]) o (zdd k_M_init_3 41 rfl) 0 rfl (by decide) (by decide) rfl ?_
  refine zj_goto (tgt := 366) o (zdd k_M_init_3 42 rfl) (by decide) ?_
  refine zj_iload_n o (zdd k_M_init_3 31 rfl) rfl 0 rfl ?_
  refine zj_bipush o (zdd k_M_init_3 32 rfl) zkb_6 ?_
  refine zj_icmp_ge (tgt := 388) o (zdd k_M_init_3 33 rfl) (by decide) (fun hc => absurd hc (by decide)) (fun _ => ?_)
  refine zj_aload_n o (zdd k_M_init_3 34 rfl) rfl 1 rfl ?_
  obtain ⟨a136, e_a136, h⟩ := zbd h
  refine zj_gP o (zdd k_M_init_3 35 rfl) fl_M_78 rfl e_a136 ?_
  refine zj_bipush o (zdd k_M_init_3 36 rfl) zkb_24 ?_
  refine zj_iload_n o (zdd k_M_init_3 37 rfl) rfl 0 rfl ?_
  refine zj_iadd o (zdd k_M_init_3 38 rfl) ?_
  refine zj_iconst o (zdd k_M_init_3 39 rfl) zki_m1 ?_
  obtain ⟨σ137, e_σ137, h⟩ := zbd h
  refine zj_iast o (zdd k_M_init_3 40 rfl) e_σ137 ?_
  refine zj_iinc (v := 4) (loc' := [(1, .int 4), (0, .ref t)]) o (zdd k_M_init_3 41 rfl) 0 rfl (by decide) (by decide) rfl ?_
  refine zj_goto (tgt := 366) o (zdd k_M_init_3 42 rfl) (by decide) ?_
  refine zj_iload_n o (zdd k_M_init_3 31 rfl) rfl 0 rfl ?_
  refine zj_bipush o (zdd k_M_init_3 32 rfl) zkb_6 ?_
  refine zj_icmp_ge (tgt := 388) o (zdd k_M_init_3 33 rfl) (by decide) (fun hc => absurd hc (by decide)) (fun _ => ?_)
  refine zj_aload_n o (zdd k_M_init_3 34 rfl) rfl 1 rfl ?_
  obtain ⟨a138, e_a138, h⟩ := zbd h
  refine zj_gP o (zdd k_M_init_3 35 rfl) fl_M_78 rfl e_a138 ?_
  refine zj_bipush o (zdd k_M_init_3 36 rfl) zkb_24 ?_
  refine zj_iload_n o (zdd k_M_init_3 37 rfl) rfl 0 rfl ?_
  refine zj_iadd o (zdd k_M_init_3 38 rfl) ?_
  refine zj_iconst o (zdd k_M_init_3 39 rfl) zki_m1 ?_
  obtain ⟨σ139, e_σ139, h⟩ := zbd h
  refine zj_iast o (zdd k_M_init_3 40 rfl) e_σ139 ?_
  refine zj_iinc (v := 5) (loc' := [(1, .int 5), (0, .ref t)]) o (zdd k_M_init_3 41 rfl) 0 rfl (by decide) (by decide) rfl ?_
  refine zj_goto (tgt := 366) o (zdd k_M_init_3 42 rfl) (by decide) ?_
  refine zj_iload_n o (zdd k_M_init_3 31 rfl) rfl 0 rfl ?_
  refine zj_bipush o (zdd k_M_init_3 32 rfl) zkb_6 ?_
  refine zj_icmp_ge (tgt := 388) o (zdd k_M_init_3 33 rfl) (by decide) (fun hc => absurd hc (by decide)) (fun _ => ?_)
  refine zj_aload_n o (zdd k_M_init_3 34 rfl) rfl 1 rfl ?_
  obtain ⟨a140, e_a140, h⟩ := zbd h
  refine zj_gP o (zdd k_M_init_3 35 rfl) fl_M_78 rfl e_a140 ?_
  refine zj_bipush o (zdd k_M_init_3 36 rfl) zkb_24 ?_
  refine zj_iload_n o (zdd k_M_init_3 37 rfl) rfl 0 rfl ?_
  refine zj_iadd o (zdd k_M_init_3 38 rfl) ?_
  refine zj_iconst o (zdd k_M_init_3 39 rfl) zki_m1 ?_
  obtain ⟨σ141, e_σ141, h⟩ := zbd h
  refine zj_iast o (zdd k_M_init_3 40 rfl) e_σ141 ?_
  refine zj_iinc (v := 6) (loc' := [(1, .int 6), (0, .ref t)]) o (zdd k_M_init_3 41 rfl) 0 rfl (by decide) (by decide) rfl ?_
  refine zj_goto (tgt := 366) o (zdd k_M_init_3 42 rfl) (by decide) ?_
  refine zj_iload_n o (zdd k_M_init_3 31 rfl) rfl 0 rfl ?_
  refine zj_bipush o (zdd k_M_init_3 32 rfl) zkb_6 ?_
  refine zj_icmp_ge (tgt := 388) o (zdd k_M_init_3 33 rfl) (by decide) (fun _ => ?_) (fun hc => absurd hc (by decide))
  cases h
  exact zr_v o hr (zdd k_M_init_3 43 rfl)
def f_M_four_3 (k3 : zSt → Nat → Int32 → Int32 → Option (zSt)) (σ : zSt) (v0 : Nat) (v1 : Int32) (v2 : Int32) : Option (zSt) :=
if v2 < 0 then (
some σ) else
(zgP σ 12 v0 0).bind fun a1 =>
(zgI σ 12 v0 1).bind fun x2 =>
(zwI σ 1 a1 x2 ((v1 >>> (v2 &&& 31)) &&& 255)).bind fun σ3 =>
(zgI σ3 12 v0 1).bind fun x4 =>
(zsI σ3 12 v0 1 (x4 + 1)).bind fun σ5 =>
k3 σ5 v0 v1 (v2 + (-8))
set_option maxRecDepth 100000 in
set_option maxHeartbeats 4000000 in
theorem r_M_four_3 {X : zCX} (o : zOK X "WantShelvesModel" c_M_four n_M_four 1) {k3 : zSt → Nat → Int32 → Int32 → Option (zSt)} (hk3 : ∀ {σ : zSt} {v0 : Nat} {v1 : Int32} {v2 : Int32} {z : zSt}, k3 σ v0 v1 v2 = some z → zRX X 0 0 none z → zPJ X 0 0 3 [(0, .ref v0), (1, .int v1), (2, .int v2)] [] σ) {σ : zSt} {v0 : Nat} {v1 : Int32} {v2 : Int32} {z : zSt} (h : f_M_four_3 k3 σ v0 v1 v2 = some z) (hr : zRX X 0 0 none z) : zPJ X 0 0 3 [(0, .ref v0), (1, .int v1), (2, .int v2)] [] σ := by
  unfold f_M_four_3 at h
  refine zj_iload_n o (zdd k_M_four 2 rfl) rfl 2 rfl ?_
  refine zj_if_lt (tgt := 39) o (zdd k_M_four 3 rfl) (by decide) (fun hc => ?_) (fun hc => ?_)
  · rw [if_pos hc] at h
    cases h
    exact zr_v o hr (zdd k_M_four 22 rfl)
  · rw [if_neg hc] at h
    refine zj_aload_n o (zdd k_M_four 4 rfl) rfl 0 rfl ?_
    obtain ⟨a1, e_a1, h⟩ := zbd h
    refine zj_gP o (zdd k_M_four 5 rfl) fl_M_7 rfl e_a1 ?_
    refine zj_aload_n o (zdd k_M_four 6 rfl) rfl 0 rfl ?_
    obtain ⟨x2, e_x2, h⟩ := zbd h
    refine zj_gI o (zdd k_M_four 7 rfl) fl_M_148 rfl e_x2 ?_
    refine zj_iload_n o (zdd k_M_four 8 rfl) rfl 1 rfl ?_
    refine zj_iload_n o (zdd k_M_four 9 rfl) rfl 2 rfl ?_
    refine zj_ishr o (zdd k_M_four 10 rfl) ?_
    refine zj_sipush o (zdd k_M_four 11 rfl) zks_255 ?_
    refine zj_iand o (zdd k_M_four 12 rfl) ?_
    obtain ⟨σ3, e_σ3, h⟩ := zbd h
    refine zj_iast o (zdd k_M_four 13 rfl) e_σ3 ?_
    refine zj_aload_n o (zdd k_M_four 14 rfl) rfl 0 rfl ?_
    refine zj_dup o (zdd k_M_four 15 rfl) rfl ?_
    obtain ⟨x4, e_x4, h⟩ := zbd h
    refine zj_gI o (zdd k_M_four 16 rfl) fl_M_148 rfl e_x4 ?_
    refine zj_iconst o (zdd k_M_four 17 rfl) zki_1 ?_
    refine zj_iadd o (zdd k_M_four 18 rfl) ?_
    obtain ⟨σ5, e_σ5, h⟩ := zbd h
    refine zj_pI o (zdd k_M_four 19 rfl) fl_M_148 rfl rfl e_σ5 ?_
    refine zj_iinc (v := v2 + (-8)) (loc' := [(2, .int (v2 + (-8))), (0, .ref v0), (1, .int v1)]) o (zdd k_M_four 20 rfl) 2 rfl (by rw [zki_m8]) (by decide) rfl ?_
    refine zj_goto (tgt := 3) o (zdd k_M_four 21 rfl) (by decide) ?_
    exact zj_sub [1, 2, 0] rfl (hk3 h hr)
def f_M_four_3L : Nat → zSt → Nat → Int32 → Int32 → Option (zSt)
  | 0 => fun _ _ _ _ => none
  | n + 1 => f_M_four_3  (f_M_four_3L  n)
theorem r_M_four_3L {X : zCX} (o : zOK X "WantShelvesModel" c_M_four n_M_four 1) : ∀ (n : Nat) {σ : zSt} {v0 : Nat} {v1 : Int32} {v2 : Int32} {z : zSt}, f_M_four_3L n σ v0 v1 v2 = some z → zRX X 0 0 none z → zPJ X 0 0 3 [(0, .ref v0), (1, .int v1), (2, .int v2)] [] σ
  | 0 => fun h _ => by cases h
  | n + 1 => fun h hr => r_M_four_3 o (r_M_four_3L o  n) h hr
def f_M_four (σ : zSt) (t : Nat) (p0 : Int32) : Option (zSt) :=
zg σ 12 t (
f_M_four_3L zfu σ t p0 24)
set_option maxRecDepth 100000 in
set_option maxHeartbeats 4000000 in
theorem m_M_four {l : Launch} {b : Nat} {ex : Nat → Value} {D : va_G} {ca : Nat → ClassId} {σ : zSt} {t : Nat} {p0 : Int32} {z : zSt} (h : f_M_four σ t p0 = some z) : zMT l b ex D ca 1 y_M_four c_M_four n_M_four r_ret_M_four [.ref t, .int p0] σ none z 0 0 := by
  obtain ⟨_, hg0⟩ := zg_some h
  have h := hg0
  refine zmt_of (by decide) (Nat.le_of_ble_eq_true rfl) rfl (fun X o hin hrm _ _ _ _ _ hr => ?_)
  have hr := hr 0 0 (by decide) (by decide)
  have o : zOK X "WantShelvesModel" c_M_four n_M_four 1 := o
  change zPJ X 0 0 0 [(0, .ref t), (1, .int p0)] [] σ
  refine zj_bipush o (zdd k_M_four 0 rfl) zkb_24 ?_
  refine zj_istore_n (loc' := [(2, .int 24), (0, .ref t), (1, .int p0)]) o (zdd k_M_four 1 rfl) rfl (by decide) rfl ?_
  exact zj_sub [1, 2, 0] rfl (r_M_four_3L o  zfu h hr)
def f_M_feed (σ : zSt) (t : Nat) (p0 : Int32) (p1 : Int32) (p2 : Int32) (p3 : Int32) (p4 : Int32) : Option (Int32 × zSt) :=
zg σ 12 t (
(zgI σ 12 t 1).bind fun x1 =>
if x1 + 20 ≤ 1600 then (
(f_M_four σ t p0).bind fun σ2 =>
(f_M_four σ2 t p1).bind fun σ3 =>
(f_M_four σ3 t p2).bind fun σ4 =>
(f_M_four σ4 t p3).bind fun σ5 =>
(f_M_four σ5 t p4).bind fun σ6 =>
(zgI σ6 12 t 1).bind fun x7 =>
some (x7, σ6)) else
some ((-1), σ))
set_option maxRecDepth 100000 in
set_option maxHeartbeats 4000000 in
theorem m_M_feed {l : Launch} {b : Nat} {ex : Nat → Value} {D : va_G} {ca : Nat → ClassId} {σ : zSt} {t : Nat} {p0 : Int32} {p1 : Int32} {p2 : Int32} {p3 : Int32} {p4 : Int32} {z : Int32 × zSt} (h : f_M_feed σ t p0 p1 p2 p3 p4 = some z) : zMT l b ex D ca 2 y_M_feed c_M_feed n_M_feed r_ret_M_feed [.ref t, .int p0, .int p1, .int p2, .int p3, .int p4] σ (some (.int z.1)) z.2 0 0 := by
  obtain ⟨_, hg0⟩ := zg_some h
  have h := hg0
  refine zmt_of (by decide) (Nat.le_of_ble_eq_true rfl) ⟨.int, rfl, rfl⟩ (fun X o hin hrm _ _ _ _ _ hr => ?_)
  have hr := hr 0 0 (by decide) (by decide)
  have o : zOK X "WantShelvesModel" c_M_feed n_M_feed 2 := o
  change zPJ X 0 0 0 [(0, .ref t), (1, .int p0), (2, .int p1), (3, .int p2), (4, .int p3), (5, .int p4)] [] σ
  refine zj_aload_n o (zdd k_M_feed 0 rfl) rfl 0 rfl ?_
  obtain ⟨x1, e_x1, h⟩ := zbd h
  refine zj_gI o (zdd k_M_feed 1 rfl) fl_M_148 rfl e_x1 ?_
  refine zj_bipush o (zdd k_M_feed 2 rfl) zkb_20 ?_
  refine zj_iadd o (zdd k_M_feed 3 rfl) ?_
  refine zj_sipush o (zdd k_M_feed 4 rfl) zks_1600 ?_
  refine zj_icmp_le (tgt := 15) o (zdd k_M_feed 5 rfl) (by decide) (fun hc => ?_) (fun hc => ?_)
  · rw [if_pos hc] at h
    refine zj_aload_n o (zdd k_M_feed 8 rfl) rfl 0 rfl ?_
    refine zj_iload_n o (zdd k_M_feed 9 rfl) rfl 1 rfl ?_
    obtain ⟨σ2, e_σ2, h⟩ := zbd h
    refine zc_V o (zdd k_M_feed 10 rfl) ml_M_151 mv_M_four ⟨rfl, by decide⟩ (zg_some e_σ2).1 (by decide) [.int p0] [] rfl (Nat.le_of_ble_eq_true rfl) rfl (m_M_four e_σ2) ?_
    change zPJ X 0 0 _ _ [] _
    refine zj_aload_n o (zdd k_M_feed 11 rfl) rfl 0 rfl ?_
    refine zj_iload_n o (zdd k_M_feed 12 rfl) rfl 2 rfl ?_
    obtain ⟨σ3, e_σ3, h⟩ := zbd h
    refine zc_V o (zdd k_M_feed 13 rfl) ml_M_151 mv_M_four ⟨rfl, by decide⟩ (zg_some e_σ3).1 (by decide) [.int p1] [] rfl (Nat.le_of_ble_eq_true rfl) rfl (m_M_four e_σ3) ?_
    change zPJ X 0 0 _ _ [] _
    refine zj_aload_n o (zdd k_M_feed 14 rfl) rfl 0 rfl ?_
    refine zj_iload_n o (zdd k_M_feed 15 rfl) rfl 3 rfl ?_
    obtain ⟨σ4, e_σ4, h⟩ := zbd h
    refine zc_V o (zdd k_M_feed 16 rfl) ml_M_151 mv_M_four ⟨rfl, by decide⟩ (zg_some e_σ4).1 (by decide) [.int p2] [] rfl (Nat.le_of_ble_eq_true rfl) rfl (m_M_four e_σ4) ?_
    change zPJ X 0 0 _ _ [] _
    refine zj_aload_n o (zdd k_M_feed 17 rfl) rfl 0 rfl ?_
    refine zj_iload o (zdd k_M_feed 18 rfl) 4 rfl ?_
    obtain ⟨σ5, e_σ5, h⟩ := zbd h
    refine zc_V o (zdd k_M_feed 19 rfl) ml_M_151 mv_M_four ⟨rfl, by decide⟩ (zg_some e_σ5).1 (by decide) [.int p3] [] rfl (Nat.le_of_ble_eq_true rfl) rfl (m_M_four e_σ5) ?_
    change zPJ X 0 0 _ _ [] _
    refine zj_aload_n o (zdd k_M_feed 20 rfl) rfl 0 rfl ?_
    refine zj_iload o (zdd k_M_feed 21 rfl) 5 rfl ?_
    obtain ⟨σ6, e_σ6, h⟩ := zbd h
    refine zc_V o (zdd k_M_feed 22 rfl) ml_M_151 mv_M_four ⟨rfl, by decide⟩ (zg_some e_σ6).1 (by decide) [.int p4] [] rfl (Nat.le_of_ble_eq_true rfl) rfl (m_M_four e_σ6) ?_
    change zPJ X 0 0 _ _ [] _
    refine zj_aload_n o (zdd k_M_feed 23 rfl) rfl 0 rfl ?_
    obtain ⟨x7, e_x7, h⟩ := zbd h
    refine zj_gI o (zdd k_M_feed 24 rfl) fl_M_148 rfl e_x7 ?_
    cases h
    exact zr_i o hr (zdd k_M_feed 25 rfl)
  · rw [if_neg hc] at h
    refine zj_iconst o (zdd k_M_feed 6 rfl) zki_m1 ?_
    cases h
    exact zr_i o hr (zdd k_M_feed 7 rfl)
def f_M_end (σ : zSt) (t : Nat) (p0 : Int32) : Option (Int32 × zSt) :=
zg σ 12 t (
if p0 < 0 then (
some ((-1), σ)) else
(zgI σ 12 t 1).bind fun x1 =>
if p0 ≤ x1 then (
(zsI σ 12 t 1 p0).bind fun σ2 =>
some (p0, σ2)) else
some ((-1), σ))
set_option maxRecDepth 100000 in
set_option maxHeartbeats 4000000 in
theorem m_M_end {l : Launch} {b : Nat} {ex : Nat → Value} {D : va_G} {ca : Nat → ClassId} {σ : zSt} {t : Nat} {p0 : Int32} {z : Int32 × zSt} (h : f_M_end σ t p0 = some z) : zMT l b ex D ca 1 y_M_end c_M_end n_M_end r_ret_M_end [.ref t, .int p0] σ (some (.int z.1)) z.2 0 0 := by
  obtain ⟨_, hg0⟩ := zg_some h
  have h := hg0
  refine zmt_of (by decide) (Nat.le_of_ble_eq_true rfl) ⟨.int, rfl, rfl⟩ (fun X o hin hrm _ _ _ _ _ hr => ?_)
  have hr := hr 0 0 (by decide) (by decide)
  have o : zOK X "WantShelvesModel" c_M_end n_M_end 1 := o
  change zPJ X 0 0 0 [(0, .ref t), (1, .int p0)] [] σ
  refine zj_iload_n o (zdd k_M_end 0 rfl) rfl 1 rfl ?_
  refine zj_if_lt (tgt := 12) o (zdd k_M_end 1 rfl) (by decide) (fun hc => ?_) (fun hc => ?_)
  · rw [if_pos hc] at h
    refine zj_iconst o (zdd k_M_end 6 rfl) zki_m1 ?_
    cases h
    exact zr_i o hr (zdd k_M_end 7 rfl)
  · rw [if_neg hc] at h
    refine zj_iload_n o (zdd k_M_end 2 rfl) rfl 1 rfl ?_
    refine zj_aload_n o (zdd k_M_end 3 rfl) rfl 0 rfl ?_
    obtain ⟨x1, e_x1, h⟩ := zbd h
    refine zj_gI o (zdd k_M_end 4 rfl) fl_M_148 rfl e_x1 ?_
    refine zj_icmp_le (tgt := 14) o (zdd k_M_end 5 rfl) (by decide) (fun hc => ?_) (fun hc => ?_)
    · rw [if_pos hc] at h
      refine zj_aload_n o (zdd k_M_end 8 rfl) rfl 0 rfl ?_
      refine zj_iload_n o (zdd k_M_end 9 rfl) rfl 1 rfl ?_
      obtain ⟨σ2, e_σ2, h⟩ := zbd h
      refine zj_pI o (zdd k_M_end 10 rfl) fl_M_148 rfl rfl e_σ2 ?_
      refine zj_iload_n o (zdd k_M_end 11 rfl) rfl 1 rfl ?_
      cases h
      exact zr_i o hr (zdd k_M_end 12 rfl)
    · rw [if_neg hc] at h
      refine zj_iconst o (zdd k_M_end 6 rfl) zki_m1 ?_
      cases h
      exact zr_i o hr (zdd k_M_end 7 rfl)
def f_M_here (σ : zSt) (t : Nat) (p0 : Int32) : Option (Int32) :=
zg σ 12 t (
(zgI σ 12 t 4).bind fun x1 =>
(zgI σ 12 t 5).bind fun x2 =>
if x2 ≤ x1 + p0 then (
some (-1)) else
(zgP σ 12 t 0).bind fun a3 =>
(zgI σ 12 t 4).bind fun x4 =>
(zaI σ 1 a3 (x4 + p0)).bind fun x5 =>
some x5)
set_option maxRecDepth 100000 in
set_option maxHeartbeats 4000000 in
theorem m_M_here {l : Launch} {b : Nat} {ex : Nat → Value} {D : va_G} {ca : Nat → ClassId} {σ : zSt} {t : Nat} {p0 : Int32} {z : Int32} (h : f_M_here σ t p0 = some z) : zMT l b ex D ca 1 y_M_here c_M_here n_M_here r_ret_M_here [.ref t, .int p0] σ (some (.int z)) σ 0 0 := by
  obtain ⟨_, hg0⟩ := zg_some h
  have h := hg0
  refine zmt_of (by decide) (Nat.le_of_ble_eq_true rfl) ⟨.int, rfl, rfl⟩ (fun X o hin hrm _ _ _ _ _ hr => ?_)
  have hr := hr 0 0 (by decide) (by decide)
  have o : zOK X "WantShelvesModel" c_M_here n_M_here 1 := o
  change zPJ X 0 0 0 [(0, .ref t), (1, .int p0)] [] σ
  refine zj_aload_n o (zdd k_M_here 0 rfl) rfl 0 rfl ?_
  obtain ⟨x1, e_x1, h⟩ := zbd h
  refine zj_gI o (zdd k_M_here 1 rfl) fl_M_155 rfl e_x1 ?_
  refine zj_iload_n o (zdd k_M_here 2 rfl) rfl 1 rfl ?_
  refine zj_iadd o (zdd k_M_here 3 rfl) ?_
  refine zj_aload_n o (zdd k_M_here 4 rfl) rfl 0 rfl ?_
  obtain ⟨x2, e_x2, h⟩ := zbd h
  refine zj_gI o (zdd k_M_here 5 rfl) fl_M_158 rfl e_x2 ?_
  refine zj_icmp_ge (tgt := 27) o (zdd k_M_here 6 rfl) (by decide) (fun hc => ?_) (fun hc => ?_)
  · rw [if_pos hc] at h
    refine zj_iconst o (zdd k_M_here 15 rfl) zki_m1 ?_
    cases h
    exact zr_i o hr (zdd k_M_here 16 rfl)
  · rw [if_neg hc] at h
    refine zj_aload_n o (zdd k_M_here 7 rfl) rfl 0 rfl ?_
    obtain ⟨a3, e_a3, h⟩ := zbd h
    refine zj_gP o (zdd k_M_here 8 rfl) fl_M_7 rfl e_a3 ?_
    refine zj_aload_n o (zdd k_M_here 9 rfl) rfl 0 rfl ?_
    obtain ⟨x4, e_x4, h⟩ := zbd h
    refine zj_gI o (zdd k_M_here 10 rfl) fl_M_155 rfl e_x4 ?_
    refine zj_iload_n o (zdd k_M_here 11 rfl) rfl 1 rfl ?_
    refine zj_iadd o (zdd k_M_here 12 rfl) ?_
    obtain ⟨x5, e_x5, h⟩ := zbd h
    refine zj_iald o (zdd k_M_here 13 rfl) e_x5 ?_
    refine zj_goto (tgt := 28) o (zdd k_M_here 14 rfl) (by decide) ?_
    cases h
    exact zr_i o hr (zdd k_M_here 16 rfl)
def f_M_isLetter (p0 : Int32) : Option (Int32) :=
(if p0 < 97 then (
some 0) else
if 122 < p0 then (
some 0) else
some 1).bind zbool
set_option maxRecDepth 100000 in
set_option maxHeartbeats 4000000 in
theorem m_M_isLetter {l : Launch} {b : Nat} {ex : Nat → Value} {D : va_G} {ca : Nat → ClassId} {σ : zSt} {p0 : Int32} {z : Int32} (h : f_M_isLetter p0 = some z) : zMT l b ex D ca 1 y_M_isLetter c_M_isLetter n_M_isLetter r_ret_M_isLetter [.int p0] σ (some (.int z)) σ 0 0 := by
  obtain ⟨z0, hbd, hz⟩ := zbd h
  obtain ⟨hzb, rfl⟩ := zbool_some hz
  have h := hbd
  refine zmt_of (by decide) (Nat.le_of_ble_eq_true rfl) ⟨.boolean, rfl, zb_nar hzb⟩ (fun X o hin hrm _ _ _ _ _ hr => ?_)
  have hr := hr 0 0 (by decide) (by decide)
  have o : zOK X "WantShelvesModel" c_M_isLetter n_M_isLetter 1 := o
  change zPJ X 0 0 0 [(0, .int p0)] [] σ
  refine zj_iload_n o (zdd k_M_isLetter 0 rfl) rfl 0 rfl ?_
  refine zj_bipush o (zdd k_M_isLetter 1 rfl) zkb_97 ?_
  refine zj_icmp_lt (tgt := 16) o (zdd k_M_isLetter 2 rfl) (by decide) (fun hc => ?_) (fun hc => ?_)
  · rw [if_pos hc] at h
    refine zj_iconst o (zdd k_M_isLetter 8 rfl) zki_0 ?_
    cases h
    exact zr_i o hr (zdd k_M_isLetter 9 rfl)
  · rw [if_neg hc] at h
    refine zj_iload_n o (zdd k_M_isLetter 3 rfl) rfl 0 rfl ?_
    refine zj_bipush o (zdd k_M_isLetter 4 rfl) zkb_122 ?_
    refine zj_icmp_gt (tgt := 16) o (zdd k_M_isLetter 5 rfl) (by decide) (fun hc => ?_) (fun hc => ?_)
    · rw [if_pos hc] at h
      refine zj_iconst o (zdd k_M_isLetter 8 rfl) zki_0 ?_
      cases h
      exact zr_i o hr (zdd k_M_isLetter 9 rfl)
    · rw [if_neg hc] at h
      refine zj_iconst o (zdd k_M_isLetter 6 rfl) zki_1 ?_
      refine zj_goto (tgt := 17) o (zdd k_M_isLetter 7 rfl) (by decide) ?_
      cases h
      exact zr_i o hr (zdd k_M_isLetter 9 rfl)
def f_M_isDigit (p0 : Int32) : Option (Int32) :=
(if p0 < 48 then (
some 0) else
if 57 < p0 then (
some 0) else
some 1).bind zbool
set_option maxRecDepth 100000 in
set_option maxHeartbeats 4000000 in
theorem m_M_isDigit {l : Launch} {b : Nat} {ex : Nat → Value} {D : va_G} {ca : Nat → ClassId} {σ : zSt} {p0 : Int32} {z : Int32} (h : f_M_isDigit p0 = some z) : zMT l b ex D ca 1 y_M_isDigit c_M_isDigit n_M_isDigit r_ret_M_isDigit [.int p0] σ (some (.int z)) σ 0 0 := by
  obtain ⟨z0, hbd, hz⟩ := zbd h
  obtain ⟨hzb, rfl⟩ := zbool_some hz
  have h := hbd
  refine zmt_of (by decide) (Nat.le_of_ble_eq_true rfl) ⟨.boolean, rfl, zb_nar hzb⟩ (fun X o hin hrm _ _ _ _ _ hr => ?_)
  have hr := hr 0 0 (by decide) (by decide)
  have o : zOK X "WantShelvesModel" c_M_isDigit n_M_isDigit 1 := o
  change zPJ X 0 0 0 [(0, .int p0)] [] σ
  refine zj_iload_n o (zdd k_M_isDigit 0 rfl) rfl 0 rfl ?_
  refine zj_bipush o (zdd k_M_isDigit 1 rfl) zkb_48 ?_
  refine zj_icmp_lt (tgt := 16) o (zdd k_M_isDigit 2 rfl) (by decide) (fun hc => ?_) (fun hc => ?_)
  · rw [if_pos hc] at h
    refine zj_iconst o (zdd k_M_isDigit 8 rfl) zki_0 ?_
    cases h
    exact zr_i o hr (zdd k_M_isDigit 9 rfl)
  · rw [if_neg hc] at h
    refine zj_iload_n o (zdd k_M_isDigit 3 rfl) rfl 0 rfl ?_
    refine zj_bipush o (zdd k_M_isDigit 4 rfl) zkb_57 ?_
    refine zj_icmp_gt (tgt := 16) o (zdd k_M_isDigit 5 rfl) (by decide) (fun hc => ?_) (fun hc => ?_)
    · rw [if_pos hc] at h
      refine zj_iconst o (zdd k_M_isDigit 8 rfl) zki_0 ?_
      cases h
      exact zr_i o hr (zdd k_M_isDigit 9 rfl)
    · rw [if_neg hc] at h
      refine zj_iconst o (zdd k_M_isDigit 6 rfl) zki_1 ?_
      refine zj_goto (tgt := 17) o (zdd k_M_isDigit 7 rfl) (by decide) ?_
      cases h
      exact zr_i o hr (zdd k_M_isDigit 9 rfl)
def f_M_isSign (p0 : Int32) : Option (Int32) :=
(if p0 = 59 then (
some 1) else
if p0 = 40 then (
some 1) else
if p0 = 41 then (
some 1) else
if p0 = 60 then (
some 1) else
if p0 = 62 then (
some 1) else
if p0 = 61 then (
some 1) else
if p0 = 43 then (
some 1) else
if p0 = 45 then (
some 1) else
if p0 = 42 then (
some 1) else
if p0 = 47 then (
some 1) else
if p0 = 37 then (
some 1) else
some 0).bind zbool
set_option maxRecDepth 100000 in
set_option maxHeartbeats 4000000 in
theorem m_M_isSign {l : Launch} {b : Nat} {ex : Nat → Value} {D : va_G} {ca : Nat → ClassId} {σ : zSt} {p0 : Int32} {z : Int32} (h : f_M_isSign p0 = some z) : zMT l b ex D ca 1 y_M_isSign c_M_isSign n_M_isSign r_ret_M_isSign [.int p0] σ (some (.int z)) σ 0 0 := by
  obtain ⟨z0, hbd, hz⟩ := zbd h
  obtain ⟨hzb, rfl⟩ := zbool_some hz
  have h := hbd
  refine zmt_of (by decide) (Nat.le_of_ble_eq_true rfl) ⟨.boolean, rfl, zb_nar hzb⟩ (fun X o hin hrm _ _ _ _ _ hr => ?_)
  have hr := hr 0 0 (by decide) (by decide)
  have o : zOK X "WantShelvesModel" c_M_isSign n_M_isSign 1 := o
  change zPJ X 0 0 0 [(0, .int p0)] [] σ
  refine zj_iload_n o (zdd k_M_isSign 0 rfl) rfl 0 rfl ?_
  refine zj_bipush o (zdd k_M_isSign 1 rfl) zkb_59 ?_
  refine zj_icmp_eq (tgt := 66) o (zdd k_M_isSign 2 rfl) (by decide) (fun hc => ?_) (fun hc => ?_)
  · rw [if_pos hc] at h
    refine zj_iconst o (zdd k_M_isSign 33 rfl) zki_1 ?_
    refine zj_goto (tgt := 71) o (zdd k_M_isSign 34 rfl) (by decide) ?_
    cases h
    exact zr_i o hr (zdd k_M_isSign 36 rfl)
  · rw [if_neg hc] at h
    refine zj_iload_n o (zdd k_M_isSign 3 rfl) rfl 0 rfl ?_
    refine zj_bipush o (zdd k_M_isSign 4 rfl) zkb_40 ?_
    refine zj_icmp_eq (tgt := 66) o (zdd k_M_isSign 5 rfl) (by decide) (fun hc => ?_) (fun hc => ?_)
    · rw [if_pos hc] at h
      refine zj_iconst o (zdd k_M_isSign 33 rfl) zki_1 ?_
      refine zj_goto (tgt := 71) o (zdd k_M_isSign 34 rfl) (by decide) ?_
      cases h
      exact zr_i o hr (zdd k_M_isSign 36 rfl)
    · rw [if_neg hc] at h
      refine zj_iload_n o (zdd k_M_isSign 6 rfl) rfl 0 rfl ?_
      refine zj_bipush o (zdd k_M_isSign 7 rfl) zkb_41 ?_
      refine zj_icmp_eq (tgt := 66) o (zdd k_M_isSign 8 rfl) (by decide) (fun hc => ?_) (fun hc => ?_)
      · rw [if_pos hc] at h
        refine zj_iconst o (zdd k_M_isSign 33 rfl) zki_1 ?_
        refine zj_goto (tgt := 71) o (zdd k_M_isSign 34 rfl) (by decide) ?_
        cases h
        exact zr_i o hr (zdd k_M_isSign 36 rfl)
      · rw [if_neg hc] at h
        refine zj_iload_n o (zdd k_M_isSign 9 rfl) rfl 0 rfl ?_
        refine zj_bipush o (zdd k_M_isSign 10 rfl) zkb_60 ?_
        refine zj_icmp_eq (tgt := 66) o (zdd k_M_isSign 11 rfl) (by decide) (fun hc => ?_) (fun hc => ?_)
        · rw [if_pos hc] at h
          refine zj_iconst o (zdd k_M_isSign 33 rfl) zki_1 ?_
          refine zj_goto (tgt := 71) o (zdd k_M_isSign 34 rfl) (by decide) ?_
          cases h
          exact zr_i o hr (zdd k_M_isSign 36 rfl)
        · rw [if_neg hc] at h
          refine zj_iload_n o (zdd k_M_isSign 12 rfl) rfl 0 rfl ?_
          refine zj_bipush o (zdd k_M_isSign 13 rfl) zkb_62 ?_
          refine zj_icmp_eq (tgt := 66) o (zdd k_M_isSign 14 rfl) (by decide) (fun hc => ?_) (fun hc => ?_)
          · rw [if_pos hc] at h
            refine zj_iconst o (zdd k_M_isSign 33 rfl) zki_1 ?_
            refine zj_goto (tgt := 71) o (zdd k_M_isSign 34 rfl) (by decide) ?_
            cases h
            exact zr_i o hr (zdd k_M_isSign 36 rfl)
          · rw [if_neg hc] at h
            refine zj_iload_n o (zdd k_M_isSign 15 rfl) rfl 0 rfl ?_
            refine zj_bipush o (zdd k_M_isSign 16 rfl) zkb_61 ?_
            refine zj_icmp_eq (tgt := 66) o (zdd k_M_isSign 17 rfl) (by decide) (fun hc => ?_) (fun hc => ?_)
            · rw [if_pos hc] at h
              refine zj_iconst o (zdd k_M_isSign 33 rfl) zki_1 ?_
              refine zj_goto (tgt := 71) o (zdd k_M_isSign 34 rfl) (by decide) ?_
              cases h
              exact zr_i o hr (zdd k_M_isSign 36 rfl)
            · rw [if_neg hc] at h
              refine zj_iload_n o (zdd k_M_isSign 18 rfl) rfl 0 rfl ?_
              refine zj_bipush o (zdd k_M_isSign 19 rfl) zkb_43 ?_
              refine zj_icmp_eq (tgt := 66) o (zdd k_M_isSign 20 rfl) (by decide) (fun hc => ?_) (fun hc => ?_)
              · rw [if_pos hc] at h
                refine zj_iconst o (zdd k_M_isSign 33 rfl) zki_1 ?_
                refine zj_goto (tgt := 71) o (zdd k_M_isSign 34 rfl) (by decide) ?_
                cases h
                exact zr_i o hr (zdd k_M_isSign 36 rfl)
              · rw [if_neg hc] at h
                refine zj_iload_n o (zdd k_M_isSign 21 rfl) rfl 0 rfl ?_
                refine zj_bipush o (zdd k_M_isSign 22 rfl) zkb_45 ?_
                refine zj_icmp_eq (tgt := 66) o (zdd k_M_isSign 23 rfl) (by decide) (fun hc => ?_) (fun hc => ?_)
                · rw [if_pos hc] at h
                  refine zj_iconst o (zdd k_M_isSign 33 rfl) zki_1 ?_
                  refine zj_goto (tgt := 71) o (zdd k_M_isSign 34 rfl) (by decide) ?_
                  cases h
                  exact zr_i o hr (zdd k_M_isSign 36 rfl)
                · rw [if_neg hc] at h
                  refine zj_iload_n o (zdd k_M_isSign 24 rfl) rfl 0 rfl ?_
                  refine zj_bipush o (zdd k_M_isSign 25 rfl) zkb_42 ?_
                  refine zj_icmp_eq (tgt := 66) o (zdd k_M_isSign 26 rfl) (by decide) (fun hc => ?_) (fun hc => ?_)
                  · rw [if_pos hc] at h
                    refine zj_iconst o (zdd k_M_isSign 33 rfl) zki_1 ?_
                    refine zj_goto (tgt := 71) o (zdd k_M_isSign 34 rfl) (by decide) ?_
                    cases h
                    exact zr_i o hr (zdd k_M_isSign 36 rfl)
                  · rw [if_neg hc] at h
                    refine zj_iload_n o (zdd k_M_isSign 27 rfl) rfl 0 rfl ?_
                    refine zj_bipush o (zdd k_M_isSign 28 rfl) zkb_47 ?_
                    refine zj_icmp_eq (tgt := 66) o (zdd k_M_isSign 29 rfl) (by decide) (fun hc => ?_) (fun hc => ?_)
                    · rw [if_pos hc] at h
                      refine zj_iconst o (zdd k_M_isSign 33 rfl) zki_1 ?_
                      refine zj_goto (tgt := 71) o (zdd k_M_isSign 34 rfl) (by decide) ?_
                      cases h
                      exact zr_i o hr (zdd k_M_isSign 36 rfl)
                    · rw [if_neg hc] at h
                      refine zj_iload_n o (zdd k_M_isSign 30 rfl) rfl 0 rfl ?_
                      refine zj_bipush o (zdd k_M_isSign 31 rfl) zkb_37 ?_
                      refine zj_icmp_ne (tgt := 70) o (zdd k_M_isSign 32 rfl) (by decide) (fun hc => ?_) (fun hc => ?_)
                      · rw [if_neg hc] at h
                        refine zj_iconst o (zdd k_M_isSign 35 rfl) zki_0 ?_
                        cases h
                        exact zr_i o hr (zdd k_M_isSign 36 rfl)
                      · rw [if_pos hc] at h
                        refine zj_iconst o (zdd k_M_isSign 33 rfl) zki_1 ?_
                        refine zj_goto (tgt := 71) o (zdd k_M_isSign 34 rfl) (by decide) ?_
                        cases h
                        exact zr_i o hr (zdd k_M_isSign 36 rfl)
def f_M_token_20 (k0 : zSt → Nat → Option (zSt)) (σ : zSt) (v0 : Nat) : Option (zSt) :=
(zgI σ 12 v0 4).bind fun x1 =>
(zsI σ 12 v0 4 (x1 + 1)).bind fun σ2 =>
k0 σ2 v0
set_option maxRecDepth 100000 in
set_option maxHeartbeats 4000000 in
theorem r_M_token_20 {X : zCX} (o : zOK X "WantShelvesModel" c_M_token n_M_token 2) {k0 : zSt → Nat → Option (zSt)} (hk0 : ∀ {σ : zSt} {v0 : Nat} {z : zSt}, k0 σ v0 = some z → zRX X 0 0 none z → zPJ X 0 0 0 [(0, .ref v0)] [] σ) {σ : zSt} {v0 : Nat} {z : zSt} (h : f_M_token_20 k0 σ v0 = some z) (hr : zRX X 0 0 none z) : zPJ X 0 0 20 [(0, .ref v0)] [] σ := by
  unfold f_M_token_20 at h
  refine zj_aload_n o (zdd k_M_token_0 10 rfl) rfl 0 rfl ?_
  refine zj_dup o (zdd k_M_token_0 11 rfl) rfl ?_
  obtain ⟨x1, e_x1, h⟩ := zbd h
  refine zj_gI o (zdd k_M_token_0 12 rfl) fl_M_155 rfl e_x1 ?_
  refine zj_iconst o (zdd k_M_token_0 13 rfl) zki_1 ?_
  refine zj_iadd o (zdd k_M_token_0 14 rfl) ?_
  obtain ⟨σ2, e_σ2, h⟩ := zbd h
  refine zj_pI o (zdd k_M_token_0 15 rfl) fl_M_155 rfl rfl e_σ2 ?_
  refine zj_goto (tgt := 0) o (zdd k_M_token_0 16 rfl) (by decide) ?_
  exact zj_sub [0] rfl (hk0 h hr)
def f_M_token_232 (σ : zSt) (v0 : Nat) (v2 : Int32) : Option (zSt) :=
(zgI σ 12 v0 6).bind fun x1 =>
if x1 = 3 then (
some σ) else
(zgI σ 12 v0 4).bind fun x2 =>
(zsI σ 12 v0 4 (x2 + v2)).bind fun σ3 =>
some σ3
set_option maxRecDepth 100000 in
set_option maxHeartbeats 4000000 in
theorem r_M_token_232 {X : zCX} (o : zOK X "WantShelvesModel" c_M_token n_M_token 2) {σ : zSt} {v0 : Nat} {v2 : Int32} {z : zSt} (h : f_M_token_232 σ v0 v2 = some z) (hr : zRX X 0 0 none z) : zPJ X 0 0 232 [(0, .ref v0), (2, .int v2)] [] σ := by
  unfold f_M_token_232 at h
  refine zj_aload_n o (zdd k_M_token_2 21 rfl) rfl 0 rfl ?_
  obtain ⟨x1, e_x1, h⟩ := zbd h
  refine zj_gI o (zdd k_M_token_2 22 rfl) fl_M_175 rfl e_x1 ?_
  refine zj_iconst o (zdd k_M_token_2 23 rfl) zki_3 ?_
  refine zj_icmp_eq (tgt := 250) o (zdd k_M_token_2 24 rfl) (by decide) (fun hc => ?_) (fun hc => ?_)
  · rw [if_pos hc] at h
    cases h
    exact zr_v o hr (zdd k_M_token_2 31 rfl)
  · rw [if_neg hc] at h
    refine zj_aload_n o (zdd k_M_token_2 25 rfl) rfl 0 rfl ?_
    refine zj_dup o (zdd k_M_token_2 26 rfl) rfl ?_
    obtain ⟨x2, e_x2, h⟩ := zbd h
    refine zj_gI o (zdd k_M_token_2 27 rfl) fl_M_155 rfl e_x2 ?_
    refine zj_iload_n o (zdd k_M_token_2 28 rfl) rfl 1 rfl ?_
    refine zj_iadd o (zdd k_M_token_2 29 rfl) ?_
    obtain ⟨σ3, e_σ3, h⟩ := zbd h
    refine zj_pI o (zdd k_M_token_2 30 rfl) fl_M_155 rfl rfl e_σ3 ?_
    cases h
    exact zr_v o hr (zdd k_M_token_2 31 rfl)
def f_M_token_131 (σ : zSt) (v0 : Nat) (v2 : Int32) (s0 : Int32) (s1 : Nat) : Option (zSt) :=
(zsI σ 12 s1 6 s0).bind fun σ1 =>
f_M_token_232 σ1 v0 v2
set_option maxRecDepth 100000 in
set_option maxHeartbeats 4000000 in
theorem r_M_token_131 {X : zCX} (o : zOK X "WantShelvesModel" c_M_token n_M_token 2) {σ : zSt} {v0 : Nat} {v2 : Int32} {s0 : Int32} {s1 : Nat} {z : zSt} (h : f_M_token_131 σ v0 v2 s0 s1 = some z) (hr : zRX X 0 0 none z) : zPJ X 0 0 131 [(0, .ref v0), (2, .int v2)] [.int s0, .ref s1] σ := by
  unfold f_M_token_131 at h
  obtain ⟨σ1, e_σ1, h⟩ := zbd h
  refine zj_pI o (zdd k_M_token_1 20 rfl) fl_M_175 rfl rfl e_σ1 ?_
  refine zj_goto (tgt := 232) o (zdd k_M_token_1 21 rfl) (by decide) ?_
  exact zj_sub [0, 1] rfl (r_M_token_232 o  h hr)
def f_M_token_119 (σ : zSt) (v0 : Nat) (v2 : Int32) : Option (zSt) :=
if v2 ≤ 8 then (
f_M_token_131 σ v0 v2 1 v0) else
f_M_token_131 σ v0 v2 3 v0
set_option maxRecDepth 100000 in
set_option maxHeartbeats 4000000 in
theorem r_M_token_119 {X : zCX} (o : zOK X "WantShelvesModel" c_M_token n_M_token 2) {σ : zSt} {v0 : Nat} {v2 : Int32} {z : zSt} (h : f_M_token_119 σ v0 v2 = some z) (hr : zRX X 0 0 none z) : zPJ X 0 0 119 [(0, .ref v0), (2, .int v2)] [] σ := by
  unfold f_M_token_119 at h
  refine zj_aload_n o (zdd k_M_token_1 13 rfl) rfl 0 rfl ?_
  refine zj_iload_n o (zdd k_M_token_1 14 rfl) rfl 1 rfl ?_
  refine zj_bipush o (zdd k_M_token_1 15 rfl) zkb_8 ?_
  refine zj_icmp_le (tgt := 130) o (zdd k_M_token_1 16 rfl) (by decide) (fun hc => ?_) (fun hc => ?_)
  · rw [if_pos hc] at h
    refine zj_iconst o (zdd k_M_token_1 19 rfl) zki_1 ?_
    exact zj_sub [0, 1] rfl (r_M_token_131 o  h hr)
  · rw [if_neg hc] at h
    refine zj_iconst o (zdd k_M_token_1 17 rfl) zki_3 ?_
    refine zj_goto (tgt := 131) o (zdd k_M_token_1 18 rfl) (by decide) ?_
    exact zj_sub [0, 1] rfl (r_M_token_131 o  h hr)
def f_M_token_78 (k78 : zSt → Nat → Int32 → Option (zSt)) (σ : zSt) (v0 : Nat) (v2 : Int32) : Option (zSt) :=
(f_M_here σ v0 v2).bind fun x1 =>
(f_M_isLetter x1).bind fun x2 =>
if x2 = 0 then (
f_M_token_119 σ v0 v2) else
if 8 ≤ v2 then (
k78 σ v0 (v2 + 1)) else
(zgJ σ 12 v0 9).bind fun x3 =>
(f_M_here σ v0 v2).bind fun x4 =>
(zsJ σ 12 v0 9 ((x3 <<< (((8 : Int32)).toInt64 &&& 63)) ||| (Int32.toInt64 x4))).bind fun σ5 =>
k78 σ5 v0 (v2 + 1)
set_option maxRecDepth 100000 in
set_option maxHeartbeats 4000000 in
theorem r_M_token_78 {X : zCX} (o : zOK X "WantShelvesModel" c_M_token n_M_token 2) {k78 : zSt → Nat → Int32 → Option (zSt)} (hk78 : ∀ {σ : zSt} {v0 : Nat} {v2 : Int32} {z : zSt}, k78 σ v0 v2 = some z → zRX X 0 0 none z → zPJ X 0 0 78 [(0, .ref v0), (2, .int v2)] [] σ) {σ : zSt} {v0 : Nat} {v2 : Int32} {z : zSt} (h : f_M_token_78 k78 σ v0 v2 = some z) (hr : zRX X 0 0 none z) : zPJ X 0 0 78 [(0, .ref v0), (2, .int v2)] [] σ := by
  unfold f_M_token_78 at h
  refine zj_aload_n o (zdd k_M_token_0 42 rfl) rfl 0 rfl ?_
  refine zj_iload_n o (zdd k_M_token_0 43 rfl) rfl 1 rfl ?_
  obtain ⟨x1, e_x1, h⟩ := zbd h
  refine zc_V o (zdd k_M_token_0 44 rfl) ml_M_161 mv_M_here ⟨rfl, by decide⟩ (zg_some e_x1).1 (by decide) [.int v2] [] rfl (Nat.le_of_ble_eq_true rfl) rfl (m_M_here e_x1) ?_
  change zPJ X 0 0 _ _ [.int x1] _
  obtain ⟨x2, e_x2, h⟩ := zbd h
  refine zc_S o (zdd k_M_token_0 45 rfl) ml_M_178 ms_M_isLetter (by decide) [.int x1] [] rfl (Nat.le_of_ble_eq_true rfl) rfl (m_M_isLetter e_x2) ?_
  change zPJ X 0 0 _ _ [.int x2] _
  refine zj_if_eq (tgt := 119) o (zdd k_M_token_0 46 rfl) (by decide) (fun hc => ?_) (fun hc => ?_)
  · rw [if_pos hc] at h
    exact zj_sub [0, 1] rfl (r_M_token_119 o  h hr)
  · rw [if_neg hc] at h
    refine zj_iload_n o (zdd k_M_token_0 47 rfl) rfl 1 rfl ?_
    refine zj_bipush o (zdd k_M_token_0 48 rfl) zkb_8 ?_
    refine zj_icmp_ge (tgt := 113) o (zdd k_M_token_0 49 rfl) (by decide) (fun hc => ?_) (fun hc => ?_)
    · rw [if_pos hc] at h
      refine zj_iinc (v := v2 + 1) (loc' := [(2, .int (v2 + 1)), (0, .ref v0)]) o (zdd k_M_token_1 11 rfl) 1 rfl (by rw [zki_1]) (by decide) rfl ?_
      refine zj_goto (tgt := 78) o (zdd k_M_token_1 12 rfl) (by decide) ?_
      exact zj_sub [1, 0] rfl (hk78 h hr)
    · rw [if_neg hc] at h
      refine zj_aload_n o (zdd k_M_token_1 0 rfl) rfl 0 rfl ?_
      refine zj_aload_n o (zdd k_M_token_1 1 rfl) rfl 0 rfl ?_
      obtain ⟨x3, e_x3, h⟩ := zbd h
      refine zj_gJ o (zdd k_M_token_1 2 rfl) fl_M_168 rfl e_x3 ?_
      refine zj_bipush o (zdd k_M_token_1 3 rfl) zkb_8 ?_
      refine zj_lshl o (zdd k_M_token_1 4 rfl) ?_
      refine zj_aload_n o (zdd k_M_token_1 5 rfl) rfl 0 rfl ?_
      refine zj_iload_n o (zdd k_M_token_1 6 rfl) rfl 1 rfl ?_
      obtain ⟨x4, e_x4, h⟩ := zbd h
      refine zc_V o (zdd k_M_token_1 7 rfl) ml_M_161 mv_M_here ⟨rfl, by decide⟩ (zg_some e_x4).1 (by decide) [.int v2] [.long (x3 <<< (((8 : Int32)).toInt64 &&& 63)), .ref v0] rfl (Nat.le_of_ble_eq_true rfl) rfl (m_M_here e_x4) ?_
      change zPJ X 0 0 _ _ [.int x4, .long (x3 <<< (((8 : Int32)).toInt64 &&& 63)), .ref v0] _
      refine zj_i2l o (zdd k_M_token_1 8 rfl) ?_
      refine zj_lor o (zdd k_M_token_1 9 rfl) ?_
      obtain ⟨σ5, e_σ5, h⟩ := zbd h
      refine zj_pJ o (zdd k_M_token_1 10 rfl) fl_M_168 rfl rfl e_σ5 ?_
      refine zj_iinc (v := v2 + 1) (loc' := [(2, .int (v2 + 1)), (0, .ref v0)]) o (zdd k_M_token_1 11 rfl) 1 rfl (by rw [zki_1]) (by decide) rfl ?_
      refine zj_goto (tgt := 78) o (zdd k_M_token_1 12 rfl) (by decide) ?_
      exact zj_sub [1, 0] rfl (hk78 h hr)
def f_M_token_78L : Nat → zSt → Nat → Int32 → Option (zSt)
  | 0 => fun _ _ _ => none
  | n + 1 => f_M_token_78  (f_M_token_78L  n)
theorem r_M_token_78L {X : zCX} (o : zOK X "WantShelvesModel" c_M_token n_M_token 2) : ∀ (n : Nat) {σ : zSt} {v0 : Nat} {v2 : Int32} {z : zSt}, f_M_token_78L n σ v0 v2 = some z → zRX X 0 0 none z → zPJ X 0 0 78 [(0, .ref v0), (2, .int v2)] [] σ
  | 0 => fun h _ => by cases h
  | n + 1 => fun h hr => r_M_token_78 o (r_M_token_78L o  n) h hr
def f_M_token_208 (σ : zSt) (v0 : Nat) (v2 : Int32) (s0 : Int32) (s1 : Nat) : Option (zSt) :=
(zsI σ 12 s1 6 s0).bind fun σ1 =>
f_M_token_232 σ1 v0 v2
set_option maxRecDepth 100000 in
set_option maxHeartbeats 4000000 in
theorem r_M_token_208 {X : zCX} (o : zOK X "WantShelvesModel" c_M_token n_M_token 2) {σ : zSt} {v0 : Nat} {v2 : Int32} {s0 : Int32} {s1 : Nat} {z : zSt} (h : f_M_token_208 σ v0 v2 s0 s1 = some z) (hr : zRX X 0 0 none z) : zPJ X 0 0 208 [(0, .ref v0), (2, .int v2)] [.int s0, .ref s1] σ := by
  unfold f_M_token_208 at h
  obtain ⟨σ1, e_σ1, h⟩ := zbd h
  refine zj_pI o (zdd k_M_token_2 9 rfl) fl_M_175 rfl rfl e_σ1 ?_
  refine zj_goto (tgt := 232) o (zdd k_M_token_2 10 rfl) (by decide) ?_
  exact zj_sub [0, 1] rfl (r_M_token_232 o  h hr)
def f_M_token_203 (σ : zSt) (v0 : Nat) (v2 : Int32) (s0 : Nat) : Option (zSt) :=
f_M_token_208 σ v0 v2 3 s0
set_option maxRecDepth 100000 in
set_option maxHeartbeats 4000000 in
theorem r_M_token_203 {X : zCX} (o : zOK X "WantShelvesModel" c_M_token n_M_token 2) {σ : zSt} {v0 : Nat} {v2 : Int32} {s0 : Nat} {z : zSt} (h : f_M_token_203 σ v0 v2 s0 = some z) (hr : zRX X 0 0 none z) : zPJ X 0 0 203 [(0, .ref v0), (2, .int v2)] [.ref s0] σ := by
  unfold f_M_token_203 at h
  refine zj_iconst o (zdd k_M_token_2 6 rfl) zki_3 ?_
  refine zj_goto (tgt := 208) o (zdd k_M_token_2 7 rfl) (by decide) ?_
  exact zj_sub [0, 1] rfl (r_M_token_208 o  h hr)
def f_M_token_186 (σ : zSt) (v0 : Nat) (v2 : Int32) : Option (zSt) :=
if 4 < v2 then (
f_M_token_203 σ v0 v2 v0) else
(f_M_here σ v0 v2).bind fun x1 =>
(f_M_isLetter x1).bind fun x2 =>
if x2 = 0 then (
f_M_token_208 σ v0 v2 2 v0) else
f_M_token_203 σ v0 v2 v0
set_option maxRecDepth 100000 in
set_option maxHeartbeats 4000000 in
theorem r_M_token_186 {X : zCX} (o : zOK X "WantShelvesModel" c_M_token n_M_token 2) {σ : zSt} {v0 : Nat} {v2 : Int32} {z : zSt} (h : f_M_token_186 σ v0 v2 = some z) (hr : zRX X 0 0 none z) : zPJ X 0 0 186 [(0, .ref v0), (2, .int v2)] [] σ := by
  unfold f_M_token_186 at h
  refine zj_aload_n o (zdd k_M_token_1 47 rfl) rfl 0 rfl ?_
  refine zj_iload_n o (zdd k_M_token_1 48 rfl) rfl 1 rfl ?_
  refine zj_iconst o (zdd k_M_token_1 49 rfl) zki_4 ?_
  refine zj_icmp_gt (tgt := 203) o (zdd k_M_token_2 0 rfl) (by decide) (fun hc => ?_) (fun hc => ?_)
  · rw [if_pos hc] at h
    exact zj_sub [0, 1] rfl (r_M_token_203 o  h hr)
  · rw [if_neg hc] at h
    refine zj_aload_n o (zdd k_M_token_2 1 rfl) rfl 0 rfl ?_
    refine zj_iload_n o (zdd k_M_token_2 2 rfl) rfl 1 rfl ?_
    obtain ⟨x1, e_x1, h⟩ := zbd h
    refine zc_V o (zdd k_M_token_2 3 rfl) ml_M_161 mv_M_here ⟨rfl, by decide⟩ (zg_some e_x1).1 (by decide) [.int v2] [.ref v0] rfl (Nat.le_of_ble_eq_true rfl) rfl (m_M_here e_x1) ?_
    change zPJ X 0 0 _ _ [.int x1, .ref v0] _
    obtain ⟨x2, e_x2, h⟩ := zbd h
    refine zc_S o (zdd k_M_token_2 4 rfl) ml_M_178 ms_M_isLetter (by decide) [.int x1] [.ref v0] rfl (Nat.le_of_ble_eq_true rfl) rfl (m_M_isLetter e_x2) ?_
    change zPJ X 0 0 _ _ [.int x2, .ref v0] _
    refine zj_if_eq (tgt := 207) o (zdd k_M_token_2 5 rfl) (by decide) (fun hc => ?_) (fun hc => ?_)
    · rw [if_pos hc] at h
      refine zj_iconst o (zdd k_M_token_2 8 rfl) zki_2 ?_
      exact zj_sub [0, 1] rfl (r_M_token_208 o  h hr)
    · rw [if_neg hc] at h
      exact zj_sub [0, 1] rfl (r_M_token_203 o  h hr)
def f_M_token_144 (k144 : zSt → Nat → Int32 → Option (zSt)) (σ : zSt) (v0 : Nat) (v2 : Int32) : Option (zSt) :=
(f_M_here σ v0 v2).bind fun x1 =>
(f_M_isDigit x1).bind fun x2 =>
if x2 = 0 then (
f_M_token_186 σ v0 v2) else
if 4 ≤ v2 then (
k144 σ v0 (v2 + 1)) else
(zgI σ 12 v0 8).bind fun x3 =>
(f_M_here σ v0 v2).bind fun x4 =>
(zsI σ 12 v0 8 (((10 * x3) + x4) - 48)).bind fun σ5 =>
k144 σ5 v0 (v2 + 1)
set_option maxRecDepth 100000 in
set_option maxHeartbeats 4000000 in
theorem r_M_token_144 {X : zCX} (o : zOK X "WantShelvesModel" c_M_token n_M_token 2) {k144 : zSt → Nat → Int32 → Option (zSt)} (hk144 : ∀ {σ : zSt} {v0 : Nat} {v2 : Int32} {z : zSt}, k144 σ v0 v2 = some z → zRX X 0 0 none z → zPJ X 0 0 144 [(0, .ref v0), (2, .int v2)] [] σ) {σ : zSt} {v0 : Nat} {v2 : Int32} {z : zSt} (h : f_M_token_144 k144 σ v0 v2 = some z) (hr : zRX X 0 0 none z) : zPJ X 0 0 144 [(0, .ref v0), (2, .int v2)] [] σ := by
  unfold f_M_token_144 at h
  refine zj_aload_n o (zdd k_M_token_1 25 rfl) rfl 0 rfl ?_
  refine zj_iload_n o (zdd k_M_token_1 26 rfl) rfl 1 rfl ?_
  obtain ⟨x1, e_x1, h⟩ := zbd h
  refine zc_V o (zdd k_M_token_1 27 rfl) ml_M_161 mv_M_here ⟨rfl, by decide⟩ (zg_some e_x1).1 (by decide) [.int v2] [] rfl (Nat.le_of_ble_eq_true rfl) rfl (m_M_here e_x1) ?_
  change zPJ X 0 0 _ _ [.int x1] _
  obtain ⟨x2, e_x2, h⟩ := zbd h
  refine zc_S o (zdd k_M_token_1 28 rfl) ml_M_182 ms_M_isDigit (by decide) [.int x1] [] rfl (Nat.le_of_ble_eq_true rfl) rfl (m_M_isDigit e_x2) ?_
  change zPJ X 0 0 _ _ [.int x2] _
  refine zj_if_eq (tgt := 186) o (zdd k_M_token_1 29 rfl) (by decide) (fun hc => ?_) (fun hc => ?_)
  · rw [if_pos hc] at h
    exact zj_sub [0, 1] rfl (r_M_token_186 o  h hr)
  · rw [if_neg hc] at h
    refine zj_iload_n o (zdd k_M_token_1 30 rfl) rfl 1 rfl ?_
    refine zj_iconst o (zdd k_M_token_1 31 rfl) zki_4 ?_
    refine zj_icmp_ge (tgt := 180) o (zdd k_M_token_1 32 rfl) (by decide) (fun hc => ?_) (fun hc => ?_)
    · rw [if_pos hc] at h
      refine zj_iinc (v := v2 + 1) (loc' := [(2, .int (v2 + 1)), (0, .ref v0)]) o (zdd k_M_token_1 45 rfl) 1 rfl (by rw [zki_1]) (by decide) rfl ?_
      refine zj_goto (tgt := 144) o (zdd k_M_token_1 46 rfl) (by decide) ?_
      exact zj_sub [1, 0] rfl (hk144 h hr)
    · rw [if_neg hc] at h
      refine zj_aload_n o (zdd k_M_token_1 33 rfl) rfl 0 rfl ?_
      refine zj_bipush o (zdd k_M_token_1 34 rfl) zkb_10 ?_
      refine zj_aload_n o (zdd k_M_token_1 35 rfl) rfl 0 rfl ?_
      obtain ⟨x3, e_x3, h⟩ := zbd h
      refine zj_gI o (zdd k_M_token_1 36 rfl) fl_M_172 rfl e_x3 ?_
      refine zj_imul o (zdd k_M_token_1 37 rfl) ?_
      refine zj_aload_n o (zdd k_M_token_1 38 rfl) rfl 0 rfl ?_
      refine zj_iload_n o (zdd k_M_token_1 39 rfl) rfl 1 rfl ?_
      obtain ⟨x4, e_x4, h⟩ := zbd h
      refine zc_V o (zdd k_M_token_1 40 rfl) ml_M_161 mv_M_here ⟨rfl, by decide⟩ (zg_some e_x4).1 (by decide) [.int v2] [.int (10 * x3), .ref v0] rfl (Nat.le_of_ble_eq_true rfl) rfl (m_M_here e_x4) ?_
      change zPJ X 0 0 _ _ [.int x4, .int (10 * x3), .ref v0] _
      refine zj_iadd o (zdd k_M_token_1 41 rfl) ?_
      refine zj_bipush o (zdd k_M_token_1 42 rfl) zkb_48 ?_
      refine zj_isub o (zdd k_M_token_1 43 rfl) ?_
      obtain ⟨σ5, e_σ5, h⟩ := zbd h
      refine zj_pI o (zdd k_M_token_1 44 rfl) fl_M_172 rfl rfl e_σ5 ?_
      refine zj_iinc (v := v2 + 1) (loc' := [(2, .int (v2 + 1)), (0, .ref v0)]) o (zdd k_M_token_1 45 rfl) 1 rfl (by rw [zki_1]) (by decide) rfl ?_
      refine zj_goto (tgt := 144) o (zdd k_M_token_1 46 rfl) (by decide) ?_
      exact zj_sub [1, 0] rfl (hk144 h hr)
def f_M_token_144L : Nat → zSt → Nat → Int32 → Option (zSt)
  | 0 => fun _ _ _ => none
  | n + 1 => f_M_token_144  (f_M_token_144L  n)
theorem r_M_token_144L {X : zCX} (o : zOK X "WantShelvesModel" c_M_token n_M_token 2) : ∀ (n : Nat) {σ : zSt} {v0 : Nat} {v2 : Int32} {z : zSt}, f_M_token_144L n σ v0 v2 = some z → zRX X 0 0 none z → zPJ X 0 0 144 [(0, .ref v0), (2, .int v2)] [] σ
  | 0 => fun h _ => by cases h
  | n + 1 => fun h hr => r_M_token_144 o (r_M_token_144L o  n) h hr
def f_M_token_229 (σ : zSt) (v0 : Nat) (v2 : Int32) (s0 : Int32) (s1 : Nat) : Option (zSt) :=
(zsI σ 12 s1 6 s0).bind fun σ1 =>
f_M_token_232 σ1 v0 v2
set_option maxRecDepth 100000 in
set_option maxHeartbeats 4000000 in
theorem r_M_token_229 {X : zCX} (o : zOK X "WantShelvesModel" c_M_token n_M_token 2) {σ : zSt} {v0 : Nat} {v2 : Int32} {s0 : Int32} {s1 : Nat} {z : zSt} (h : f_M_token_229 σ v0 v2 s0 s1 = some z) (hr : zRX X 0 0 none z) : zPJ X 0 0 229 [(0, .ref v0), (2, .int v2)] [.int s0, .ref s1] σ := by
  unfold f_M_token_229 at h
  obtain ⟨σ1, e_σ1, h⟩ := zbd h
  refine zj_pI o (zdd k_M_token_2 20 rfl) fl_M_175 rfl rfl e_σ1 ?_
  exact zj_sub [0, 1] rfl (r_M_token_232 o  h hr)
def f_M_token_33 (σ : zSt) (v0 : Nat) : Option (zSt) :=
(zgI σ 12 v0 4).bind fun x1 =>
(zsI σ 12 v0 7 x1).bind fun σ2 =>
(f_M_here σ2 v0 0).bind fun x3 =>
(zsJ σ2 12 v0 9 0).bind fun σ4 =>
(zsI σ4 12 v0 8 0).bind fun σ5 =>
if 0 ≤ x3 then (
(f_M_isLetter x3).bind fun x6 =>
if x6 = 0 then (
(f_M_isDigit x3).bind fun x7 =>
if x7 = 0 then (
(f_M_isSign x3).bind fun x8 =>
if x8 = 0 then (
f_M_token_229 σ5 v0 1 3 v0) else
f_M_token_229 σ5 v0 1 x3 v0) else
f_M_token_144L zfu σ5 v0 0) else
f_M_token_78L zfu σ5 v0 0) else
(zsI σ5 12 v0 6 0).bind fun σ9 =>
f_M_token_232 σ9 v0 0
set_option maxRecDepth 100000 in
set_option maxHeartbeats 4000000 in
theorem r_M_token_33 {X : zCX} (o : zOK X "WantShelvesModel" c_M_token n_M_token 2) {σ : zSt} {v0 : Nat} {z : zSt} (h : f_M_token_33 σ v0 = some z) (hr : zRX X 0 0 none z) : zPJ X 0 0 33 [(0, .ref v0)] [] σ := by
  unfold f_M_token_33 at h
  refine zj_aload_n o (zdd k_M_token_0 17 rfl) rfl 0 rfl ?_
  refine zj_aload_n o (zdd k_M_token_0 18 rfl) rfl 0 rfl ?_
  obtain ⟨x1, e_x1, h⟩ := zbd h
  refine zj_gI o (zdd k_M_token_0 19 rfl) fl_M_155 rfl e_x1 ?_
  obtain ⟨σ2, e_σ2, h⟩ := zbd h
  refine zj_pI o (zdd k_M_token_0 20 rfl) fl_M_165 rfl rfl e_σ2 ?_
  refine zj_aload_n o (zdd k_M_token_0 21 rfl) rfl 0 rfl ?_
  refine zj_iconst o (zdd k_M_token_0 22 rfl) zki_0 ?_
  obtain ⟨x3, e_x3, h⟩ := zbd h
  refine zc_V o (zdd k_M_token_0 23 rfl) ml_M_161 mv_M_here ⟨rfl, by decide⟩ (zg_some e_x3).1 (by decide) [.int 0] [] rfl (Nat.le_of_ble_eq_true rfl) rfl (m_M_here e_x3) ?_
  change zPJ X 0 0 _ _ [.int x3] _
  refine zj_istore_n (loc' := [(1, .int x3), (0, .ref v0)]) o (zdd k_M_token_0 24 rfl) rfl (by decide) rfl ?_
  refine zj_iconst o (zdd k_M_token_0 25 rfl) zki_0 ?_
  refine zj_istore_n (loc' := [(2, .int 0), (1, .int x3), (0, .ref v0)]) o (zdd k_M_token_0 26 rfl) rfl (by decide) rfl ?_
  refine zj_aload_n o (zdd k_M_token_0 27 rfl) rfl 2 rfl ?_
  refine zj_lconst (v := 0) o (zdd k_M_token_0 28 rfl) rfl ?_
  obtain ⟨σ4, e_σ4, h⟩ := zbd h
  refine zj_pJ o (zdd k_M_token_0 29 rfl) fl_M_168 rfl rfl e_σ4 ?_
  refine zj_aload_n o (zdd k_M_token_0 30 rfl) rfl 2 rfl ?_
  refine zj_iconst o (zdd k_M_token_0 31 rfl) zki_0 ?_
  obtain ⟨σ5, e_σ5, h⟩ := zbd h
  refine zj_pI o (zdd k_M_token_0 32 rfl) fl_M_172 rfl rfl e_σ5 ?_
  refine zj_iload_n o (zdd k_M_token_0 33 rfl) rfl 1 rfl ?_
  refine zj_if_ge (tgt := 71) o (zdd k_M_token_0 34 rfl) (by decide) (fun hc => ?_) (fun hc => ?_)
  · rw [if_pos hc] at h
    refine zj_iload_n o (zdd k_M_token_0 39 rfl) rfl 1 rfl ?_
    obtain ⟨x6, e_x6, h⟩ := zbd h
    refine zc_S o (zdd k_M_token_0 40 rfl) ml_M_178 ms_M_isLetter (by decide) [.int x3] [] rfl (Nat.le_of_ble_eq_true rfl) rfl (m_M_isLetter e_x6) ?_
    change zPJ X 0 0 _ _ [.int x6] _
    refine zj_if_eq (tgt := 137) o (zdd k_M_token_0 41 rfl) (by decide) (fun hc => ?_) (fun hc => ?_)
    · rw [if_pos hc] at h
      refine zj_iload_n o (zdd k_M_token_1 22 rfl) rfl 1 rfl ?_
      obtain ⟨x7, e_x7, h⟩ := zbd h
      refine zc_S o (zdd k_M_token_1 23 rfl) ml_M_182 ms_M_isDigit (by decide) [.int x3] [] rfl (Nat.le_of_ble_eq_true rfl) rfl (m_M_isDigit e_x7) ?_
      change zPJ X 0 0 _ _ [.int x7] _
      refine zj_if_eq (tgt := 214) o (zdd k_M_token_1 24 rfl) (by decide) (fun hc => ?_) (fun hc => ?_)
      · rw [if_pos hc] at h
        refine zj_iconst o (zdd k_M_token_2 11 rfl) zki_1 ?_
        refine zj_istore_n (loc' := [(2, .int 1), (1, .int x3), (0, .ref v0)]) o (zdd k_M_token_2 12 rfl) rfl (by decide) rfl ?_
        refine zj_aload_n o (zdd k_M_token_2 13 rfl) rfl 2 rfl ?_
        refine zj_iload_n o (zdd k_M_token_2 14 rfl) rfl 1 rfl ?_
        obtain ⟨x8, e_x8, h⟩ := zbd h
        refine zc_S o (zdd k_M_token_2 15 rfl) ml_M_185 ms_M_isSign (by decide) [.int x3] [.ref v0] rfl (Nat.le_of_ble_eq_true rfl) rfl (m_M_isSign e_x8) ?_
        change zPJ X 0 0 _ _ [.int x8, .ref v0] _
        refine zj_if_eq (tgt := 228) o (zdd k_M_token_2 16 rfl) (by decide) (fun hc => ?_) (fun hc => ?_)
        · rw [if_pos hc] at h
          refine zj_iconst o (zdd k_M_token_2 19 rfl) zki_3 ?_
          exact zj_sub [2, 0] rfl (r_M_token_229 o  h hr)
        · rw [if_neg hc] at h
          refine zj_iload_n o (zdd k_M_token_2 17 rfl) rfl 1 rfl ?_
          refine zj_goto (tgt := 229) o (zdd k_M_token_2 18 rfl) (by decide) ?_
          exact zj_sub [2, 0] rfl (r_M_token_229 o  h hr)
      · rw [if_neg hc] at h
        exact zj_sub [2, 0] rfl (r_M_token_144L o  zfu h hr)
    · rw [if_neg hc] at h
      exact zj_sub [2, 0] rfl (r_M_token_78L o  zfu h hr)
  · rw [if_neg hc] at h
    refine zj_aload_n o (zdd k_M_token_0 35 rfl) rfl 2 rfl ?_
    refine zj_iconst o (zdd k_M_token_0 36 rfl) zki_0 ?_
    obtain ⟨σ9, e_σ9, h⟩ := zbd h
    refine zj_pI o (zdd k_M_token_0 37 rfl) fl_M_175 rfl rfl e_σ9 ?_
    refine zj_goto (tgt := 232) o (zdd k_M_token_0 38 rfl) (by decide) ?_
    exact zj_sub [2, 0] rfl (r_M_token_232 o  h hr)
def f_M_token_0 (k0 : zSt → Nat → Option (zSt)) (σ : zSt) (v0 : Nat) : Option (zSt) :=
(f_M_here σ v0 0).bind fun x1 =>
if x1 = 32 then (
f_M_token_20 k0 σ v0) else
(f_M_here σ v0 0).bind fun x2 =>
if x2 = 10 then (
f_M_token_20 k0 σ v0) else
f_M_token_33 σ v0
set_option maxRecDepth 100000 in
set_option maxHeartbeats 4000000 in
theorem r_M_token_0 {X : zCX} (o : zOK X "WantShelvesModel" c_M_token n_M_token 2) {k0 : zSt → Nat → Option (zSt)} (hk0 : ∀ {σ : zSt} {v0 : Nat} {z : zSt}, k0 σ v0 = some z → zRX X 0 0 none z → zPJ X 0 0 0 [(0, .ref v0)] [] σ) {σ : zSt} {v0 : Nat} {z : zSt} (h : f_M_token_0 k0 σ v0 = some z) (hr : zRX X 0 0 none z) : zPJ X 0 0 0 [(0, .ref v0)] [] σ := by
  unfold f_M_token_0 at h
  refine zj_aload_n o (zdd k_M_token_0 0 rfl) rfl 0 rfl ?_
  refine zj_iconst o (zdd k_M_token_0 1 rfl) zki_0 ?_
  obtain ⟨x1, e_x1, h⟩ := zbd h
  refine zc_V o (zdd k_M_token_0 2 rfl) ml_M_161 mv_M_here ⟨rfl, by decide⟩ (zg_some e_x1).1 (by decide) [.int 0] [] rfl (Nat.le_of_ble_eq_true rfl) rfl (m_M_here e_x1) ?_
  change zPJ X 0 0 _ _ [.int x1] _
  refine zj_bipush o (zdd k_M_token_0 3 rfl) zkb_32 ?_
  refine zj_icmp_eq (tgt := 20) o (zdd k_M_token_0 4 rfl) (by decide) (fun hc => ?_) (fun hc => ?_)
  · rw [if_pos hc] at h
    exact zj_sub [0] rfl (r_M_token_20 o hk0 h hr)
  · rw [if_neg hc] at h
    refine zj_aload_n o (zdd k_M_token_0 5 rfl) rfl 0 rfl ?_
    refine zj_iconst o (zdd k_M_token_0 6 rfl) zki_0 ?_
    obtain ⟨x2, e_x2, h⟩ := zbd h
    refine zc_V o (zdd k_M_token_0 7 rfl) ml_M_161 mv_M_here ⟨rfl, by decide⟩ (zg_some e_x2).1 (by decide) [.int 0] [] rfl (Nat.le_of_ble_eq_true rfl) rfl (m_M_here e_x2) ?_
    change zPJ X 0 0 _ _ [.int x2] _
    refine zj_bipush o (zdd k_M_token_0 8 rfl) zkb_10 ?_
    refine zj_icmp_ne (tgt := 33) o (zdd k_M_token_0 9 rfl) (by decide) (fun hc => ?_) (fun hc => ?_)
    · rw [if_neg hc] at h
      exact zj_sub [0] rfl (r_M_token_33 o  h hr)
    · rw [if_pos hc] at h
      exact zj_sub [0] rfl (r_M_token_20 o hk0 h hr)
def f_M_token_0L : Nat → zSt → Nat → Option (zSt)
  | 0 => fun _ _ => none
  | n + 1 => f_M_token_0  (f_M_token_0L  n)
theorem r_M_token_0L {X : zCX} (o : zOK X "WantShelvesModel" c_M_token n_M_token 2) : ∀ (n : Nat) {σ : zSt} {v0 : Nat} {z : zSt}, f_M_token_0L n σ v0 = some z → zRX X 0 0 none z → zPJ X 0 0 0 [(0, .ref v0)] [] σ
  | 0 => fun h _ => by cases h
  | n + 1 => fun h hr => r_M_token_0 o (r_M_token_0L o  n) h hr
def f_M_token (σ : zSt) (t : Nat) : Option (zSt) :=
zg σ 12 t (
f_M_token_0L zfu σ t)
set_option maxRecDepth 100000 in
set_option maxHeartbeats 4000000 in
theorem m_M_token {l : Launch} {b : Nat} {ex : Nat → Value} {D : va_G} {ca : Nat → ClassId} {σ : zSt} {t : Nat} {z : zSt} (h : f_M_token σ t = some z) : zMT l b ex D ca 2 y_M_token c_M_token n_M_token r_ret_M_token [.ref t] σ none z 0 0 := by
  obtain ⟨_, hg0⟩ := zg_some h
  have h := hg0
  refine zmt_of (by decide) (Nat.le_of_ble_eq_true rfl) rfl (fun X o hin hrm _ _ _ _ _ hr => ?_)
  have hr := hr 0 0 (by decide) (by decide)
  have o : zOK X "WantShelvesModel" c_M_token n_M_token 2 := o
  change zPJ X 0 0 0 [(0, .ref t)] [] σ
  exact zj_sub [0] rfl (r_M_token_0L o  zfu h hr)
def f_M_wrong_22 (σ : zSt) (v0 : Nat) (s0 : Int32) (s1 : Nat) : Option (zSt) :=
(zsI σ 12 s1 2 s0).bind fun σ1 =>
(zgI σ1 12 v0 7).bind fun x2 =>
(zsI σ1 12 v0 3 x2).bind fun σ3 =>
some σ3
set_option maxRecDepth 100000 in
set_option maxHeartbeats 4000000 in
theorem r_M_wrong_22 {X : zCX} (o : zOK X "WantShelvesModel" c_M_wrong n_M_wrong 1) {σ : zSt} {v0 : Nat} {s0 : Int32} {s1 : Nat} {z : zSt} (h : f_M_wrong_22 σ v0 s0 s1 = some z) (hr : zRX X 0 0 none z) : zPJ X 0 0 22 [(0, .ref v0)] [.int s0, .ref s1] σ := by
  unfold f_M_wrong_22 at h
  obtain ⟨σ1, e_σ1, h⟩ := zbd h
  refine zj_pI o (zdd k_M_wrong 12 rfl) fl_M_188 rfl rfl e_σ1 ?_
  refine zj_aload_n o (zdd k_M_wrong 13 rfl) rfl 0 rfl ?_
  refine zj_aload_n o (zdd k_M_wrong 14 rfl) rfl 0 rfl ?_
  obtain ⟨x2, e_x2, h⟩ := zbd h
  refine zj_gI o (zdd k_M_wrong 15 rfl) fl_M_165 rfl e_x2 ?_
  obtain ⟨σ3, e_σ3, h⟩ := zbd h
  refine zj_pI o (zdd k_M_wrong 16 rfl) fl_M_13 rfl rfl e_σ3 ?_
  cases h
  exact zr_v o hr (zdd k_M_wrong 17 rfl)
def f_M_wrong (σ : zSt) (t : Nat) (p0 : Int32) : Option (zSt) :=
zg σ 12 t (
(zgI σ 12 t 2).bind fun x1 =>
if x1 ≤ 0 then (
(zgI σ 12 t 6).bind fun x2 =>
if x2 = 3 then (
f_M_wrong_22 σ t 1 t) else
f_M_wrong_22 σ t p0 t) else
some σ)
set_option maxRecDepth 100000 in
set_option maxHeartbeats 4000000 in
theorem m_M_wrong {l : Launch} {b : Nat} {ex : Nat → Value} {D : va_G} {ca : Nat → ClassId} {σ : zSt} {t : Nat} {p0 : Int32} {z : zSt} (h : f_M_wrong σ t p0 = some z) : zMT l b ex D ca 1 y_M_wrong c_M_wrong n_M_wrong r_ret_M_wrong [.ref t, .int p0] σ none z 0 0 := by
  obtain ⟨_, hg0⟩ := zg_some h
  have h := hg0
  refine zmt_of (by decide) (Nat.le_of_ble_eq_true rfl) rfl (fun X o hin hrm _ _ _ _ _ hr => ?_)
  have hr := hr 0 0 (by decide) (by decide)
  have o : zOK X "WantShelvesModel" c_M_wrong n_M_wrong 1 := o
  change zPJ X 0 0 0 [(0, .ref t), (1, .int p0)] [] σ
  refine zj_aload_n o (zdd k_M_wrong 0 rfl) rfl 0 rfl ?_
  obtain ⟨x1, e_x1, h⟩ := zbd h
  refine zj_gI o (zdd k_M_wrong 1 rfl) fl_M_188 rfl e_x1 ?_
  refine zj_if_le (tgt := 8) o (zdd k_M_wrong 2 rfl) (by decide) (fun hc => ?_) (fun hc => ?_)
  · rw [if_pos hc] at h
    refine zj_aload_n o (zdd k_M_wrong 4 rfl) rfl 0 rfl ?_
    refine zj_aload_n o (zdd k_M_wrong 5 rfl) rfl 0 rfl ?_
    obtain ⟨x2, e_x2, h⟩ := zbd h
    refine zj_gI o (zdd k_M_wrong 6 rfl) fl_M_175 rfl e_x2 ?_
    refine zj_iconst o (zdd k_M_wrong 7 rfl) zki_3 ?_
    refine zj_icmp_ne (tgt := 21) o (zdd k_M_wrong 8 rfl) (by decide) (fun hc => ?_) (fun hc => ?_)
    · rw [if_neg hc] at h
      refine zj_iload_n o (zdd k_M_wrong 11 rfl) rfl 1 rfl ?_
      exact zj_sub [0] rfl (r_M_wrong_22 o  h hr)
    · rw [if_pos hc] at h
      refine zj_iconst o (zdd k_M_wrong 9 rfl) zki_1 ?_
      refine zj_goto (tgt := 22) o (zdd k_M_wrong 10 rfl) (by decide) ?_
      exact zj_sub [0] rfl (r_M_wrong_22 o  h hr)
  · rw [if_neg hc] at h
    cases h
    exact zr_v o hr (zdd k_M_wrong 3 rfl)
def f_M_wrongAt (σ : zSt) (t : Nat) (p0 : Int32) (p1 : Int32) : Option (zSt) :=
zg σ 12 t (
(zgI σ 12 t 2).bind fun x1 =>
if x1 ≤ 0 then (
(zsI σ 12 t 2 p0).bind fun σ2 =>
(zsI σ2 12 t 3 p1).bind fun σ3 =>
some σ3) else
some σ)
set_option maxRecDepth 100000 in
set_option maxHeartbeats 4000000 in
theorem m_M_wrongAt {l : Launch} {b : Nat} {ex : Nat → Value} {D : va_G} {ca : Nat → ClassId} {σ : zSt} {t : Nat} {p0 : Int32} {p1 : Int32} {z : zSt} (h : f_M_wrongAt σ t p0 p1 = some z) : zMT l b ex D ca 1 y_M_wrongAt c_M_wrongAt n_M_wrongAt r_ret_M_wrongAt [.ref t, .int p0, .int p1] σ none z 0 0 := by
  obtain ⟨_, hg0⟩ := zg_some h
  have h := hg0
  refine zmt_of (by decide) (Nat.le_of_ble_eq_true rfl) rfl (fun X o hin hrm _ _ _ _ _ hr => ?_)
  have hr := hr 0 0 (by decide) (by decide)
  have o : zOK X "WantShelvesModel" c_M_wrongAt n_M_wrongAt 1 := o
  change zPJ X 0 0 0 [(0, .ref t), (1, .int p0), (2, .int p1)] [] σ
  refine zj_aload_n o (zdd k_M_wrongAt 0 rfl) rfl 0 rfl ?_
  obtain ⟨x1, e_x1, h⟩ := zbd h
  refine zj_gI o (zdd k_M_wrongAt 1 rfl) fl_M_188 rfl e_x1 ?_
  refine zj_if_le (tgt := 8) o (zdd k_M_wrongAt 2 rfl) (by decide) (fun hc => ?_) (fun hc => ?_)
  · rw [if_pos hc] at h
    refine zj_aload_n o (zdd k_M_wrongAt 4 rfl) rfl 0 rfl ?_
    refine zj_iload_n o (zdd k_M_wrongAt 5 rfl) rfl 1 rfl ?_
    obtain ⟨σ2, e_σ2, h⟩ := zbd h
    refine zj_pI o (zdd k_M_wrongAt 6 rfl) fl_M_188 rfl rfl e_σ2 ?_
    refine zj_aload_n o (zdd k_M_wrongAt 7 rfl) rfl 0 rfl ?_
    refine zj_iload_n o (zdd k_M_wrongAt 8 rfl) rfl 2 rfl ?_
    obtain ⟨σ3, e_σ3, h⟩ := zbd h
    refine zj_pI o (zdd k_M_wrongAt 9 rfl) fl_M_13 rfl rfl e_σ3 ?_
    cases h
    exact zr_v o hr (zdd k_M_wrongAt 10 rfl)
  · rw [if_neg hc] at h
    cases h
    exact zr_v o hr (zdd k_M_wrongAt 3 rfl)
def f_M_isWord (σ : zSt) (t : Nat) (p0 : Int64) : Option (Int32) :=
zg σ 12 t (
((zgI σ 12 t 6).bind fun x1 =>
if x1 = 1 then (
(zgJ σ 12 t 9).bind fun x2 =>
if lg_cmp x2 p0 = 0 then (
some 1) else
some 0) else
some 0).bind zbool)
set_option maxRecDepth 100000 in
set_option maxHeartbeats 4000000 in
theorem m_M_isWord {l : Launch} {b : Nat} {ex : Nat → Value} {D : va_G} {ca : Nat → ClassId} {σ : zSt} {t : Nat} {p0 : Int64} {z : Int32} (h : f_M_isWord σ t p0 = some z) : zMT l b ex D ca 1 y_M_isWord c_M_isWord n_M_isWord r_ret_M_isWord [.ref t, .long p0] σ (some (.int z)) σ 0 0 := by
  obtain ⟨_, hg0⟩ := zg_some h
  obtain ⟨z0, hbd, hz⟩ := zbd hg0
  obtain ⟨hzb, rfl⟩ := zbool_some hz
  have h := hbd
  refine zmt_of (by decide) (Nat.le_of_ble_eq_true rfl) ⟨.boolean, rfl, zb_nar hzb⟩ (fun X o hin hrm _ _ _ _ _ hr => ?_)
  have hr := hr 0 0 (by decide) (by decide)
  have o : zOK X "WantShelvesModel" c_M_isWord n_M_isWord 1 := o
  change zPJ X 0 0 0 [(0, .ref t), (1, .long p0)] [] σ
  refine zj_aload_n o (zdd k_M_isWord 0 rfl) rfl 0 rfl ?_
  obtain ⟨x1, e_x1, h⟩ := zbd h
  refine zj_gI o (zdd k_M_isWord 1 rfl) fl_M_175 rfl e_x1 ?_
  refine zj_iconst o (zdd k_M_isWord 2 rfl) zki_1 ?_
  refine zj_icmp_ne (tgt := 21) o (zdd k_M_isWord 3 rfl) (by decide) (fun hc => ?_) (fun hc => ?_)
  · rw [if_neg hc] at h
    refine zj_iconst o (zdd k_M_isWord 11 rfl) zki_0 ?_
    cases h
    exact zr_i o hr (zdd k_M_isWord 12 rfl)
  · rw [if_pos hc] at h
    refine zj_aload_n o (zdd k_M_isWord 4 rfl) rfl 0 rfl ?_
    obtain ⟨x2, e_x2, h⟩ := zbd h
    refine zj_gJ o (zdd k_M_isWord 5 rfl) fl_M_168 rfl e_x2 ?_
    refine zj_lload_n o (zdd k_M_isWord 6 rfl) rfl 1 rfl ?_
    refine zj_lcmp o (zdd k_M_isWord 7 rfl) ?_
    refine zj_if_ne (tgt := 21) o (zdd k_M_isWord 8 rfl) (by decide) (fun hc => ?_) (fun hc => ?_)
    · rw [if_neg hc] at h
      refine zj_iconst o (zdd k_M_isWord 11 rfl) zki_0 ?_
      cases h
      exact zr_i o hr (zdd k_M_isWord 12 rfl)
    · rw [if_pos hc] at h
      refine zj_iconst o (zdd k_M_isWord 9 rfl) zki_1 ?_
      refine zj_goto (tgt := 22) o (zdd k_M_isWord 10 rfl) (by decide) ?_
      cases h
      exact zr_i o hr (zdd k_M_isWord 12 rfl)
def f_M_isOwn (σ : zSt) (t : Nat) : Option (Int32) :=
zg σ 12 t (
((zgJ σ 12 t 9).bind fun x1 =>
if lg_cmp x1 500085844323 = 0 then (
some 1) else
(zgJ σ 12 t 9).bind fun x2 =>
if lg_cmp x2 1651470187 = 0 then (
some 1) else
(zgJ σ 12 t 9).bind fun x3 =>
if lg_cmp x3 125779751232882 = 0 then (
some 1) else
(zgJ σ 12 t 9).bind fun x4 =>
if lg_cmp x4 1868850291 = 0 then (
some 1) else
(zgJ σ 12 t 9).bind fun x5 =>
if lg_cmp x5 512735736947 = 0 then (
some 1) else
(zgJ σ 12 t 9).bind fun x6 =>
if lg_cmp x6 478711081076 = 0 then (
some 1) else
(zgJ σ 12 t 9).bind fun x7 =>
if lg_cmp x7 7102839 = 0 then (
some 1) else
(zgJ σ 12 t 9).bind fun x8 =>
if lg_cmp x8 1650814564 = 0 then (
some 1) else
(zgJ σ 12 t 9).bind fun x9 =>
if lg_cmp x9 31935733760681324 = 0 then (
some 1) else
(zgJ σ 12 t 9).bind fun x10 =>
if lg_cmp x10 7566701 = 0 then (
some 1) else
(zgJ σ 12 t 9).bind fun x11 =>
if lg_cmp x11 465557353332 = 0 then (
some 1) else
(zgJ σ 12 t 9).bind fun x12 =>
if lg_cmp x12 1836020596 = 0 then (
some 1) else
(zgJ σ 12 t 9).bind fun x13 =>
if lg_cmp x13 500186639987 = 0 then (
some 1) else
(zgJ σ 12 t 9).bind fun x14 =>
if lg_cmp x14 495672716390 = 0 then (
some 1) else
(zgJ σ 12 t 9).bind fun x15 =>
if lg_cmp x15 1836019556 = 0 then (
some 1) else
(zgJ σ 12 t 9).bind fun x16 =>
if lg_cmp x16 2002873972 = 0 then (
some 1) else
(zgJ σ 12 t 9).bind fun x17 =>
if lg_cmp x17 7302244 = 0 then (
some 1) else
(zgJ σ 12 t 9).bind fun x18 =>
if lg_cmp x18 131277443786868 = 0 then (
some 1) else
(zgJ σ 12 t 9).bind fun x19 =>
if lg_cmp x19 491327153267 = 0 then (
some 1) else
(zgJ σ 12 t 9).bind fun x20 =>
if lg_cmp x20 121450625394034 = 0 then (
some 1) else
(zgJ σ 12 t 9).bind fun x21 =>
if lg_cmp x21 6385252 = 0 then (
some 1) else
(zgJ σ 12 t 9).bind fun x22 =>
if lg_cmp x22 28530 = 0 then (
some 1) else
(zgJ σ 12 t 9).bind fun x23 =>
if lg_cmp x23 7237492 = 0 then (
some 1) else
some 0).bind zbool)
set_option maxRecDepth 100000 in
set_option maxHeartbeats 4000000 in
theorem m_M_isOwn {l : Launch} {b : Nat} {ex : Nat → Value} {D : va_G} {ca : Nat → ClassId} {σ : zSt} {t : Nat} {z : Int32} (h : f_M_isOwn σ t = some z) : zMT l b ex D ca 1 y_M_isOwn c_M_isOwn n_M_isOwn r_ret_M_isOwn [.ref t] σ (some (.int z)) σ 0 0 := by
  obtain ⟨_, hg0⟩ := zg_some h
  obtain ⟨z0, hbd, hz⟩ := zbd hg0
  obtain ⟨hzb, rfl⟩ := zbool_some hz
  have h := hbd
  refine zmt_of (by decide) (Nat.le_of_ble_eq_true rfl) ⟨.boolean, rfl, zb_nar hzb⟩ (fun X o hin hrm _ _ _ _ _ hr => ?_)
  have hr := hr 0 0 (by decide) (by decide)
  have o : zOK X "WantShelvesModel" c_M_isOwn n_M_isOwn 1 := o
  change zPJ X 0 0 0 [(0, .ref t)] [] σ
  refine zj_aload_n o (zdd k_M_isOwn 0 rfl) rfl 0 rfl ?_
  obtain ⟨x1, e_x1, h⟩ := zbd h
  refine zj_gJ o (zdd k_M_isOwn 1 rfl) fl_M_168 rfl e_x1 ?_
  refine zj_ldc2 o (zdd k_M_isOwn 2 rfl) lc_M_191 ?_
  refine zj_lcmp o (zdd k_M_isOwn 3 rfl) ?_
  refine zj_if_eq (tgt := 253) o (zdd k_M_isOwn 4 rfl) (by decide) (fun hc => ?_) (fun hc => ?_)
  · rw [if_pos hc] at h
    refine zj_iconst o (zdd k_M_isOwn 115 rfl) zki_1 ?_
    refine zj_goto (tgt := 258) o (zdd k_M_isOwn 116 rfl) (by decide) ?_
    cases h
    exact zr_i o hr (zdd k_M_isOwn 118 rfl)
  · rw [if_neg hc] at h
    refine zj_aload_n o (zdd k_M_isOwn 5 rfl) rfl 0 rfl ?_
    obtain ⟨x2, e_x2, h⟩ := zbd h
    refine zj_gJ o (zdd k_M_isOwn 6 rfl) fl_M_168 rfl e_x2 ?_
    refine zj_ldc2 o (zdd k_M_isOwn 7 rfl) lc_M_193 ?_
    refine zj_lcmp o (zdd k_M_isOwn 8 rfl) ?_
    refine zj_if_eq (tgt := 253) o (zdd k_M_isOwn 9 rfl) (by decide) (fun hc => ?_) (fun hc => ?_)
    · rw [if_pos hc] at h
      refine zj_iconst o (zdd k_M_isOwn 115 rfl) zki_1 ?_
      refine zj_goto (tgt := 258) o (zdd k_M_isOwn 116 rfl) (by decide) ?_
      cases h
      exact zr_i o hr (zdd k_M_isOwn 118 rfl)
    · rw [if_neg hc] at h
      refine zj_aload_n o (zdd k_M_isOwn 10 rfl) rfl 0 rfl ?_
      obtain ⟨x3, e_x3, h⟩ := zbd h
      refine zj_gJ o (zdd k_M_isOwn 11 rfl) fl_M_168 rfl e_x3 ?_
      refine zj_ldc2 o (zdd k_M_isOwn 12 rfl) lc_M_195 ?_
      refine zj_lcmp o (zdd k_M_isOwn 13 rfl) ?_
      refine zj_if_eq (tgt := 253) o (zdd k_M_isOwn 14 rfl) (by decide) (fun hc => ?_) (fun hc => ?_)
      · rw [if_pos hc] at h
        refine zj_iconst o (zdd k_M_isOwn 115 rfl) zki_1 ?_
        refine zj_goto (tgt := 258) o (zdd k_M_isOwn 116 rfl) (by decide) ?_
        cases h
        exact zr_i o hr (zdd k_M_isOwn 118 rfl)
      · rw [if_neg hc] at h
        refine zj_aload_n o (zdd k_M_isOwn 15 rfl) rfl 0 rfl ?_
        obtain ⟨x4, e_x4, h⟩ := zbd h
        refine zj_gJ o (zdd k_M_isOwn 16 rfl) fl_M_168 rfl e_x4 ?_
        refine zj_ldc2 o (zdd k_M_isOwn 17 rfl) lc_M_197 ?_
        refine zj_lcmp o (zdd k_M_isOwn 18 rfl) ?_
        refine zj_if_eq (tgt := 253) o (zdd k_M_isOwn 19 rfl) (by decide) (fun hc => ?_) (fun hc => ?_)
        · rw [if_pos hc] at h
          refine zj_iconst o (zdd k_M_isOwn 115 rfl) zki_1 ?_
          refine zj_goto (tgt := 258) o (zdd k_M_isOwn 116 rfl) (by decide) ?_
          cases h
          exact zr_i o hr (zdd k_M_isOwn 118 rfl)
        · rw [if_neg hc] at h
          refine zj_aload_n o (zdd k_M_isOwn 20 rfl) rfl 0 rfl ?_
          obtain ⟨x5, e_x5, h⟩ := zbd h
          refine zj_gJ o (zdd k_M_isOwn 21 rfl) fl_M_168 rfl e_x5 ?_
          refine zj_ldc2 o (zdd k_M_isOwn 22 rfl) lc_M_199 ?_
          refine zj_lcmp o (zdd k_M_isOwn 23 rfl) ?_
          refine zj_if_eq (tgt := 253) o (zdd k_M_isOwn 24 rfl) (by decide) (fun hc => ?_) (fun hc => ?_)
          · rw [if_pos hc] at h
            refine zj_iconst o (zdd k_M_isOwn 115 rfl) zki_1 ?_
            refine zj_goto (tgt := 258) o (zdd k_M_isOwn 116 rfl) (by decide) ?_
            cases h
            exact zr_i o hr (zdd k_M_isOwn 118 rfl)
          · rw [if_neg hc] at h
            refine zj_aload_n o (zdd k_M_isOwn 25 rfl) rfl 0 rfl ?_
            obtain ⟨x6, e_x6, h⟩ := zbd h
            refine zj_gJ o (zdd k_M_isOwn 26 rfl) fl_M_168 rfl e_x6 ?_
            refine zj_ldc2 o (zdd k_M_isOwn 27 rfl) lc_M_201 ?_
            refine zj_lcmp o (zdd k_M_isOwn 28 rfl) ?_
            refine zj_if_eq (tgt := 253) o (zdd k_M_isOwn 29 rfl) (by decide) (fun hc => ?_) (fun hc => ?_)
            · rw [if_pos hc] at h
              refine zj_iconst o (zdd k_M_isOwn 115 rfl) zki_1 ?_
              refine zj_goto (tgt := 258) o (zdd k_M_isOwn 116 rfl) (by decide) ?_
              cases h
              exact zr_i o hr (zdd k_M_isOwn 118 rfl)
            · rw [if_neg hc] at h
              refine zj_aload_n o (zdd k_M_isOwn 30 rfl) rfl 0 rfl ?_
              obtain ⟨x7, e_x7, h⟩ := zbd h
              refine zj_gJ o (zdd k_M_isOwn 31 rfl) fl_M_168 rfl e_x7 ?_
              refine zj_ldc2 o (zdd k_M_isOwn 32 rfl) lc_M_203 ?_
              refine zj_lcmp o (zdd k_M_isOwn 33 rfl) ?_
              refine zj_if_eq (tgt := 253) o (zdd k_M_isOwn 34 rfl) (by decide) (fun hc => ?_) (fun hc => ?_)
              · rw [if_pos hc] at h
                refine zj_iconst o (zdd k_M_isOwn 115 rfl) zki_1 ?_
                refine zj_goto (tgt := 258) o (zdd k_M_isOwn 116 rfl) (by decide) ?_
                cases h
                exact zr_i o hr (zdd k_M_isOwn 118 rfl)
              · rw [if_neg hc] at h
                refine zj_aload_n o (zdd k_M_isOwn 35 rfl) rfl 0 rfl ?_
                obtain ⟨x8, e_x8, h⟩ := zbd h
                refine zj_gJ o (zdd k_M_isOwn 36 rfl) fl_M_168 rfl e_x8 ?_
                refine zj_ldc2 o (zdd k_M_isOwn 37 rfl) lc_M_205 ?_
                refine zj_lcmp o (zdd k_M_isOwn 38 rfl) ?_
                refine zj_if_eq (tgt := 253) o (zdd k_M_isOwn 39 rfl) (by decide) (fun hc => ?_) (fun hc => ?_)
                · rw [if_pos hc] at h
                  refine zj_iconst o (zdd k_M_isOwn 115 rfl) zki_1 ?_
                  refine zj_goto (tgt := 258) o (zdd k_M_isOwn 116 rfl) (by decide) ?_
                  cases h
                  exact zr_i o hr (zdd k_M_isOwn 118 rfl)
                · rw [if_neg hc] at h
                  refine zj_aload_n o (zdd k_M_isOwn 40 rfl) rfl 0 rfl ?_
                  obtain ⟨x9, e_x9, h⟩ := zbd h
                  refine zj_gJ o (zdd k_M_isOwn 41 rfl) fl_M_168 rfl e_x9 ?_
                  refine zj_ldc2 o (zdd k_M_isOwn 42 rfl) lc_M_207 ?_
                  refine zj_lcmp o (zdd k_M_isOwn 43 rfl) ?_
                  refine zj_if_eq (tgt := 253) o (zdd k_M_isOwn 44 rfl) (by decide) (fun hc => ?_) (fun hc => ?_)
                  · rw [if_pos hc] at h
                    refine zj_iconst o (zdd k_M_isOwn 115 rfl) zki_1 ?_
                    refine zj_goto (tgt := 258) o (zdd k_M_isOwn 116 rfl) (by decide) ?_
                    cases h
                    exact zr_i o hr (zdd k_M_isOwn 118 rfl)
                  · rw [if_neg hc] at h
                    refine zj_aload_n o (zdd k_M_isOwn 45 rfl) rfl 0 rfl ?_
                    obtain ⟨x10, e_x10, h⟩ := zbd h
                    refine zj_gJ o (zdd k_M_isOwn 46 rfl) fl_M_168 rfl e_x10 ?_
                    refine zj_ldc2 o (zdd k_M_isOwn 47 rfl) lc_M_209 ?_
                    refine zj_lcmp o (zdd k_M_isOwn 48 rfl) ?_
                    refine zj_if_eq (tgt := 253) o (zdd k_M_isOwn 49 rfl) (by decide) (fun hc => ?_) (fun hc => ?_)
                    · rw [if_pos hc] at h
                      refine zj_iconst o (zdd k_M_isOwn 115 rfl) zki_1 ?_
                      refine zj_goto (tgt := 258) o (zdd k_M_isOwn 116 rfl) (by decide) ?_
                      cases h
                      exact zr_i o hr (zdd k_M_isOwn 118 rfl)
                    · rw [if_neg hc] at h
                      refine zj_aload_n o (zdd k_M_isOwn 50 rfl) rfl 0 rfl ?_
                      obtain ⟨x11, e_x11, h⟩ := zbd h
                      refine zj_gJ o (zdd k_M_isOwn 51 rfl) fl_M_168 rfl e_x11 ?_
                      refine zj_ldc2 o (zdd k_M_isOwn 52 rfl) lc_M_211 ?_
                      refine zj_lcmp o (zdd k_M_isOwn 53 rfl) ?_
                      refine zj_if_eq (tgt := 253) o (zdd k_M_isOwn 54 rfl) (by decide) (fun hc => ?_) (fun hc => ?_)
                      · rw [if_pos hc] at h
                        refine zj_iconst o (zdd k_M_isOwn 115 rfl) zki_1 ?_
                        refine zj_goto (tgt := 258) o (zdd k_M_isOwn 116 rfl) (by decide) ?_
                        cases h
                        exact zr_i o hr (zdd k_M_isOwn 118 rfl)
                      · rw [if_neg hc] at h
                        refine zj_aload_n o (zdd k_M_isOwn 55 rfl) rfl 0 rfl ?_
                        obtain ⟨x12, e_x12, h⟩ := zbd h
                        refine zj_gJ o (zdd k_M_isOwn 56 rfl) fl_M_168 rfl e_x12 ?_
                        refine zj_ldc2 o (zdd k_M_isOwn 57 rfl) lc_M_213 ?_
                        refine zj_lcmp o (zdd k_M_isOwn 58 rfl) ?_
                        refine zj_if_eq (tgt := 253) o (zdd k_M_isOwn 59 rfl) (by decide) (fun hc => ?_) (fun hc => ?_)
                        · rw [if_pos hc] at h
                          refine zj_iconst o (zdd k_M_isOwn 115 rfl) zki_1 ?_
                          refine zj_goto (tgt := 258) o (zdd k_M_isOwn 116 rfl) (by decide) ?_
                          cases h
                          exact zr_i o hr (zdd k_M_isOwn 118 rfl)
                        · rw [if_neg hc] at h
                          refine zj_aload_n o (zdd k_M_isOwn 60 rfl) rfl 0 rfl ?_
                          obtain ⟨x13, e_x13, h⟩ := zbd h
                          refine zj_gJ o (zdd k_M_isOwn 61 rfl) fl_M_168 rfl e_x13 ?_
                          refine zj_ldc2 o (zdd k_M_isOwn 62 rfl) lc_M_215 ?_
                          refine zj_lcmp o (zdd k_M_isOwn 63 rfl) ?_
                          refine zj_if_eq (tgt := 253) o (zdd k_M_isOwn 64 rfl) (by decide) (fun hc => ?_) (fun hc => ?_)
                          · rw [if_pos hc] at h
                            refine zj_iconst o (zdd k_M_isOwn 115 rfl) zki_1 ?_
                            refine zj_goto (tgt := 258) o (zdd k_M_isOwn 116 rfl) (by decide) ?_
                            cases h
                            exact zr_i o hr (zdd k_M_isOwn 118 rfl)
                          · rw [if_neg hc] at h
                            refine zj_aload_n o (zdd k_M_isOwn 65 rfl) rfl 0 rfl ?_
                            obtain ⟨x14, e_x14, h⟩ := zbd h
                            refine zj_gJ o (zdd k_M_isOwn 66 rfl) fl_M_168 rfl e_x14 ?_
                            refine zj_ldc2 o (zdd k_M_isOwn 67 rfl) lc_M_217 ?_
                            refine zj_lcmp o (zdd k_M_isOwn 68 rfl) ?_
                            refine zj_if_eq (tgt := 253) o (zdd k_M_isOwn 69 rfl) (by decide) (fun hc => ?_) (fun hc => ?_)
                            · rw [if_pos hc] at h
                              refine zj_iconst o (zdd k_M_isOwn 115 rfl) zki_1 ?_
                              refine zj_goto (tgt := 258) o (zdd k_M_isOwn 116 rfl) (by decide) ?_
                              cases h
                              exact zr_i o hr (zdd k_M_isOwn 118 rfl)
                            · rw [if_neg hc] at h
                              refine zj_aload_n o (zdd k_M_isOwn 70 rfl) rfl 0 rfl ?_
                              obtain ⟨x15, e_x15, h⟩ := zbd h
                              refine zj_gJ o (zdd k_M_isOwn 71 rfl) fl_M_168 rfl e_x15 ?_
                              refine zj_ldc2 o (zdd k_M_isOwn 72 rfl) lc_M_219 ?_
                              refine zj_lcmp o (zdd k_M_isOwn 73 rfl) ?_
                              refine zj_if_eq (tgt := 253) o (zdd k_M_isOwn 74 rfl) (by decide) (fun hc => ?_) (fun hc => ?_)
                              · rw [if_pos hc] at h
                                refine zj_iconst o (zdd k_M_isOwn 115 rfl) zki_1 ?_
                                refine zj_goto (tgt := 258) o (zdd k_M_isOwn 116 rfl) (by decide) ?_
                                cases h
                                exact zr_i o hr (zdd k_M_isOwn 118 rfl)
                              · rw [if_neg hc] at h
                                refine zj_aload_n o (zdd k_M_isOwn 75 rfl) rfl 0 rfl ?_
                                obtain ⟨x16, e_x16, h⟩ := zbd h
                                refine zj_gJ o (zdd k_M_isOwn 76 rfl) fl_M_168 rfl e_x16 ?_
                                refine zj_ldc2 o (zdd k_M_isOwn 77 rfl) lc_M_221 ?_
                                refine zj_lcmp o (zdd k_M_isOwn 78 rfl) ?_
                                refine zj_if_eq (tgt := 253) o (zdd k_M_isOwn 79 rfl) (by decide) (fun hc => ?_) (fun hc => ?_)
                                · rw [if_pos hc] at h
                                  refine zj_iconst o (zdd k_M_isOwn 115 rfl) zki_1 ?_
                                  refine zj_goto (tgt := 258) o (zdd k_M_isOwn 116 rfl) (by decide) ?_
                                  cases h
                                  exact zr_i o hr (zdd k_M_isOwn 118 rfl)
                                · rw [if_neg hc] at h
                                  refine zj_aload_n o (zdd k_M_isOwn 80 rfl) rfl 0 rfl ?_
                                  obtain ⟨x17, e_x17, h⟩ := zbd h
                                  refine zj_gJ o (zdd k_M_isOwn 81 rfl) fl_M_168 rfl e_x17 ?_
                                  refine zj_ldc2 o (zdd k_M_isOwn 82 rfl) lc_M_223 ?_
                                  refine zj_lcmp o (zdd k_M_isOwn 83 rfl) ?_
                                  refine zj_if_eq (tgt := 253) o (zdd k_M_isOwn 84 rfl) (by decide) (fun hc => ?_) (fun hc => ?_)
                                  · rw [if_pos hc] at h
                                    refine zj_iconst o (zdd k_M_isOwn 115 rfl) zki_1 ?_
                                    refine zj_goto (tgt := 258) o (zdd k_M_isOwn 116 rfl) (by decide) ?_
                                    cases h
                                    exact zr_i o hr (zdd k_M_isOwn 118 rfl)
                                  · rw [if_neg hc] at h
                                    refine zj_aload_n o (zdd k_M_isOwn 85 rfl) rfl 0 rfl ?_
                                    obtain ⟨x18, e_x18, h⟩ := zbd h
                                    refine zj_gJ o (zdd k_M_isOwn 86 rfl) fl_M_168 rfl e_x18 ?_
                                    refine zj_ldc2 o (zdd k_M_isOwn 87 rfl) lc_M_225 ?_
                                    refine zj_lcmp o (zdd k_M_isOwn 88 rfl) ?_
                                    refine zj_if_eq (tgt := 253) o (zdd k_M_isOwn 89 rfl) (by decide) (fun hc => ?_) (fun hc => ?_)
                                    · rw [if_pos hc] at h
                                      refine zj_iconst o (zdd k_M_isOwn 115 rfl) zki_1 ?_
                                      refine zj_goto (tgt := 258) o (zdd k_M_isOwn 116 rfl) (by decide) ?_
                                      cases h
                                      exact zr_i o hr (zdd k_M_isOwn 118 rfl)
                                    · rw [if_neg hc] at h
                                      refine zj_aload_n o (zdd k_M_isOwn 90 rfl) rfl 0 rfl ?_
                                      obtain ⟨x19, e_x19, h⟩ := zbd h
                                      refine zj_gJ o (zdd k_M_isOwn 91 rfl) fl_M_168 rfl e_x19 ?_
                                      refine zj_ldc2 o (zdd k_M_isOwn 92 rfl) lc_M_227 ?_
                                      refine zj_lcmp o (zdd k_M_isOwn 93 rfl) ?_
                                      refine zj_if_eq (tgt := 253) o (zdd k_M_isOwn 94 rfl) (by decide) (fun hc => ?_) (fun hc => ?_)
                                      · rw [if_pos hc] at h
                                        refine zj_iconst o (zdd k_M_isOwn 115 rfl) zki_1 ?_
                                        refine zj_goto (tgt := 258) o (zdd k_M_isOwn 116 rfl) (by decide) ?_
                                        cases h
                                        exact zr_i o hr (zdd k_M_isOwn 118 rfl)
                                      · rw [if_neg hc] at h
                                        refine zj_aload_n o (zdd k_M_isOwn 95 rfl) rfl 0 rfl ?_
                                        obtain ⟨x20, e_x20, h⟩ := zbd h
                                        refine zj_gJ o (zdd k_M_isOwn 96 rfl) fl_M_168 rfl e_x20 ?_
                                        refine zj_ldc2 o (zdd k_M_isOwn 97 rfl) lc_M_229 ?_
                                        refine zj_lcmp o (zdd k_M_isOwn 98 rfl) ?_
                                        refine zj_if_eq (tgt := 253) o (zdd k_M_isOwn 99 rfl) (by decide) (fun hc => ?_) (fun hc => ?_)
                                        · rw [if_pos hc] at h
                                          refine zj_iconst o (zdd k_M_isOwn 115 rfl) zki_1 ?_
                                          refine zj_goto (tgt := 258) o (zdd k_M_isOwn 116 rfl) (by decide) ?_
                                          cases h
                                          exact zr_i o hr (zdd k_M_isOwn 118 rfl)
                                        · rw [if_neg hc] at h
                                          refine zj_aload_n o (zdd k_M_isOwn 100 rfl) rfl 0 rfl ?_
                                          obtain ⟨x21, e_x21, h⟩ := zbd h
                                          refine zj_gJ o (zdd k_M_isOwn 101 rfl) fl_M_168 rfl e_x21 ?_
                                          refine zj_ldc2 o (zdd k_M_isOwn 102 rfl) lc_M_231 ?_
                                          refine zj_lcmp o (zdd k_M_isOwn 103 rfl) ?_
                                          refine zj_if_eq (tgt := 253) o (zdd k_M_isOwn 104 rfl) (by decide) (fun hc => ?_) (fun hc => ?_)
                                          · rw [if_pos hc] at h
                                            refine zj_iconst o (zdd k_M_isOwn 115 rfl) zki_1 ?_
                                            refine zj_goto (tgt := 258) o (zdd k_M_isOwn 116 rfl) (by decide) ?_
                                            cases h
                                            exact zr_i o hr (zdd k_M_isOwn 118 rfl)
                                          · rw [if_neg hc] at h
                                            refine zj_aload_n o (zdd k_M_isOwn 105 rfl) rfl 0 rfl ?_
                                            obtain ⟨x22, e_x22, h⟩ := zbd h
                                            refine zj_gJ o (zdd k_M_isOwn 106 rfl) fl_M_168 rfl e_x22 ?_
                                            refine zj_ldc2 o (zdd k_M_isOwn 107 rfl) lc_M_233 ?_
                                            refine zj_lcmp o (zdd k_M_isOwn 108 rfl) ?_
                                            refine zj_if_eq (tgt := 253) o (zdd k_M_isOwn 109 rfl) (by decide) (fun hc => ?_) (fun hc => ?_)
                                            · rw [if_pos hc] at h
                                              refine zj_iconst o (zdd k_M_isOwn 115 rfl) zki_1 ?_
                                              refine zj_goto (tgt := 258) o (zdd k_M_isOwn 116 rfl) (by decide) ?_
                                              cases h
                                              exact zr_i o hr (zdd k_M_isOwn 118 rfl)
                                            · rw [if_neg hc] at h
                                              refine zj_aload_n o (zdd k_M_isOwn 110 rfl) rfl 0 rfl ?_
                                              obtain ⟨x23, e_x23, h⟩ := zbd h
                                              refine zj_gJ o (zdd k_M_isOwn 111 rfl) fl_M_168 rfl e_x23 ?_
                                              refine zj_ldc2 o (zdd k_M_isOwn 112 rfl) lc_M_235 ?_
                                              refine zj_lcmp o (zdd k_M_isOwn 113 rfl) ?_
                                              refine zj_if_ne (tgt := 257) o (zdd k_M_isOwn 114 rfl) (by decide) (fun hc => ?_) (fun hc => ?_)
                                              · rw [if_neg hc] at h
                                                refine zj_iconst o (zdd k_M_isOwn 117 rfl) zki_0 ?_
                                                cases h
                                                exact zr_i o hr (zdd k_M_isOwn 118 rfl)
                                              · rw [if_pos hc] at h
                                                refine zj_iconst o (zdd k_M_isOwn 115 rfl) zki_1 ?_
                                                refine zj_goto (tgt := 258) o (zdd k_M_isOwn 116 rfl) (by decide) ?_
                                                cases h
                                                exact zr_i o hr (zdd k_M_isOwn 118 rfl)
def f_M_isName (σ : zSt) (t : Nat) : Option (Int32) :=
zg σ 12 t (
((zgI σ 12 t 6).bind fun x1 =>
if x1 = 1 then (
(f_M_isOwn σ t).bind fun x2 =>
if x2 = 0 then (
some 1) else
some 0) else
some 0).bind zbool)
set_option maxRecDepth 100000 in
set_option maxHeartbeats 4000000 in
theorem m_M_isName {l : Launch} {b : Nat} {ex : Nat → Value} {D : va_G} {ca : Nat → ClassId} {σ : zSt} {t : Nat} {z : Int32} (h : f_M_isName σ t = some z) : zMT l b ex D ca 2 y_M_isName c_M_isName n_M_isName r_ret_M_isName [.ref t] σ (some (.int z)) σ 0 0 := by
  obtain ⟨_, hg0⟩ := zg_some h
  obtain ⟨z0, hbd, hz⟩ := zbd hg0
  obtain ⟨hzb, rfl⟩ := zbool_some hz
  have h := hbd
  refine zmt_of (by decide) (Nat.le_of_ble_eq_true rfl) ⟨.boolean, rfl, zb_nar hzb⟩ (fun X o hin hrm _ _ _ _ _ hr => ?_)
  have hr := hr 0 0 (by decide) (by decide)
  have o : zOK X "WantShelvesModel" c_M_isName n_M_isName 2 := o
  change zPJ X 0 0 0 [(0, .ref t)] [] σ
  refine zj_aload_n o (zdd k_M_isName 0 rfl) rfl 0 rfl ?_
  obtain ⟨x1, e_x1, h⟩ := zbd h
  refine zj_gI o (zdd k_M_isName 1 rfl) fl_M_175 rfl e_x1 ?_
  refine zj_iconst o (zdd k_M_isName 2 rfl) zki_1 ?_
  refine zj_icmp_ne (tgt := 19) o (zdd k_M_isName 3 rfl) (by decide) (fun hc => ?_) (fun hc => ?_)
  · rw [if_neg hc] at h
    refine zj_iconst o (zdd k_M_isName 9 rfl) zki_0 ?_
    cases h
    exact zr_i o hr (zdd k_M_isName 10 rfl)
  · rw [if_pos hc] at h
    refine zj_aload_n o (zdd k_M_isName 4 rfl) rfl 0 rfl ?_
    obtain ⟨x2, e_x2, h⟩ := zbd h
    refine zc_V o (zdd k_M_isName 5 rfl) ml_M_237 mv_M_isOwn ⟨rfl, by decide⟩ (zg_some e_x2).1 (by decide) [] [] rfl (Nat.le_of_ble_eq_true rfl) rfl (m_M_isOwn e_x2) ?_
    change zPJ X 0 0 _ _ [.int x2] _
    refine zj_if_ne (tgt := 19) o (zdd k_M_isName 6 rfl) (by decide) (fun hc => ?_) (fun hc => ?_)
    · rw [if_neg hc] at h
      refine zj_iconst o (zdd k_M_isName 9 rfl) zki_0 ?_
      cases h
      exact zr_i o hr (zdd k_M_isName 10 rfl)
    · rw [if_pos hc] at h
      refine zj_iconst o (zdd k_M_isName 7 rfl) zki_1 ?_
      refine zj_goto (tgt := 20) o (zdd k_M_isName 8 rfl) (by decide) ?_
      cases h
      exact zr_i o hr (zdd k_M_isName 10 rfl)
def f_M_want (σ : zSt) (t : Nat) (p0 : Int64) : Option (zSt) :=
zg σ 12 t (
(zgI σ 12 t 2).bind fun x1 =>
if x1 ≤ 0 then (
(f_M_isWord σ t p0).bind fun x2 =>
if x2 = 0 then (
(f_M_wrong σ t 2).bind fun σ4 =>
some σ4) else
(f_M_token σ t).bind fun σ3 =>
some σ3) else
some σ)
set_option maxRecDepth 100000 in
set_option maxHeartbeats 4000000 in
theorem m_M_want {l : Launch} {b : Nat} {ex : Nat → Value} {D : va_G} {ca : Nat → ClassId} {σ : zSt} {t : Nat} {p0 : Int64} {z : zSt} (h : f_M_want σ t p0 = some z) : zMT l b ex D ca 3 y_M_want c_M_want n_M_want r_ret_M_want [.ref t, .long p0] σ none z 0 0 := by
  obtain ⟨_, hg0⟩ := zg_some h
  have h := hg0
  refine zmt_of (by decide) (Nat.le_of_ble_eq_true rfl) rfl (fun X o hin hrm _ _ _ _ _ hr => ?_)
  have hr := hr 0 0 (by decide) (by decide)
  have o : zOK X "WantShelvesModel" c_M_want n_M_want 3 := o
  change zPJ X 0 0 0 [(0, .ref t), (1, .long p0)] [] σ
  refine zj_aload_n o (zdd k_M_want 0 rfl) rfl 0 rfl ?_
  obtain ⟨x1, e_x1, h⟩ := zbd h
  refine zj_gI o (zdd k_M_want 1 rfl) fl_M_188 rfl e_x1 ?_
  refine zj_if_le (tgt := 8) o (zdd k_M_want 2 rfl) (by decide) (fun hc => ?_) (fun hc => ?_)
  · rw [if_pos hc] at h
    refine zj_aload_n o (zdd k_M_want 4 rfl) rfl 0 rfl ?_
    refine zj_lload_n o (zdd k_M_want 5 rfl) rfl 1 rfl ?_
    obtain ⟨x2, e_x2, h⟩ := zbd h
    refine zc_V o (zdd k_M_want 6 rfl) ml_M_241 mv_M_isWord ⟨rfl, by decide⟩ (zg_some e_x2).1 (by decide) [.long p0] [] rfl (Nat.le_of_ble_eq_true rfl) rfl (m_M_isWord e_x2) ?_
    change zPJ X 0 0 _ _ [.int x2] _
    refine zj_if_ne (tgt := 24) o (zdd k_M_want 7 rfl) (by decide) (fun hc => ?_) (fun hc => ?_)
    · rw [if_neg hc] at h
      refine zj_aload_n o (zdd k_M_want 12 rfl) rfl 0 rfl ?_
      obtain ⟨σ3, e_σ3, h⟩ := zbd h
      refine zc_V o (zdd k_M_want 13 rfl) ml_M_248 mv_M_token ⟨rfl, by decide⟩ (zg_some e_σ3).1 (by decide) [] [] rfl (Nat.le_of_ble_eq_true rfl) rfl (m_M_token e_σ3) ?_
      change zPJ X 0 0 _ _ [] _
      cases h
      exact zr_v o hr (zdd k_M_want 14 rfl)
    · rw [if_pos hc] at h
      refine zj_aload_n o (zdd k_M_want 8 rfl) rfl 0 rfl ?_
      refine zj_iconst o (zdd k_M_want 9 rfl) zki_2 ?_
      obtain ⟨σ4, e_σ4, h⟩ := zbd h
      refine zc_V o (zdd k_M_want 10 rfl) ml_M_245 mv_M_wrong ⟨rfl, by decide⟩ (zg_some e_σ4).1 (by decide) [.int 2] [] rfl (Nat.le_of_ble_eq_true rfl) rfl (m_M_wrong e_σ4) ?_
      change zPJ X 0 0 _ _ [] _
      refine zj_goto (tgt := 28) o (zdd k_M_want 11 rfl) (by decide) ?_
      cases h
      exact zr_v o hr (zdd k_M_want 14 rfl)
  · rw [if_neg hc] at h
    cases h
    exact zr_v o hr (zdd k_M_want 3 rfl)
def f_M_toldNumber_46 (σ : zSt) (v0 : Nat) : Option (Int32 × zSt) :=
(zgI σ 12 v0 8).bind fun x1 =>
(zgI σ 12 v0 2).bind fun x2 =>
if x2 = 0 then (
(f_M_token σ v0).bind fun σ3 =>
some (x1, σ3)) else
some (x1, σ)
set_option maxRecDepth 100000 in
set_option maxHeartbeats 4000000 in
theorem r_M_toldNumber_46 {X : zCX} (o : zOK X "WantShelvesModel" c_M_toldNumber n_M_toldNumber 3) {σ : zSt} {v0 : Nat} {z : Int32 × zSt} (h : f_M_toldNumber_46 σ v0 = some z) (hr : zRX X 0 0 (some (.int z.1)) z.2) : zPJ X 0 0 46 [(0, .ref v0)] [] σ := by
  unfold f_M_toldNumber_46 at h
  refine zj_aload_n o (zdd k_M_toldNumber 24 rfl) rfl 0 rfl ?_
  obtain ⟨x1, e_x1, h⟩ := zbd h
  refine zj_gI o (zdd k_M_toldNumber 25 rfl) fl_M_172 rfl e_x1 ?_
  refine zj_istore_n (loc' := [(3, .int x1), (0, .ref v0)]) o (zdd k_M_toldNumber 26 rfl) rfl (by decide) rfl ?_
  refine zj_aload_n o (zdd k_M_toldNumber 27 rfl) rfl 1 rfl ?_
  obtain ⟨x2, e_x2, h⟩ := zbd h
  refine zj_gI o (zdd k_M_toldNumber 28 rfl) fl_M_188 rfl e_x2 ?_
  refine zj_if_ne (tgt := 62) o (zdd k_M_toldNumber 29 rfl) (by decide) (fun hc => ?_) (fun hc => ?_)
  · rw [if_neg hc] at h
    refine zj_iload_n o (zdd k_M_toldNumber 32 rfl) rfl 0 rfl ?_
    cases h
    exact zr_i o hr (zdd k_M_toldNumber 33 rfl)
  · rw [if_pos hc] at h
    refine zj_aload_n o (zdd k_M_toldNumber 30 rfl) rfl 1 rfl ?_
    obtain ⟨σ3, e_σ3, h⟩ := zbd h
    refine zc_V o (zdd k_M_toldNumber 31 rfl) ml_M_248 mv_M_token ⟨rfl, by decide⟩ (zg_some e_σ3).1 (by decide) [] [] rfl (Nat.le_of_ble_eq_true rfl) rfl (m_M_token e_σ3) ?_
    change zPJ X 0 0 _ _ [] _
    refine zj_iload_n o (zdd k_M_toldNumber 32 rfl) rfl 0 rfl ?_
    cases h
    exact zr_i o hr (zdd k_M_toldNumber 33 rfl)
def f_M_toldNumber_41 (σ : zSt) (v0 : Nat) : Option (Int32 × zSt) :=
(f_M_wrong σ v0 4).bind fun σ1 =>
f_M_toldNumber_46 σ1 v0
set_option maxRecDepth 100000 in
set_option maxHeartbeats 4000000 in
theorem r_M_toldNumber_41 {X : zCX} (o : zOK X "WantShelvesModel" c_M_toldNumber n_M_toldNumber 3) {σ : zSt} {v0 : Nat} {z : Int32 × zSt} (h : f_M_toldNumber_41 σ v0 = some z) (hr : zRX X 0 0 (some (.int z.1)) z.2) : zPJ X 0 0 41 [(0, .ref v0)] [] σ := by
  unfold f_M_toldNumber_41 at h
  refine zj_aload_n o (zdd k_M_toldNumber 21 rfl) rfl 0 rfl ?_
  refine zj_iconst o (zdd k_M_toldNumber 22 rfl) zki_4 ?_
  obtain ⟨σ1, e_σ1, h⟩ := zbd h
  refine zc_V o (zdd k_M_toldNumber 23 rfl) ml_M_245 mv_M_wrong ⟨rfl, by decide⟩ (zg_some e_σ1).1 (by decide) [.int 4] [] rfl (Nat.le_of_ble_eq_true rfl) rfl (m_M_wrong e_σ1) ?_
  change zPJ X 0 0 _ _ [] _
  exact zj_sub [0] rfl (r_M_toldNumber_46 o  h hr)
def f_M_toldNumber (σ : zSt) (t : Nat) (p0 : Int32) (p1 : Int32) : Option (Int32 × zSt) :=
zg σ 12 t (
(zgI σ 12 t 2).bind fun x1 =>
if x1 ≤ 0 then (
(zgI σ 12 t 6).bind fun x2 =>
if x2 = 2 then (
(zgI σ 12 t 8).bind fun x3 =>
if x3 < p0 then (
f_M_toldNumber_41 σ t) else
(zgI σ 12 t 8).bind fun x4 =>
if x4 ≤ p1 then (
f_M_toldNumber_46 σ t) else
f_M_toldNumber_41 σ t) else
(f_M_wrong σ t 2).bind fun σ5 =>
f_M_toldNumber_46 σ5 t) else
some (0, σ))
set_option maxRecDepth 100000 in
set_option maxHeartbeats 4000000 in
theorem m_M_toldNumber {l : Launch} {b : Nat} {ex : Nat → Value} {D : va_G} {ca : Nat → ClassId} {σ : zSt} {t : Nat} {p0 : Int32} {p1 : Int32} {z : Int32 × zSt} (h : f_M_toldNumber σ t p0 p1 = some z) : zMT l b ex D ca 3 y_M_toldNumber c_M_toldNumber n_M_toldNumber r_ret_M_toldNumber [.ref t, .int p0, .int p1] σ (some (.int z.1)) z.2 0 0 := by
  obtain ⟨_, hg0⟩ := zg_some h
  have h := hg0
  refine zmt_of (by decide) (Nat.le_of_ble_eq_true rfl) ⟨.int, rfl, rfl⟩ (fun X o hin hrm _ _ _ _ _ hr => ?_)
  have hr := hr 0 0 (by decide) (by decide)
  have o : zOK X "WantShelvesModel" c_M_toldNumber n_M_toldNumber 3 := o
  change zPJ X 0 0 0 [(0, .ref t), (1, .int p0), (2, .int p1)] [] σ
  refine zj_aload_n o (zdd k_M_toldNumber 0 rfl) rfl 0 rfl ?_
  obtain ⟨x1, e_x1, h⟩ := zbd h
  refine zj_gI o (zdd k_M_toldNumber 1 rfl) fl_M_188 rfl e_x1 ?_
  refine zj_if_le (tgt := 9) o (zdd k_M_toldNumber 2 rfl) (by decide) (fun hc => ?_) (fun hc => ?_)
  · rw [if_pos hc] at h
    refine zj_aload_n o (zdd k_M_toldNumber 5 rfl) rfl 0 rfl ?_
    obtain ⟨x2, e_x2, h⟩ := zbd h
    refine zj_gI o (zdd k_M_toldNumber 6 rfl) fl_M_175 rfl e_x2 ?_
    refine zj_iconst o (zdd k_M_toldNumber 7 rfl) zki_2 ?_
    refine zj_icmp_eq (tgt := 25) o (zdd k_M_toldNumber 8 rfl) (by decide) (fun hc => ?_) (fun hc => ?_)
    · rw [if_pos hc] at h
      refine zj_aload_n o (zdd k_M_toldNumber 13 rfl) rfl 0 rfl ?_
      obtain ⟨x3, e_x3, h⟩ := zbd h
      refine zj_gI o (zdd k_M_toldNumber 14 rfl) fl_M_172 rfl e_x3 ?_
      refine zj_iload_n o (zdd k_M_toldNumber 15 rfl) rfl 1 rfl ?_
      refine zj_icmp_lt (tgt := 41) o (zdd k_M_toldNumber 16 rfl) (by decide) (fun hc => ?_) (fun hc => ?_)
      · rw [if_pos hc] at h
        exact zj_sub [0] rfl (r_M_toldNumber_41 o  h hr)
      · rw [if_neg hc] at h
        refine zj_aload_n o (zdd k_M_toldNumber 17 rfl) rfl 0 rfl ?_
        obtain ⟨x4, e_x4, h⟩ := zbd h
        refine zj_gI o (zdd k_M_toldNumber 18 rfl) fl_M_172 rfl e_x4 ?_
        refine zj_iload_n o (zdd k_M_toldNumber 19 rfl) rfl 2 rfl ?_
        refine zj_icmp_le (tgt := 46) o (zdd k_M_toldNumber 20 rfl) (by decide) (fun hc => ?_) (fun hc => ?_)
        · rw [if_pos hc] at h
          exact zj_sub [0] rfl (r_M_toldNumber_46 o  h hr)
        · rw [if_neg hc] at h
          exact zj_sub [0] rfl (r_M_toldNumber_41 o  h hr)
    · rw [if_neg hc] at h
      refine zj_aload_n o (zdd k_M_toldNumber 9 rfl) rfl 0 rfl ?_
      refine zj_iconst o (zdd k_M_toldNumber 10 rfl) zki_2 ?_
      obtain ⟨σ5, e_σ5, h⟩ := zbd h
      refine zc_V o (zdd k_M_toldNumber 11 rfl) ml_M_245 mv_M_wrong ⟨rfl, by decide⟩ (zg_some e_σ5).1 (by decide) [.int 2] [] rfl (Nat.le_of_ble_eq_true rfl) rfl (m_M_wrong e_σ5) ?_
      change zPJ X 0 0 _ _ [] _
      refine zj_goto (tgt := 46) o (zdd k_M_toldNumber 12 rfl) (by decide) ?_
      exact zj_sub [0] rfl (r_M_toldNumber_46 o  h hr)
  · rw [if_neg hc] at h
    refine zj_iconst o (zdd k_M_toldNumber 3 rfl) zki_0 ?_
    cases h
    exact zr_i o hr (zdd k_M_toldNumber 4 rfl)
def f_M_told (σ : zSt) (t : Nat) (p0 : Int64) (p1 : Int32) (p2 : Int32) : Option (Int32 × zSt) :=
zg σ 12 t (
(f_M_want σ t p0).bind fun σ1 =>
(f_M_toldNumber σ1 t p1 p2).bind fun q2 =>
some (q2.1, q2.2))
set_option maxRecDepth 100000 in
set_option maxHeartbeats 4000000 in
theorem m_M_told {l : Launch} {b : Nat} {ex : Nat → Value} {D : va_G} {ca : Nat → ClassId} {σ : zSt} {t : Nat} {p0 : Int64} {p1 : Int32} {p2 : Int32} {z : Int32 × zSt} (h : f_M_told σ t p0 p1 p2 = some z) : zMT l b ex D ca 4 y_M_told c_M_told n_M_told r_ret_M_told [.ref t, .long p0, .int p1, .int p2] σ (some (.int z.1)) z.2 0 0 := by
  obtain ⟨_, hg0⟩ := zg_some h
  have h := hg0
  refine zmt_of (by decide) (Nat.le_of_ble_eq_true rfl) ⟨.int, rfl, rfl⟩ (fun X o hin hrm _ _ _ _ _ hr => ?_)
  have hr := hr 0 0 (by decide) (by decide)
  have o : zOK X "WantShelvesModel" c_M_told n_M_told 4 := o
  change zPJ X 0 0 0 [(0, .ref t), (1, .long p0), (3, .int p1), (4, .int p2)] [] σ
  refine zj_aload_n o (zdd k_M_told 0 rfl) rfl 0 rfl ?_
  refine zj_lload_n o (zdd k_M_told 1 rfl) rfl 1 rfl ?_
  obtain ⟨σ1, e_σ1, h⟩ := zbd h
  refine zc_V o (zdd k_M_told 2 rfl) ml_M_251 mv_M_want ⟨rfl, by decide⟩ (zg_some e_σ1).1 (by decide) [.long p0] [] rfl (Nat.le_of_ble_eq_true rfl) rfl (m_M_want e_σ1) ?_
  change zPJ X 0 0 _ _ [] _
  refine zj_aload_n o (zdd k_M_told 3 rfl) rfl 0 rfl ?_
  refine zj_iload_n o (zdd k_M_told 4 rfl) rfl 2 rfl ?_
  refine zj_iload o (zdd k_M_told 5 rfl) 3 rfl ?_
  obtain ⟨q2, e_q2, h⟩ := zbd h
  refine zc_V o (zdd k_M_told 6 rfl) ml_M_255 mv_M_toldNumber ⟨rfl, by decide⟩ (zg_some e_q2).1 (by decide) [.int p1, .int p2] [] rfl (Nat.le_of_ble_eq_true rfl) rfl (m_M_toldNumber e_q2) ?_
  change zPJ X 0 0 _ _ [.int q2.1] _
  cases h
  exact zr_i o hr (zdd k_M_told 7 rfl)
def f_M_signed_84 (σ : zSt) (v0 : Nat) (s0 : Int32) : Option (Int32 × zSt) :=
(zgI σ 12 v0 2).bind fun x1 =>
if x1 = 0 then (
(f_M_token σ v0).bind fun σ2 =>
some (s0, σ2)) else
some (s0, σ)
set_option maxRecDepth 100000 in
set_option maxHeartbeats 4000000 in
theorem r_M_signed_84 {X : zCX} (o : zOK X "WantShelvesModel" c_M_signed n_M_signed 3) {σ : zSt} {v0 : Nat} {s0 : Int32} {z : Int32 × zSt} (h : f_M_signed_84 σ v0 s0 = some z) (hr : zRX X 0 0 (some (.int z.1)) z.2) : zPJ X 0 0 84 [(0, .ref v0)] [.int s0] σ := by
  unfold f_M_signed_84 at h
  refine zj_istore_n (loc' := [(3, .int s0), (0, .ref v0)]) o (zdd k_M_signed 44 rfl) rfl (by decide) rfl ?_
  refine zj_aload_n o (zdd k_M_signed 45 rfl) rfl 1 rfl ?_
  obtain ⟨x1, e_x1, h⟩ := zbd h
  refine zj_gI o (zdd k_M_signed 46 rfl) fl_M_188 rfl e_x1 ?_
  refine zj_if_ne (tgt := 96) o (zdd k_M_signed 47 rfl) (by decide) (fun hc => ?_) (fun hc => ?_)
  · rw [if_neg hc] at h
    refine zj_iload_n o (zdd k_M_signed 50 rfl) rfl 0 rfl ?_
    cases h
    exact zr_i o hr (zdd k_M_signed 51 rfl)
  · rw [if_pos hc] at h
    refine zj_aload_n o (zdd k_M_signed 48 rfl) rfl 1 rfl ?_
    obtain ⟨σ2, e_σ2, h⟩ := zbd h
    refine zc_V o (zdd k_M_signed 49 rfl) ml_M_248 mv_M_token ⟨rfl, by decide⟩ (zg_some e_σ2).1 (by decide) [] [] rfl (Nat.le_of_ble_eq_true rfl) rfl (m_M_token e_σ2) ?_
    change zPJ X 0 0 _ _ [] _
    refine zj_iload_n o (zdd k_M_signed 50 rfl) rfl 0 rfl ?_
    cases h
    exact zr_i o hr (zdd k_M_signed 51 rfl)
def f_M_signed_68 (σ : zSt) (v0 : Nat) (v2 : Int32) : Option (Int32 × zSt) :=
if v2 = 0 then (
(zgI σ 12 v0 8).bind fun x1 =>
f_M_signed_84 σ v0 x1) else
(zgI σ 12 v0 8).bind fun x2 =>
f_M_signed_84 σ v0 (-x2)
set_option maxRecDepth 100000 in
set_option maxHeartbeats 4000000 in
theorem r_M_signed_68 {X : zCX} (o : zOK X "WantShelvesModel" c_M_signed n_M_signed 3) {σ : zSt} {v0 : Nat} {v2 : Int32} {z : Int32 × zSt} (h : f_M_signed_68 σ v0 v2 = some z) (hr : zRX X 0 0 (some (.int z.1)) z.2) : zPJ X 0 0 68 [(0, .ref v0), (2, .int v2)] [] σ := by
  unfold f_M_signed_68 at h
  refine zj_iload_n o (zdd k_M_signed 36 rfl) rfl 1 rfl ?_
  refine zj_if_eq (tgt := 80) o (zdd k_M_signed 37 rfl) (by decide) (fun hc => ?_) (fun hc => ?_)
  · rw [if_pos hc] at h
    refine zj_aload_n o (zdd k_M_signed 42 rfl) rfl 0 rfl ?_
    obtain ⟨x1, e_x1, h⟩ := zbd h
    refine zj_gI o (zdd k_M_signed 43 rfl) fl_M_172 rfl e_x1 ?_
    exact zj_sub [0] rfl (r_M_signed_84 o  h hr)
  · rw [if_neg hc] at h
    refine zj_aload_n o (zdd k_M_signed 38 rfl) rfl 0 rfl ?_
    obtain ⟨x2, e_x2, h⟩ := zbd h
    refine zj_gI o (zdd k_M_signed 39 rfl) fl_M_172 rfl e_x2 ?_
    refine zj_ineg o (zdd k_M_signed 40 rfl) ?_
    refine zj_goto (tgt := 84) o (zdd k_M_signed 41 rfl) (by decide) ?_
    exact zj_sub [0] rfl (r_M_signed_84 o  h hr)
def f_M_signed_37 (σ : zSt) (v0 : Nat) (v1 : Int32) (v2 : Int32) : Option (Int32 × zSt) :=
(zgI σ 12 v0 6).bind fun x1 =>
if x1 = 2 then (
(zgI σ 12 v0 8).bind fun x2 =>
if x2 ≤ 9 then (
f_M_signed_68 σ v0 v2) else
(f_M_wrongAt σ v0 4 v1).bind fun σ3 =>
f_M_signed_68 σ3 v0 v2) else
(f_M_wrong σ v0 2).bind fun σ4 =>
f_M_signed_68 σ4 v0 v2
set_option maxRecDepth 100000 in
set_option maxHeartbeats 4000000 in
theorem r_M_signed_37 {X : zCX} (o : zOK X "WantShelvesModel" c_M_signed n_M_signed 3) {σ : zSt} {v0 : Nat} {v1 : Int32} {v2 : Int32} {z : Int32 × zSt} (h : f_M_signed_37 σ v0 v1 v2 = some z) (hr : zRX X 0 0 (some (.int z.1)) z.2) : zPJ X 0 0 37 [(0, .ref v0), (1, .int v1), (2, .int v2)] [] σ := by
  unfold f_M_signed_37 at h
  refine zj_aload_n o (zdd k_M_signed 20 rfl) rfl 0 rfl ?_
  obtain ⟨x1, e_x1, h⟩ := zbd h
  refine zj_gI o (zdd k_M_signed 21 rfl) fl_M_175 rfl e_x1 ?_
  refine zj_iconst o (zdd k_M_signed 22 rfl) zki_2 ?_
  refine zj_icmp_eq (tgt := 53) o (zdd k_M_signed 23 rfl) (by decide) (fun hc => ?_) (fun hc => ?_)
  · rw [if_pos hc] at h
    refine zj_aload_n o (zdd k_M_signed 28 rfl) rfl 0 rfl ?_
    obtain ⟨x2, e_x2, h⟩ := zbd h
    refine zj_gI o (zdd k_M_signed 29 rfl) fl_M_172 rfl e_x2 ?_
    refine zj_bipush o (zdd k_M_signed 30 rfl) zkb_9 ?_
    refine zj_icmp_le (tgt := 68) o (zdd k_M_signed 31 rfl) (by decide) (fun hc => ?_) (fun hc => ?_)
    · rw [if_pos hc] at h
      exact zj_sub [0, 2] rfl (r_M_signed_68 o  h hr)
    · rw [if_neg hc] at h
      refine zj_aload_n o (zdd k_M_signed 32 rfl) rfl 0 rfl ?_
      refine zj_iconst o (zdd k_M_signed 33 rfl) zki_4 ?_
      refine zj_iload_n o (zdd k_M_signed 34 rfl) rfl 1 rfl ?_
      obtain ⟨σ3, e_σ3, h⟩ := zbd h
      refine zc_V o (zdd k_M_signed 35 rfl) ml_M_259 mv_M_wrongAt ⟨rfl, by decide⟩ (zg_some e_σ3).1 (by decide) [.int 4, .int v1] [] rfl (Nat.le_of_ble_eq_true rfl) rfl (m_M_wrongAt e_σ3) ?_
      change zPJ X 0 0 _ _ [] _
      exact zj_sub [0, 2] rfl (r_M_signed_68 o  h hr)
  · rw [if_neg hc] at h
    refine zj_aload_n o (zdd k_M_signed 24 rfl) rfl 0 rfl ?_
    refine zj_iconst o (zdd k_M_signed 25 rfl) zki_2 ?_
    obtain ⟨σ4, e_σ4, h⟩ := zbd h
    refine zc_V o (zdd k_M_signed 26 rfl) ml_M_245 mv_M_wrong ⟨rfl, by decide⟩ (zg_some e_σ4).1 (by decide) [.int 2] [] rfl (Nat.le_of_ble_eq_true rfl) rfl (m_M_wrong e_σ4) ?_
    change zPJ X 0 0 _ _ [] _
    refine zj_goto (tgt := 68) o (zdd k_M_signed 27 rfl) (by decide) ?_
    exact zj_sub [0, 2] rfl (r_M_signed_68 o  h hr)
def f_M_signed_28 (σ : zSt) (v0 : Nat) (v1 : Int32) (s0 : Int32) : Option (Int32 × zSt) :=
if s0 = 0 then (
f_M_signed_37 σ v0 v1 s0) else
(f_M_token σ v0).bind fun σ1 =>
f_M_signed_37 σ1 v0 v1 s0
set_option maxRecDepth 100000 in
set_option maxHeartbeats 4000000 in
theorem r_M_signed_28 {X : zCX} (o : zOK X "WantShelvesModel" c_M_signed n_M_signed 3) {σ : zSt} {v0 : Nat} {v1 : Int32} {s0 : Int32} {z : Int32 × zSt} (h : f_M_signed_28 σ v0 v1 s0 = some z) (hr : zRX X 0 0 (some (.int z.1)) z.2) : zPJ X 0 0 28 [(0, .ref v0), (1, .int v1)] [.int s0] σ := by
  unfold f_M_signed_28 at h
  refine zj_istore_n (loc' := [(2, .int s0), (0, .ref v0), (1, .int v1)]) o (zdd k_M_signed 15 rfl) rfl (by decide) rfl ?_
  refine zj_iload_n o (zdd k_M_signed 16 rfl) rfl 0 rfl ?_
  refine zj_if_eq (tgt := 37) o (zdd k_M_signed 17 rfl) (by decide) (fun hc => ?_) (fun hc => ?_)
  · rw [if_pos hc] at h
    exact zj_sub [1, 2, 0] rfl (r_M_signed_37 o  h hr)
  · rw [if_neg hc] at h
    refine zj_aload_n o (zdd k_M_signed 18 rfl) rfl 1 rfl ?_
    obtain ⟨σ1, e_σ1, h⟩ := zbd h
    refine zc_V o (zdd k_M_signed 19 rfl) ml_M_248 mv_M_token ⟨rfl, by decide⟩ (zg_some e_σ1).1 (by decide) [] [] rfl (Nat.le_of_ble_eq_true rfl) rfl (m_M_token e_σ1) ?_
    change zPJ X 0 0 _ _ [] _
    exact zj_sub [1, 2, 0] rfl (r_M_signed_37 o  h hr)
def f_M_signed (σ : zSt) (t : Nat) : Option (Int32 × zSt) :=
zg σ 12 t (
(zgI σ 12 t 2).bind fun x1 =>
if x1 ≤ 0 then (
(zgI σ 12 t 7).bind fun x2 =>
(zgI σ 12 t 6).bind fun x3 =>
if x3 = 45 then (
f_M_signed_28 σ t x2 1) else
f_M_signed_28 σ t x2 0) else
some (0, σ))
set_option maxRecDepth 100000 in
set_option maxHeartbeats 4000000 in
theorem m_M_signed {l : Launch} {b : Nat} {ex : Nat → Value} {D : va_G} {ca : Nat → ClassId} {σ : zSt} {t : Nat} {z : Int32 × zSt} (h : f_M_signed σ t = some z) : zMT l b ex D ca 3 y_M_signed c_M_signed n_M_signed r_ret_M_signed [.ref t] σ (some (.int z.1)) z.2 0 0 := by
  obtain ⟨_, hg0⟩ := zg_some h
  have h := hg0
  refine zmt_of (by decide) (Nat.le_of_ble_eq_true rfl) ⟨.int, rfl, rfl⟩ (fun X o hin hrm _ _ _ _ _ hr => ?_)
  have hr := hr 0 0 (by decide) (by decide)
  have o : zOK X "WantShelvesModel" c_M_signed n_M_signed 3 := o
  change zPJ X 0 0 0 [(0, .ref t)] [] σ
  refine zj_aload_n o (zdd k_M_signed 0 rfl) rfl 0 rfl ?_
  obtain ⟨x1, e_x1, h⟩ := zbd h
  refine zj_gI o (zdd k_M_signed 1 rfl) fl_M_188 rfl e_x1 ?_
  refine zj_if_le (tgt := 9) o (zdd k_M_signed 2 rfl) (by decide) (fun hc => ?_) (fun hc => ?_)
  · rw [if_pos hc] at h
    refine zj_aload_n o (zdd k_M_signed 5 rfl) rfl 0 rfl ?_
    obtain ⟨x2, e_x2, h⟩ := zbd h
    refine zj_gI o (zdd k_M_signed 6 rfl) fl_M_165 rfl e_x2 ?_
    refine zj_istore_n (loc' := [(1, .int x2), (0, .ref t)]) o (zdd k_M_signed 7 rfl) rfl (by decide) rfl ?_
    refine zj_aload_n o (zdd k_M_signed 8 rfl) rfl 1 rfl ?_
    obtain ⟨x3, e_x3, h⟩ := zbd h
    refine zj_gI o (zdd k_M_signed 9 rfl) fl_M_175 rfl e_x3 ?_
    refine zj_bipush o (zdd k_M_signed 10 rfl) zkb_45 ?_
    refine zj_icmp_ne (tgt := 27) o (zdd k_M_signed 11 rfl) (by decide) (fun hc => ?_) (fun hc => ?_)
    · rw [if_neg hc] at h
      refine zj_iconst o (zdd k_M_signed 14 rfl) zki_0 ?_
      exact zj_sub [1, 0] rfl (r_M_signed_28 o  h hr)
    · rw [if_pos hc] at h
      refine zj_iconst o (zdd k_M_signed 12 rfl) zki_1 ?_
      refine zj_goto (tgt := 28) o (zdd k_M_signed 13 rfl) (by decide) ?_
      exact zj_sub [1, 0] rfl (r_M_signed_28 o  h hr)
  · rw [if_neg hc] at h
    refine zj_iconst o (zdd k_M_signed 3 rfl) zki_0 ?_
    cases h
    exact zr_i o hr (zdd k_M_signed 4 rfl)
def f_M_find_5 (k5 : zSt → Nat → Int32 → Int32 → Int32 → Int32 → Option (Int32)) (σ : zSt) (v0 : Nat) (v1 : Int32) (v2 : Int32) (v3 : Int32) (v4 : Int32) : Option (Int32) :=
if v2 ≤ v4 then (
some v3) else
(zgP σ 12 v0 10).bind fun a1 =>
(zaJ σ a1 (v1 + v4)).bind fun x2 =>
(zgJ σ 12 v0 9).bind fun x3 =>
if lg_cmp x2 x3 = 0 then (
k5 σ v0 v1 v2 v4 (v4 + 1)) else
k5 σ v0 v1 v2 v3 (v4 + 1)
set_option maxRecDepth 100000 in
set_option maxHeartbeats 4000000 in
theorem r_M_find_5 {X : zCX} (o : zOK X "WantShelvesModel" c_M_find n_M_find 1) {k5 : zSt → Nat → Int32 → Int32 → Int32 → Int32 → Option (Int32)} (hk5 : ∀ {σ : zSt} {v0 : Nat} {v1 : Int32} {v2 : Int32} {v3 : Int32} {v4 : Int32} {z : Int32}, k5 σ v0 v1 v2 v3 v4 = some z → zRX X 0 0 (some (.int z)) σ → zPJ X 0 0 5 [(0, .ref v0), (1, .int v1), (2, .int v2), (3, .int v3), (4, .int v4)] [] σ) {σ : zSt} {v0 : Nat} {v1 : Int32} {v2 : Int32} {v3 : Int32} {v4 : Int32} {z : Int32} (h : f_M_find_5 k5 σ v0 v1 v2 v3 v4 = some z) (hr : zRX X 0 0 (some (.int z)) σ) : zPJ X 0 0 5 [(0, .ref v0), (1, .int v1), (2, .int v2), (3, .int v3), (4, .int v4)] [] σ := by
  unfold f_M_find_5 at h
  refine zj_iload o (zdd k_M_find 4 rfl) 4 rfl ?_
  refine zj_iload_n o (zdd k_M_find 5 rfl) rfl 2 rfl ?_
  refine zj_icmp_ge (tgt := 41) o (zdd k_M_find 6 rfl) (by decide) (fun hc => ?_) (fun hc => ?_)
  · rw [if_pos hc] at h
    refine zj_iload_n o (zdd k_M_find 23 rfl) rfl 3 rfl ?_
    cases h
    exact zr_i o hr (zdd k_M_find 24 rfl)
  · rw [if_neg hc] at h
    refine zj_aload_n o (zdd k_M_find 7 rfl) rfl 0 rfl ?_
    obtain ⟨a1, e_a1, h⟩ := zbd h
    refine zj_gP o (zdd k_M_find 8 rfl) fl_M_17 rfl e_a1 ?_
    refine zj_iload_n o (zdd k_M_find 9 rfl) rfl 1 rfl ?_
    refine zj_iload o (zdd k_M_find 10 rfl) 4 rfl ?_
    refine zj_iadd o (zdd k_M_find 11 rfl) ?_
    obtain ⟨x2, e_x2, h⟩ := zbd h
    refine zj_lald o (zdd k_M_find 12 rfl) e_x2 ?_
    refine zj_aload_n o (zdd k_M_find 13 rfl) rfl 0 rfl ?_
    obtain ⟨x3, e_x3, h⟩ := zbd h
    refine zj_gJ o (zdd k_M_find 14 rfl) fl_M_168 rfl e_x3 ?_
    refine zj_lcmp o (zdd k_M_find 15 rfl) ?_
    refine zj_if_ne (tgt := 33) o (zdd k_M_find 16 rfl) (by decide) (fun hc => ?_) (fun hc => ?_)
    · rw [if_neg hc] at h
      refine zj_iload_n o (zdd k_M_find 19 rfl) rfl 3 rfl ?_
      refine zj_istore_n (loc' := [(3, .int v3), (0, .ref v0), (1, .int v1), (2, .int v2), (4, .int v4)]) o (zdd k_M_find 20 rfl) rfl (by decide) rfl ?_
      refine zj_iinc (v := v4 + 1) (loc' := [(4, .int (v4 + 1)), (3, .int v3), (0, .ref v0), (1, .int v1), (2, .int v2)]) o (zdd k_M_find 21 rfl) 4 rfl (by rw [zki_1]) (by decide) rfl ?_
      refine zj_goto (tgt := 5) o (zdd k_M_find 22 rfl) (by decide) ?_
      exact zj_sub [2, 3, 4, 1, 0] rfl (hk5 h hr)
    · rw [if_pos hc] at h
      refine zj_iload o (zdd k_M_find 17 rfl) 4 rfl ?_
      refine zj_goto (tgt := 34) o (zdd k_M_find 18 rfl) (by decide) ?_
      refine zj_istore_n (loc' := [(3, .int v4), (0, .ref v0), (1, .int v1), (2, .int v2), (4, .int v4)]) o (zdd k_M_find 20 rfl) rfl (by decide) rfl ?_
      refine zj_iinc (v := v4 + 1) (loc' := [(4, .int (v4 + 1)), (3, .int v4), (0, .ref v0), (1, .int v1), (2, .int v2)]) o (zdd k_M_find 21 rfl) 4 rfl (by rw [zki_1]) (by decide) rfl ?_
      refine zj_goto (tgt := 5) o (zdd k_M_find 22 rfl) (by decide) ?_
      exact zj_sub [2, 3, 4, 1, 0] rfl (hk5 h hr)
def f_M_find_5L : Nat → zSt → Nat → Int32 → Int32 → Int32 → Int32 → Option (Int32)
  | 0 => fun _ _ _ _ _ _ => none
  | n + 1 => f_M_find_5  (f_M_find_5L  n)
theorem r_M_find_5L {X : zCX} (o : zOK X "WantShelvesModel" c_M_find n_M_find 1) : ∀ (n : Nat) {σ : zSt} {v0 : Nat} {v1 : Int32} {v2 : Int32} {v3 : Int32} {v4 : Int32} {z : Int32}, f_M_find_5L n σ v0 v1 v2 v3 v4 = some z → zRX X 0 0 (some (.int z)) σ → zPJ X 0 0 5 [(0, .ref v0), (1, .int v1), (2, .int v2), (3, .int v3), (4, .int v4)] [] σ
  | 0 => fun h _ => by cases h
  | n + 1 => fun h hr => r_M_find_5 o (r_M_find_5L o  n) h hr
def f_M_find (σ : zSt) (t : Nat) (p0 : Int32) (p1 : Int32) : Option (Int32) :=
zg σ 12 t (
f_M_find_5L zfu σ t p0 p1 (-1) 0)
set_option maxRecDepth 100000 in
set_option maxHeartbeats 4000000 in
theorem m_M_find {l : Launch} {b : Nat} {ex : Nat → Value} {D : va_G} {ca : Nat → ClassId} {σ : zSt} {t : Nat} {p0 : Int32} {p1 : Int32} {z : Int32} (h : f_M_find σ t p0 p1 = some z) : zMT l b ex D ca 1 y_M_find c_M_find n_M_find r_ret_M_find [.ref t, .int p0, .int p1] σ (some (.int z)) σ 0 0 := by
  obtain ⟨_, hg0⟩ := zg_some h
  have h := hg0
  refine zmt_of (by decide) (Nat.le_of_ble_eq_true rfl) ⟨.int, rfl, rfl⟩ (fun X o hin hrm _ _ _ _ _ hr => ?_)
  have hr := hr 0 0 (by decide) (by decide)
  have o : zOK X "WantShelvesModel" c_M_find n_M_find 1 := o
  change zPJ X 0 0 0 [(0, .ref t), (1, .int p0), (2, .int p1)] [] σ
  refine zj_iconst o (zdd k_M_find 0 rfl) zki_m1 ?_
  refine zj_istore_n (loc' := [(3, .int (-1)), (0, .ref t), (1, .int p0), (2, .int p1)]) o (zdd k_M_find 1 rfl) rfl (by decide) rfl ?_
  refine zj_iconst o (zdd k_M_find 2 rfl) zki_0 ?_
  refine zj_istore (loc' := [(4, .int 0), (3, .int (-1)), (0, .ref t), (1, .int p0), (2, .int p1)]) o (zdd k_M_find 3 rfl) (by decide) rfl ?_
  exact zj_sub [2, 3, 4, 1, 0] rfl (r_M_find_5L o  zfu h hr)
def f_M_newName_33 (σ : zSt) (v0 : Nat) (v1 : Int32) (v2 : Int32) : Option (zSt) :=
(zgI σ 12 v0 2).bind fun x1 =>
if x1 ≤ 0 then (
(zgP σ 12 v0 10).bind fun a2 =>
(zgJ σ 12 v0 9).bind fun x3 =>
(zwJ σ a2 (v1 + v2) x3).bind fun σ4 =>
(f_M_token σ4 v0).bind fun σ5 =>
some σ5) else
some σ
set_option maxRecDepth 100000 in
set_option maxHeartbeats 4000000 in
theorem r_M_newName_33 {X : zCX} (o : zOK X "WantShelvesModel" c_M_newName n_M_newName 3) {σ : zSt} {v0 : Nat} {v1 : Int32} {v2 : Int32} {z : zSt} (h : f_M_newName_33 σ v0 v1 v2 = some z) (hr : zRX X 0 0 none z) : zPJ X 0 0 33 [(0, .ref v0), (1, .int v1), (2, .int v2)] [] σ := by
  unfold f_M_newName_33 at h
  refine zj_aload_n o (zdd k_M_newName 17 rfl) rfl 0 rfl ?_
  obtain ⟨x1, e_x1, h⟩ := zbd h
  refine zj_gI o (zdd k_M_newName 18 rfl) fl_M_188 rfl e_x1 ?_
  refine zj_if_le (tgt := 41) o (zdd k_M_newName 19 rfl) (by decide) (fun hc => ?_) (fun hc => ?_)
  · rw [if_pos hc] at h
    refine zj_aload_n o (zdd k_M_newName 21 rfl) rfl 0 rfl ?_
    obtain ⟨a2, e_a2, h⟩ := zbd h
    refine zj_gP o (zdd k_M_newName 22 rfl) fl_M_17 rfl e_a2 ?_
    refine zj_iload_n o (zdd k_M_newName 23 rfl) rfl 1 rfl ?_
    refine zj_iload_n o (zdd k_M_newName 24 rfl) rfl 2 rfl ?_
    refine zj_iadd o (zdd k_M_newName 25 rfl) ?_
    refine zj_aload_n o (zdd k_M_newName 26 rfl) rfl 0 rfl ?_
    obtain ⟨x3, e_x3, h⟩ := zbd h
    refine zj_gJ o (zdd k_M_newName 27 rfl) fl_M_168 rfl e_x3 ?_
    obtain ⟨σ4, e_σ4, h⟩ := zbd h
    refine zj_last o (zdd k_M_newName 28 rfl) e_σ4 ?_
    refine zj_aload_n o (zdd k_M_newName 29 rfl) rfl 0 rfl ?_
    obtain ⟨σ5, e_σ5, h⟩ := zbd h
    refine zc_V o (zdd k_M_newName 30 rfl) ml_M_248 mv_M_token ⟨rfl, by decide⟩ (zg_some e_σ5).1 (by decide) [] [] rfl (Nat.le_of_ble_eq_true rfl) rfl (m_M_token e_σ5) ?_
    change zPJ X 0 0 _ _ [] _
    cases h
    exact zr_v o hr (zdd k_M_newName 31 rfl)
  · rw [if_neg hc] at h
    cases h
    exact zr_v o hr (zdd k_M_newName 20 rfl)
def f_M_newName (σ : zSt) (t : Nat) (p0 : Int32) (p1 : Int32) : Option (zSt) :=
zg σ 12 t (
(f_M_token σ t).bind fun σ1 =>
(f_M_isName σ1 t).bind fun x2 =>
if x2 = 0 then (
(f_M_wrong σ1 t 2).bind fun σ5 =>
f_M_newName_33 σ5 t p0 p1) else
(f_M_find σ1 t p0 p1).bind fun x3 =>
if x3 < 0 then (
f_M_newName_33 σ1 t p0 p1) else
(f_M_wrong σ1 t 3).bind fun σ4 =>
f_M_newName_33 σ4 t p0 p1)
set_option maxRecDepth 100000 in
set_option maxHeartbeats 4000000 in
theorem m_M_newName {l : Launch} {b : Nat} {ex : Nat → Value} {D : va_G} {ca : Nat → ClassId} {σ : zSt} {t : Nat} {p0 : Int32} {p1 : Int32} {z : zSt} (h : f_M_newName σ t p0 p1 = some z) : zMT l b ex D ca 3 y_M_newName c_M_newName n_M_newName r_ret_M_newName [.ref t, .int p0, .int p1] σ none z 0 0 := by
  obtain ⟨_, hg0⟩ := zg_some h
  have h := hg0
  refine zmt_of (by decide) (Nat.le_of_ble_eq_true rfl) rfl (fun X o hin hrm _ _ _ _ _ hr => ?_)
  have hr := hr 0 0 (by decide) (by decide)
  have o : zOK X "WantShelvesModel" c_M_newName n_M_newName 3 := o
  change zPJ X 0 0 0 [(0, .ref t), (1, .int p0), (2, .int p1)] [] σ
  refine zj_aload_n o (zdd k_M_newName 0 rfl) rfl 0 rfl ?_
  obtain ⟨σ1, e_σ1, h⟩ := zbd h
  refine zc_V o (zdd k_M_newName 1 rfl) ml_M_248 mv_M_token ⟨rfl, by decide⟩ (zg_some e_σ1).1 (by decide) [] [] rfl (Nat.le_of_ble_eq_true rfl) rfl (m_M_token e_σ1) ?_
  change zPJ X 0 0 _ _ [] _
  refine zj_aload_n o (zdd k_M_newName 2 rfl) rfl 0 rfl ?_
  obtain ⟨x2, e_x2, h⟩ := zbd h
  refine zc_V o (zdd k_M_newName 3 rfl) ml_M_263 mv_M_isName ⟨rfl, by decide⟩ (zg_some e_x2).1 (by decide) [] [] rfl (Nat.le_of_ble_eq_true rfl) rfl (m_M_isName e_x2) ?_
  change zPJ X 0 0 _ _ [.int x2] _
  refine zj_if_ne (tgt := 19) o (zdd k_M_newName 4 rfl) (by decide) (fun hc => ?_) (fun hc => ?_)
  · rw [if_neg hc] at h
    refine zj_aload_n o (zdd k_M_newName 9 rfl) rfl 0 rfl ?_
    refine zj_iload_n o (zdd k_M_newName 10 rfl) rfl 1 rfl ?_
    refine zj_iload_n o (zdd k_M_newName 11 rfl) rfl 2 rfl ?_
    obtain ⟨x3, e_x3, h⟩ := zbd h
    refine zc_V o (zdd k_M_newName 12 rfl) ml_M_266 mv_M_find ⟨rfl, by decide⟩ (zg_some e_x3).1 (by decide) [.int p0, .int p1] [] rfl (Nat.le_of_ble_eq_true rfl) rfl (m_M_find e_x3) ?_
    change zPJ X 0 0 _ _ [.int x3] _
    refine zj_if_lt (tgt := 33) o (zdd k_M_newName 13 rfl) (by decide) (fun hc => ?_) (fun hc => ?_)
    · rw [if_pos hc] at h
      exact zj_sub [0, 1, 2] rfl (r_M_newName_33 o  h hr)
    · rw [if_neg hc] at h
      refine zj_aload_n o (zdd k_M_newName 14 rfl) rfl 0 rfl ?_
      refine zj_iconst o (zdd k_M_newName 15 rfl) zki_3 ?_
      obtain ⟨σ4, e_σ4, h⟩ := zbd h
      refine zc_V o (zdd k_M_newName 16 rfl) ml_M_245 mv_M_wrong ⟨rfl, by decide⟩ (zg_some e_σ4).1 (by decide) [.int 3] [] rfl (Nat.le_of_ble_eq_true rfl) rfl (m_M_wrong e_σ4) ?_
      change zPJ X 0 0 _ _ [] _
      exact zj_sub [0, 1, 2] rfl (r_M_newName_33 o  h hr)
  · rw [if_pos hc] at h
    refine zj_aload_n o (zdd k_M_newName 5 rfl) rfl 0 rfl ?_
    refine zj_iconst o (zdd k_M_newName 6 rfl) zki_2 ?_
    obtain ⟨σ5, e_σ5, h⟩ := zbd h
    refine zc_V o (zdd k_M_newName 7 rfl) ml_M_245 mv_M_wrong ⟨rfl, by decide⟩ (zg_some e_σ5).1 (by decide) [.int 2] [] rfl (Nat.le_of_ble_eq_true rfl) rfl (m_M_wrong e_σ5) ?_
    change zPJ X 0 0 _ _ [] _
    refine zj_goto (tgt := 33) o (zdd k_M_newName 8 rfl) (by decide) ?_
    exact zj_sub [0, 1, 2] rfl (r_M_newName_33 o  h hr)
def f_M_topic_71 (σ : zSt) (v2 : Int32) : Option (Int32 × zSt) :=
if 0 ≤ v2 then (
some (v2, σ)) else
some (0, σ)
set_option maxRecDepth 100000 in
set_option maxHeartbeats 4000000 in
theorem r_M_topic_71 {X : zCX} (o : zOK X "WantShelvesModel" c_M_topic n_M_topic 3) {σ : zSt} {v2 : Int32} {z : Int32 × zSt} (h : f_M_topic_71 σ v2 = some z) (hr : zRX X 0 0 (some (.int z.1)) z.2) : zPJ X 0 0 71 [(2, .int v2)] [] σ := by
  unfold f_M_topic_71 at h
  refine zj_iload_n o (zdd k_M_topic 39 rfl) rfl 0 rfl ?_
  refine zj_if_ge (tgt := 79) o (zdd k_M_topic 40 rfl) (by decide) (fun hc => ?_) (fun hc => ?_)
  · rw [if_pos hc] at h
    refine zj_iload_n o (zdd k_M_topic 43 rfl) rfl 0 rfl ?_
    cases h
    exact zr_i o hr (zdd k_M_topic 44 rfl)
  · rw [if_neg hc] at h
    refine zj_iconst o (zdd k_M_topic 41 rfl) zki_0 ?_
    refine zj_goto (tgt := 80) o (zdd k_M_topic 42 rfl) (by decide) ?_
    cases h
    exact zr_i o hr (zdd k_M_topic 44 rfl)
def f_M_topic_60 (σ : zSt) (v0 : Nat) (v2 : Int32) : Option (Int32 × zSt) :=
(zgI σ 12 v0 2).bind fun x1 =>
if x1 = 0 then (
(f_M_token σ v0).bind fun σ2 =>
f_M_topic_71 σ2 v2) else
f_M_topic_71 σ v2
set_option maxRecDepth 100000 in
set_option maxHeartbeats 4000000 in
theorem r_M_topic_60 {X : zCX} (o : zOK X "WantShelvesModel" c_M_topic n_M_topic 3) {σ : zSt} {v0 : Nat} {v2 : Int32} {z : Int32 × zSt} (h : f_M_topic_60 σ v0 v2 = some z) (hr : zRX X 0 0 (some (.int z.1)) z.2) : zPJ X 0 0 60 [(0, .ref v0), (2, .int v2)] [] σ := by
  unfold f_M_topic_60 at h
  refine zj_aload_n o (zdd k_M_topic 34 rfl) rfl 0 rfl ?_
  obtain ⟨x1, e_x1, h⟩ := zbd h
  refine zj_gI o (zdd k_M_topic 35 rfl) fl_M_188 rfl e_x1 ?_
  refine zj_if_ne (tgt := 71) o (zdd k_M_topic 36 rfl) (by decide) (fun hc => ?_) (fun hc => ?_)
  · rw [if_neg hc] at h
    exact zj_sub [1] rfl (r_M_topic_71 o  h hr)
  · rw [if_pos hc] at h
    refine zj_aload_n o (zdd k_M_topic 37 rfl) rfl 0 rfl ?_
    obtain ⟨σ2, e_σ2, h⟩ := zbd h
    refine zc_V o (zdd k_M_topic 38 rfl) ml_M_248 mv_M_token ⟨rfl, by decide⟩ (zg_some e_σ2).1 (by decide) [] [] rfl (Nat.le_of_ble_eq_true rfl) rfl (m_M_token e_σ2) ?_
    change zPJ X 0 0 _ _ [] _
    exact zj_sub [1] rfl (r_M_topic_71 o  h hr)
def f_M_topic (σ : zSt) (t : Nat) (p0 : Int32) : Option (Int32 × zSt) :=
zg σ 12 t (
(zgI σ 12 t 2).bind fun x1 =>
if x1 ≤ 0 then (
(zgI σ 12 t 34).bind fun x2 =>
(f_M_find σ t 0 x2).bind fun x3 =>
(f_M_isName σ t).bind fun x4 =>
if x4 = 0 then (
(f_M_wrong σ t 2).bind fun σ7 =>
f_M_topic_60 σ7 t x3) else
if 0 ≤ x3 then (
if (p0 >>> (x3 &&& 31)) &&& 1 = 1 then (
(f_M_wrong σ t 3).bind fun σ5 =>
f_M_topic_60 σ5 t x3) else
f_M_topic_60 σ t x3) else
(f_M_wrong σ t 5).bind fun σ6 =>
f_M_topic_60 σ6 t x3) else
some (0, σ))
set_option maxRecDepth 100000 in
set_option maxHeartbeats 4000000 in
theorem m_M_topic {l : Launch} {b : Nat} {ex : Nat → Value} {D : va_G} {ca : Nat → ClassId} {σ : zSt} {t : Nat} {p0 : Int32} {z : Int32 × zSt} (h : f_M_topic σ t p0 = some z) : zMT l b ex D ca 3 y_M_topic c_M_topic n_M_topic r_ret_M_topic [.ref t, .int p0] σ (some (.int z.1)) z.2 0 0 := by
  obtain ⟨_, hg0⟩ := zg_some h
  have h := hg0
  refine zmt_of (by decide) (Nat.le_of_ble_eq_true rfl) ⟨.int, rfl, rfl⟩ (fun X o hin hrm _ _ _ _ _ hr => ?_)
  have hr := hr 0 0 (by decide) (by decide)
  have o : zOK X "WantShelvesModel" c_M_topic n_M_topic 3 := o
  change zPJ X 0 0 0 [(0, .ref t), (1, .int p0)] [] σ
  refine zj_aload_n o (zdd k_M_topic 0 rfl) rfl 0 rfl ?_
  obtain ⟨x1, e_x1, h⟩ := zbd h
  refine zj_gI o (zdd k_M_topic 1 rfl) fl_M_188 rfl e_x1 ?_
  refine zj_if_le (tgt := 9) o (zdd k_M_topic 2 rfl) (by decide) (fun hc => ?_) (fun hc => ?_)
  · rw [if_pos hc] at h
    refine zj_aload_n o (zdd k_M_topic 5 rfl) rfl 0 rfl ?_
    refine zj_iconst o (zdd k_M_topic 6 rfl) zki_0 ?_
    refine zj_aload_n o (zdd k_M_topic 7 rfl) rfl 0 rfl ?_
    obtain ⟨x2, e_x2, h⟩ := zbd h
    refine zj_gI o (zdd k_M_topic 8 rfl) fl_M_269 rfl e_x2 ?_
    obtain ⟨x3, e_x3, h⟩ := zbd h
    refine zc_V o (zdd k_M_topic 9 rfl) ml_M_266 mv_M_find ⟨rfl, by decide⟩ (zg_some e_x3).1 (by decide) [.int 0, .int x2] [] rfl (Nat.le_of_ble_eq_true rfl) rfl (m_M_find e_x3) ?_
    change zPJ X 0 0 _ _ [.int x3] _
    refine zj_istore_n (loc' := [(2, .int x3), (0, .ref t), (1, .int p0)]) o (zdd k_M_topic 10 rfl) rfl (by decide) rfl ?_
    refine zj_aload_n o (zdd k_M_topic 11 rfl) rfl 1 rfl ?_
    obtain ⟨x4, e_x4, h⟩ := zbd h
    refine zc_V o (zdd k_M_topic 12 rfl) ml_M_263 mv_M_isName ⟨rfl, by decide⟩ (zg_some e_x4).1 (by decide) [] [] rfl (Nat.le_of_ble_eq_true rfl) rfl (m_M_isName e_x4) ?_
    change zPJ X 0 0 _ _ [.int x4] _
    refine zj_if_ne (tgt := 34) o (zdd k_M_topic 13 rfl) (by decide) (fun hc => ?_) (fun hc => ?_)
    · rw [if_neg hc] at h
      refine zj_iload_n o (zdd k_M_topic 18 rfl) rfl 0 rfl ?_
      refine zj_if_ge (tgt := 46) o (zdd k_M_topic 19 rfl) (by decide) (fun hc => ?_) (fun hc => ?_)
      · rw [if_pos hc] at h
        refine zj_iload_n o (zdd k_M_topic 24 rfl) rfl 2 rfl ?_
        refine zj_iload_n o (zdd k_M_topic 25 rfl) rfl 0 rfl ?_
        refine zj_ishr o (zdd k_M_topic 26 rfl) ?_
        refine zj_iconst o (zdd k_M_topic 27 rfl) zki_1 ?_
        refine zj_iand o (zdd k_M_topic 28 rfl) ?_
        refine zj_iconst o (zdd k_M_topic 29 rfl) zki_1 ?_
        refine zj_icmp_ne (tgt := 60) o (zdd k_M_topic 30 rfl) (by decide) (fun hc => ?_) (fun hc => ?_)
        · rw [if_neg hc] at h
          exact zj_sub [1, 0] rfl (r_M_topic_60 o  h hr)
        · rw [if_pos hc] at h
          refine zj_aload_n o (zdd k_M_topic 31 rfl) rfl 1 rfl ?_
          refine zj_iconst o (zdd k_M_topic 32 rfl) zki_3 ?_
          obtain ⟨σ5, e_σ5, h⟩ := zbd h
          refine zc_V o (zdd k_M_topic 33 rfl) ml_M_245 mv_M_wrong ⟨rfl, by decide⟩ (zg_some e_σ5).1 (by decide) [.int 3] [] rfl (Nat.le_of_ble_eq_true rfl) rfl (m_M_wrong e_σ5) ?_
          change zPJ X 0 0 _ _ [] _
          exact zj_sub [1, 0] rfl (r_M_topic_60 o  h hr)
      · rw [if_neg hc] at h
        refine zj_aload_n o (zdd k_M_topic 20 rfl) rfl 1 rfl ?_
        refine zj_iconst o (zdd k_M_topic 21 rfl) zki_5 ?_
        obtain ⟨σ6, e_σ6, h⟩ := zbd h
        refine zc_V o (zdd k_M_topic 22 rfl) ml_M_245 mv_M_wrong ⟨rfl, by decide⟩ (zg_some e_σ6).1 (by decide) [.int 5] [] rfl (Nat.le_of_ble_eq_true rfl) rfl (m_M_wrong e_σ6) ?_
        change zPJ X 0 0 _ _ [] _
        refine zj_goto (tgt := 60) o (zdd k_M_topic 23 rfl) (by decide) ?_
        exact zj_sub [1, 0] rfl (r_M_topic_60 o  h hr)
    · rw [if_pos hc] at h
      refine zj_aload_n o (zdd k_M_topic 14 rfl) rfl 1 rfl ?_
      refine zj_iconst o (zdd k_M_topic 15 rfl) zki_2 ?_
      obtain ⟨σ7, e_σ7, h⟩ := zbd h
      refine zc_V o (zdd k_M_topic 16 rfl) ml_M_245 mv_M_wrong ⟨rfl, by decide⟩ (zg_some e_σ7).1 (by decide) [.int 2] [] rfl (Nat.le_of_ble_eq_true rfl) rfl (m_M_wrong e_σ7) ?_
      change zPJ X 0 0 _ _ [] _
      refine zj_goto (tgt := 60) o (zdd k_M_topic 17 rfl) (by decide) ?_
      exact zj_sub [1, 0] rfl (r_M_topic_60 o  h hr)
  · rw [if_neg hc] at h
    refine zj_iconst o (zdd k_M_topic 3 rfl) zki_0 ?_
    cases h
    exact zr_i o hr (zdd k_M_topic 4 rfl)
def f_M_add (σ : zSt) (t : Nat) (p0 : Int32) (p1 : Int32) : Option (zSt) :=
zg σ 12 t (
(zgP σ 12 t 11).bind fun a1 =>
(zgI σ 12 t 19).bind fun x2 =>
(zgP σ 12 t 13).bind fun a3 =>
(zgI σ 12 t 19).bind fun x4 =>
(zaI σ 1 a3 x4).bind fun x5 =>
(zwI σ 1 a1 ((320 * x2) + x5) p0).bind fun σ6 =>
(zgP σ6 12 t 12).bind fun a7 =>
(zgI σ6 12 t 19).bind fun x8 =>
(zgP σ6 12 t 13).bind fun a9 =>
(zgI σ6 12 t 19).bind fun x10 =>
(zaI σ6 1 a9 x10).bind fun x11 =>
(zwI σ6 1 a7 ((320 * x8) + x11) p1).bind fun σ12 =>
(zgP σ12 12 t 13).bind fun a13 =>
(zgI σ12 12 t 19).bind fun x14 =>
(zaI σ12 1 a13 x14).bind fun x15 =>
(zwI σ12 1 a13 x14 (x15 + 1)).bind fun σ16 =>
some σ16)
set_option maxRecDepth 100000 in
set_option maxHeartbeats 4000000 in
theorem m_M_add {l : Launch} {b : Nat} {ex : Nat → Value} {D : va_G} {ca : Nat → ClassId} {σ : zSt} {t : Nat} {p0 : Int32} {p1 : Int32} {z : zSt} (h : f_M_add σ t p0 p1 = some z) : zMT l b ex D ca 1 y_M_add c_M_add n_M_add r_ret_M_add [.ref t, .int p0, .int p1] σ none z 0 0 := by
  obtain ⟨_, hg0⟩ := zg_some h
  have h := hg0
  refine zmt_of (by decide) (Nat.le_of_ble_eq_true rfl) rfl (fun X o hin hrm _ _ _ _ _ hr => ?_)
  have hr := hr 0 0 (by decide) (by decide)
  have o : zOK X "WantShelvesModel" c_M_add n_M_add 1 := o
  change zPJ X 0 0 0 [(0, .ref t), (1, .int p0), (2, .int p1)] [] σ
  refine zj_aload_n o (zdd k_M_add 0 rfl) rfl 0 rfl ?_
  obtain ⟨a1, e_a1, h⟩ := zbd h
  refine zj_gP o (zdd k_M_add 1 rfl) fl_M_21 rfl e_a1 ?_
  refine zj_sipush o (zdd k_M_add 2 rfl) zks_320 ?_
  refine zj_aload_n o (zdd k_M_add 3 rfl) rfl 0 rfl ?_
  obtain ⟨x2, e_x2, h⟩ := zbd h
  refine zj_gI o (zdd k_M_add 4 rfl) fl_M_272 rfl e_x2 ?_
  refine zj_imul o (zdd k_M_add 5 rfl) ?_
  refine zj_aload_n o (zdd k_M_add 6 rfl) rfl 0 rfl ?_
  obtain ⟨a3, e_a3, h⟩ := zbd h
  refine zj_gP o (zdd k_M_add 7 rfl) fl_M_27 rfl e_a3 ?_
  refine zj_aload_n o (zdd k_M_add 8 rfl) rfl 0 rfl ?_
  obtain ⟨x4, e_x4, h⟩ := zbd h
  refine zj_gI o (zdd k_M_add 9 rfl) fl_M_272 rfl e_x4 ?_
  obtain ⟨x5, e_x5, h⟩ := zbd h
  refine zj_iald o (zdd k_M_add 10 rfl) e_x5 ?_
  refine zj_iadd o (zdd k_M_add 11 rfl) ?_
  refine zj_iload_n o (zdd k_M_add 12 rfl) rfl 1 rfl ?_
  obtain ⟨σ6, e_σ6, h⟩ := zbd h
  refine zj_iast o (zdd k_M_add 13 rfl) e_σ6 ?_
  refine zj_aload_n o (zdd k_M_add 14 rfl) rfl 0 rfl ?_
  obtain ⟨a7, e_a7, h⟩ := zbd h
  refine zj_gP o (zdd k_M_add 15 rfl) fl_M_24 rfl e_a7 ?_
  refine zj_sipush o (zdd k_M_add 16 rfl) zks_320 ?_
  refine zj_aload_n o (zdd k_M_add 17 rfl) rfl 0 rfl ?_
  obtain ⟨x8, e_x8, h⟩ := zbd h
  refine zj_gI o (zdd k_M_add 18 rfl) fl_M_272 rfl e_x8 ?_
  refine zj_imul o (zdd k_M_add 19 rfl) ?_
  refine zj_aload_n o (zdd k_M_add 20 rfl) rfl 0 rfl ?_
  obtain ⟨a9, e_a9, h⟩ := zbd h
  refine zj_gP o (zdd k_M_add 21 rfl) fl_M_27 rfl e_a9 ?_
  refine zj_aload_n o (zdd k_M_add 22 rfl) rfl 0 rfl ?_
  obtain ⟨x10, e_x10, h⟩ := zbd h
  refine zj_gI o (zdd k_M_add 23 rfl) fl_M_272 rfl e_x10 ?_
  obtain ⟨x11, e_x11, h⟩ := zbd h
  refine zj_iald o (zdd k_M_add 24 rfl) e_x11 ?_
  refine zj_iadd o (zdd k_M_add 25 rfl) ?_
  refine zj_iload_n o (zdd k_M_add 26 rfl) rfl 2 rfl ?_
  obtain ⟨σ12, e_σ12, h⟩ := zbd h
  refine zj_iast o (zdd k_M_add 27 rfl) e_σ12 ?_
  refine zj_aload_n o (zdd k_M_add 28 rfl) rfl 0 rfl ?_
  obtain ⟨a13, e_a13, h⟩ := zbd h
  refine zj_gP o (zdd k_M_add 29 rfl) fl_M_27 rfl e_a13 ?_
  refine zj_aload_n o (zdd k_M_add 30 rfl) rfl 0 rfl ?_
  obtain ⟨x14, e_x14, h⟩ := zbd h
  refine zj_gI o (zdd k_M_add 31 rfl) fl_M_272 rfl e_x14 ?_
  refine zj_dup2 o (zdd k_M_add 32 rfl) rfl rfl ?_
  obtain ⟨x15, e_x15, h⟩ := zbd h
  refine zj_iald o (zdd k_M_add 33 rfl) e_x15 ?_
  refine zj_iconst o (zdd k_M_add 34 rfl) zki_1 ?_
  refine zj_iadd o (zdd k_M_add 35 rfl) ?_
  obtain ⟨σ16, e_σ16, h⟩ := zbd h
  refine zj_iast o (zdd k_M_add 36 rfl) e_σ16 ?_
  cases h
  exact zr_v o hr (zdd k_M_add 37 rfl)
def f_M_tight (p0 : Int32) : Option (Int32) :=
if p0 = 21 then (
some 3) else
if p0 = 38 then (
some 2) else
if p0 = 43 then (
some 5) else
if p0 = 45 then (
some 5) else
if p0 = 60 then (
some 4) else
if p0 = 61 then (
some 4) else
if p0 = 62 then (
some 4) else
if p0 = 124 then (
some 1) else
some 6
set_option maxRecDepth 100000 in
set_option maxHeartbeats 4000000 in
theorem m_M_tight {l : Launch} {b : Nat} {ex : Nat → Value} {D : va_G} {ca : Nat → ClassId} {σ : zSt} {p0 : Int32} {z : Int32} (h : f_M_tight p0 = some z) : zMT l b ex D ca 1 y_M_tight c_M_tight n_M_tight r_ret_M_tight [.int p0] σ (some (.int z)) σ 0 0 := by
  unfold f_M_tight at h
  refine zmt_of (by decide) (Nat.le_of_ble_eq_true rfl) ⟨.int, rfl, rfl⟩ (fun X o hin hrm _ _ _ _ _ hr => ?_)
  have hr := hr 0 0 (by decide) (by decide)
  have o : zOK X "WantShelvesModel" c_M_tight n_M_tight 1 := o
  change zPJ X 0 0 0 [(0, .int p0)] [] σ
  refine zj_iload_n o (zdd k_M_tight 0 rfl) rfl 0 rfl ?_
  refine zj_lookupC (dt := 86) o [(21, 80), (38, 78), (43, 84), (45, 84), (60, 82), (61, 82), (62, 82), (124, 76)] (zdd k_M_tight 1 rfl) (by decide) (by decide) (by decide) ?_
  by_cases hc : p0 = 21
  · rw [if_pos hc] at h
    rw [zcase_pos hc]
    refine zj_iconst o (zdd k_M_tight 6 rfl) zki_3 ?_
    cases h
    exact zr_i o hr (zdd k_M_tight 7 rfl)
  · rw [if_neg hc] at h
    rw [zcase_neg hc]
    by_cases hc : p0 = 38
    · rw [if_pos hc] at h
      rw [zcase_pos hc]
      refine zj_iconst o (zdd k_M_tight 4 rfl) zki_2 ?_
      cases h
      exact zr_i o hr (zdd k_M_tight 5 rfl)
    · rw [if_neg hc] at h
      rw [zcase_neg hc]
      by_cases hc : p0 = 43
      · rw [if_pos hc] at h
        rw [zcase_pos hc]
        refine zj_iconst o (zdd k_M_tight 10 rfl) zki_5 ?_
        cases h
        exact zr_i o hr (zdd k_M_tight 11 rfl)
      · rw [if_neg hc] at h
        rw [zcase_neg hc]
        by_cases hc : p0 = 45
        · rw [if_pos hc] at h
          rw [zcase_pos hc]
          refine zj_iconst o (zdd k_M_tight 10 rfl) zki_5 ?_
          cases h
          exact zr_i o hr (zdd k_M_tight 11 rfl)
        · rw [if_neg hc] at h
          rw [zcase_neg hc]
          by_cases hc : p0 = 60
          · rw [if_pos hc] at h
            rw [zcase_pos hc]
            refine zj_iconst o (zdd k_M_tight 8 rfl) zki_4 ?_
            cases h
            exact zr_i o hr (zdd k_M_tight 9 rfl)
          · rw [if_neg hc] at h
            rw [zcase_neg hc]
            by_cases hc : p0 = 61
            · rw [if_pos hc] at h
              rw [zcase_pos hc]
              refine zj_iconst o (zdd k_M_tight 8 rfl) zki_4 ?_
              cases h
              exact zr_i o hr (zdd k_M_tight 9 rfl)
            · rw [if_neg hc] at h
              rw [zcase_neg hc]
              by_cases hc : p0 = 62
              · rw [if_pos hc] at h
                rw [zcase_pos hc]
                refine zj_iconst o (zdd k_M_tight 8 rfl) zki_4 ?_
                cases h
                exact zr_i o hr (zdd k_M_tight 9 rfl)
              · rw [if_neg hc] at h
                rw [zcase_neg hc]
                by_cases hc : p0 = 124
                · rw [if_pos hc] at h
                  rw [zcase_pos hc]
                  refine zj_iconst o (zdd k_M_tight 2 rfl) zki_1 ?_
                  cases h
                  exact zr_i o hr (zdd k_M_tight 3 rfl)
                · rw [if_neg hc] at h
                  rw [zcase_neg hc]
                  change zPJ X 0 0 86 _ _ _
                  refine zj_bipush o (zdd k_M_tight 12 rfl) zkb_6 ?_
                  cases h
                  exact zr_i o hr (zdd k_M_tight 13 rfl)
def f_M_close_0 (k0 : zSt → Nat → Int32 → Option (zSt)) (σ : zSt) (v0 : Nat) (v1 : Int32) : Option (zSt) :=
(zgI σ 12 v0 20).bind fun x1 =>
if x1 ≤ 0 then (
some σ) else
(zgP σ 12 v0 17).bind fun a2 =>
(zgI σ 12 v0 20).bind fun x3 =>
(zaI σ 1 a2 (x3 - 1)).bind fun x4 =>
if x4 = 20 then (
some σ) else
(zgP σ 12 v0 17).bind fun a5 =>
(zgI σ 12 v0 20).bind fun x6 =>
(zaI σ 1 a5 (x6 - 1)).bind fun x7 =>
(f_M_tight x7).bind fun x8 =>
if x8 < v1 then (
some σ) else
(zgI σ 12 v0 20).bind fun x9 =>
(zsI σ 12 v0 20 (x9 - 1)).bind fun σ10 =>
(zgP σ10 12 v0 17).bind fun a11 =>
(zgI σ10 12 v0 20).bind fun x12 =>
(zaI σ10 1 a11 x12).bind fun x13 =>
if x13 = 21 then (
(f_M_add σ10 v0 2 0).bind fun σ18 =>
(zgI σ18 12 v0 24).bind fun x19 =>
(zsI σ18 12 v0 24 (x19 - 1)).bind fun σ20 =>
k0 σ20 v0 v1) else
(zgP σ10 12 v0 17).bind fun a14 =>
(zgI σ10 12 v0 20).bind fun x15 =>
(zaI σ10 1 a14 x15).bind fun x16 =>
(f_M_add σ10 v0 3 x16).bind fun σ17 =>
k0 σ17 v0 v1
set_option maxRecDepth 100000 in
set_option maxHeartbeats 4000000 in
theorem r_M_close_0 {X : zCX} (o : zOK X "WantShelvesModel" c_M_close n_M_close 2) {k0 : zSt → Nat → Int32 → Option (zSt)} (hk0 : ∀ {σ : zSt} {v0 : Nat} {v1 : Int32} {z : zSt}, k0 σ v0 v1 = some z → zRX X 0 0 none z → zPJ X 0 0 0 [(0, .ref v0), (1, .int v1)] [] σ) {σ : zSt} {v0 : Nat} {v1 : Int32} {z : zSt} (h : f_M_close_0 k0 σ v0 v1 = some z) (hr : zRX X 0 0 none z) : zPJ X 0 0 0 [(0, .ref v0), (1, .int v1)] [] σ := by
  unfold f_M_close_0 at h
  refine zj_aload_n o (zdd k_M_close 0 rfl) rfl 0 rfl ?_
  obtain ⟨x1, e_x1, h⟩ := zbd h
  refine zj_gI o (zdd k_M_close 1 rfl) fl_M_275 rfl e_x1 ?_
  refine zj_if_le (tgt := 101) o (zdd k_M_close 2 rfl) (by decide) (fun hc => ?_) (fun hc => ?_)
  · rw [if_pos hc] at h
    cases h
    exact zr_v o hr (zdd k_M_close 55 rfl)
  · rw [if_neg hc] at h
    refine zj_aload_n o (zdd k_M_close 3 rfl) rfl 0 rfl ?_
    obtain ⟨a2, e_a2, h⟩ := zbd h
    refine zj_gP o (zdd k_M_close 4 rfl) fl_M_39 rfl e_a2 ?_
    refine zj_aload_n o (zdd k_M_close 5 rfl) rfl 0 rfl ?_
    obtain ⟨x3, e_x3, h⟩ := zbd h
    refine zj_gI o (zdd k_M_close 6 rfl) fl_M_275 rfl e_x3 ?_
    refine zj_iconst o (zdd k_M_close 7 rfl) zki_1 ?_
    refine zj_isub o (zdd k_M_close 8 rfl) ?_
    obtain ⟨x4, e_x4, h⟩ := zbd h
    refine zj_iald o (zdd k_M_close 9 rfl) e_x4 ?_
    refine zj_bipush o (zdd k_M_close 10 rfl) zkb_20 ?_
    refine zj_icmp_eq (tgt := 101) o (zdd k_M_close 11 rfl) (by decide) (fun hc => ?_) (fun hc => ?_)
    · rw [if_pos hc] at h
      cases h
      exact zr_v o hr (zdd k_M_close 55 rfl)
    · rw [if_neg hc] at h
      refine zj_aload_n o (zdd k_M_close 12 rfl) rfl 0 rfl ?_
      obtain ⟨a5, e_a5, h⟩ := zbd h
      refine zj_gP o (zdd k_M_close 13 rfl) fl_M_39 rfl e_a5 ?_
      refine zj_aload_n o (zdd k_M_close 14 rfl) rfl 0 rfl ?_
      obtain ⟨x6, e_x6, h⟩ := zbd h
      refine zj_gI o (zdd k_M_close 15 rfl) fl_M_275 rfl e_x6 ?_
      refine zj_iconst o (zdd k_M_close 16 rfl) zki_1 ?_
      refine zj_isub o (zdd k_M_close 17 rfl) ?_
      obtain ⟨x7, e_x7, h⟩ := zbd h
      refine zj_iald o (zdd k_M_close 18 rfl) e_x7 ?_
      obtain ⟨x8, e_x8, h⟩ := zbd h
      refine zc_S o (zdd k_M_close 19 rfl) ml_M_278 ms_M_tight (by decide) [.int x7] [] rfl (Nat.le_of_ble_eq_true rfl) rfl (m_M_tight e_x8) ?_
      change zPJ X 0 0 _ _ [.int x8] _
      refine zj_iload_n o (zdd k_M_close 20 rfl) rfl 1 rfl ?_
      refine zj_icmp_lt (tgt := 101) o (zdd k_M_close 21 rfl) (by decide) (fun hc => ?_) (fun hc => ?_)
      · rw [if_pos hc] at h
        cases h
        exact zr_v o hr (zdd k_M_close 55 rfl)
      · rw [if_neg hc] at h
        refine zj_aload_n o (zdd k_M_close 22 rfl) rfl 0 rfl ?_
        refine zj_dup o (zdd k_M_close 23 rfl) rfl ?_
        obtain ⟨x9, e_x9, h⟩ := zbd h
        refine zj_gI o (zdd k_M_close 24 rfl) fl_M_275 rfl e_x9 ?_
        refine zj_iconst o (zdd k_M_close 25 rfl) zki_1 ?_
        refine zj_isub o (zdd k_M_close 26 rfl) ?_
        obtain ⟨σ10, e_σ10, h⟩ := zbd h
        refine zj_pI o (zdd k_M_close 27 rfl) fl_M_275 rfl rfl e_σ10 ?_
        refine zj_aload_n o (zdd k_M_close 28 rfl) rfl 0 rfl ?_
        obtain ⟨a11, e_a11, h⟩ := zbd h
        refine zj_gP o (zdd k_M_close 29 rfl) fl_M_39 rfl e_a11 ?_
        refine zj_aload_n o (zdd k_M_close 30 rfl) rfl 0 rfl ?_
        obtain ⟨x12, e_x12, h⟩ := zbd h
        refine zj_gI o (zdd k_M_close 31 rfl) fl_M_275 rfl e_x12 ?_
        obtain ⟨x13, e_x13, h⟩ := zbd h
        refine zj_iald o (zdd k_M_close 32 rfl) e_x13 ?_
        refine zj_bipush o (zdd k_M_close 33 rfl) zkb_21 ?_
        refine zj_icmp_ne (tgt := 84) o (zdd k_M_close 34 rfl) (by decide) (fun hc => ?_) (fun hc => ?_)
        · rw [if_neg hc] at h
          refine zj_aload_n o (zdd k_M_close 46 rfl) rfl 0 rfl ?_
          refine zj_iconst o (zdd k_M_close 47 rfl) zki_3 ?_
          refine zj_aload_n o (zdd k_M_close 48 rfl) rfl 0 rfl ?_
          obtain ⟨a14, e_a14, h⟩ := zbd h
          refine zj_gP o (zdd k_M_close 49 rfl) fl_M_39 rfl e_a14 ?_
          refine zj_aload_n o (zdd k_M_close 50 rfl) rfl 0 rfl ?_
          obtain ⟨x15, e_x15, h⟩ := zbd h
          refine zj_gI o (zdd k_M_close 51 rfl) fl_M_275 rfl e_x15 ?_
          obtain ⟨x16, e_x16, h⟩ := zbd h
          refine zj_iald o (zdd k_M_close 52 rfl) e_x16 ?_
          obtain ⟨σ17, e_σ17, h⟩ := zbd h
          refine zc_V o (zdd k_M_close 53 rfl) ml_M_281 mv_M_add ⟨rfl, by decide⟩ (zg_some e_σ17).1 (by decide) [.int 3, .int x16] [] rfl (Nat.le_of_ble_eq_true rfl) rfl (m_M_add e_σ17) ?_
          change zPJ X 0 0 _ _ [] _
          refine zj_goto (tgt := 0) o (zdd k_M_close 54 rfl) (by decide) ?_
          exact zj_sub [0, 1] rfl (hk0 h hr)
        · rw [if_pos hc] at h
          refine zj_aload_n o (zdd k_M_close 35 rfl) rfl 0 rfl ?_
          refine zj_iconst o (zdd k_M_close 36 rfl) zki_2 ?_
          refine zj_iconst o (zdd k_M_close 37 rfl) zki_0 ?_
          obtain ⟨σ18, e_σ18, h⟩ := zbd h
          refine zc_V o (zdd k_M_close 38 rfl) ml_M_281 mv_M_add ⟨rfl, by decide⟩ (zg_some e_σ18).1 (by decide) [.int 2, .int 0] [] rfl (Nat.le_of_ble_eq_true rfl) rfl (m_M_add e_σ18) ?_
          change zPJ X 0 0 _ _ [] _
          refine zj_aload_n o (zdd k_M_close 39 rfl) rfl 0 rfl ?_
          refine zj_dup o (zdd k_M_close 40 rfl) rfl ?_
          obtain ⟨x19, e_x19, h⟩ := zbd h
          refine zj_gI o (zdd k_M_close 41 rfl) fl_M_284 rfl e_x19 ?_
          refine zj_iconst o (zdd k_M_close 42 rfl) zki_1 ?_
          refine zj_isub o (zdd k_M_close 43 rfl) ?_
          obtain ⟨σ20, e_σ20, h⟩ := zbd h
          refine zj_pI o (zdd k_M_close 44 rfl) fl_M_284 rfl rfl e_σ20 ?_
          refine zj_goto (tgt := 0) o (zdd k_M_close 45 rfl) (by decide) ?_
          exact zj_sub [0, 1] rfl (hk0 h hr)
def f_M_close_0L : Nat → zSt → Nat → Int32 → Option (zSt)
  | 0 => fun _ _ _ => none
  | n + 1 => f_M_close_0  (f_M_close_0L  n)
theorem r_M_close_0L {X : zCX} (o : zOK X "WantShelvesModel" c_M_close n_M_close 2) : ∀ (n : Nat) {σ : zSt} {v0 : Nat} {v1 : Int32} {z : zSt}, f_M_close_0L n σ v0 v1 = some z → zRX X 0 0 none z → zPJ X 0 0 0 [(0, .ref v0), (1, .int v1)] [] σ
  | 0 => fun h _ => by cases h
  | n + 1 => fun h hr => r_M_close_0 o (r_M_close_0L o  n) h hr
def f_M_close (σ : zSt) (t : Nat) (p0 : Int32) : Option (zSt) :=
zg σ 12 t (
f_M_close_0L zfu σ t p0)
set_option maxRecDepth 100000 in
set_option maxHeartbeats 4000000 in
theorem m_M_close {l : Launch} {b : Nat} {ex : Nat → Value} {D : va_G} {ca : Nat → ClassId} {σ : zSt} {t : Nat} {p0 : Int32} {z : zSt} (h : f_M_close σ t p0 = some z) : zMT l b ex D ca 2 y_M_close c_M_close n_M_close r_ret_M_close [.ref t, .int p0] σ none z 0 0 := by
  obtain ⟨_, hg0⟩ := zg_some h
  have h := hg0
  refine zmt_of (by decide) (Nat.le_of_ble_eq_true rfl) rfl (fun X o hin hrm _ _ _ _ _ hr => ?_)
  have hr := hr 0 0 (by decide) (by decide)
  have o : zOK X "WantShelvesModel" c_M_close n_M_close 2 := o
  change zPJ X 0 0 0 [(0, .ref t), (1, .int p0)] [] σ
  exact zj_sub [0, 1] rfl (r_M_close_0L o  zfu h hr)
def f_M_hasRelation_41 (σ : zSt) (v0 : Nat) (v1 : Int32) : Option (Int32) :=
if v1 < 0 then (
some 0) else
(zgP σ 12 v0 17).bind fun a1 =>
(zaI σ 1 a1 v1).bind fun x2 =>
if x2 = 20 then (
some 0) else
(zgP σ 12 v0 17).bind fun a3 =>
(zaI σ 1 a3 v1).bind fun x4 =>
(f_M_tight x4).bind fun x5 =>
if x5 = 4 then (
some 1) else
some 0
set_option maxRecDepth 100000 in
set_option maxHeartbeats 4000000 in
theorem r_M_hasRelation_41 {X : zCX} (o : zOK X "WantShelvesModel" c_M_hasRelation n_M_hasRelation 2) {σ : zSt} {v0 : Nat} {v1 : Int32} {z : Int32} (h : f_M_hasRelation_41 σ v0 v1 = some z) (hr : zRX X 0 0 (some (.int z)) σ) : zPJ X 0 0 41 [(0, .ref v0), (1, .int v1)] [] σ := by
  unfold f_M_hasRelation_41 at h
  refine zj_iload_n o (zdd k_M_hasRelation 22 rfl) rfl 1 rfl ?_
  refine zj_if_lt (tgt := 73) o (zdd k_M_hasRelation 23 rfl) (by decide) (fun hc => ?_) (fun hc => ?_)
  · rw [if_pos hc] at h
    refine zj_iconst o (zdd k_M_hasRelation 39 rfl) zki_0 ?_
    cases h
    exact zr_i o hr (zdd k_M_hasRelation 40 rfl)
  · rw [if_neg hc] at h
    refine zj_aload_n o (zdd k_M_hasRelation 24 rfl) rfl 0 rfl ?_
    obtain ⟨a1, e_a1, h⟩ := zbd h
    refine zj_gP o (zdd k_M_hasRelation 25 rfl) fl_M_39 rfl e_a1 ?_
    refine zj_iload_n o (zdd k_M_hasRelation 26 rfl) rfl 1 rfl ?_
    obtain ⟨x2, e_x2, h⟩ := zbd h
    refine zj_iald o (zdd k_M_hasRelation 27 rfl) e_x2 ?_
    refine zj_bipush o (zdd k_M_hasRelation 28 rfl) zkb_20 ?_
    refine zj_icmp_eq (tgt := 73) o (zdd k_M_hasRelation 29 rfl) (by decide) (fun hc => ?_) (fun hc => ?_)
    · rw [if_pos hc] at h
      refine zj_iconst o (zdd k_M_hasRelation 39 rfl) zki_0 ?_
      cases h
      exact zr_i o hr (zdd k_M_hasRelation 40 rfl)
    · rw [if_neg hc] at h
      refine zj_aload_n o (zdd k_M_hasRelation 30 rfl) rfl 0 rfl ?_
      obtain ⟨a3, e_a3, h⟩ := zbd h
      refine zj_gP o (zdd k_M_hasRelation 31 rfl) fl_M_39 rfl e_a3 ?_
      refine zj_iload_n o (zdd k_M_hasRelation 32 rfl) rfl 1 rfl ?_
      obtain ⟨x4, e_x4, h⟩ := zbd h
      refine zj_iald o (zdd k_M_hasRelation 33 rfl) e_x4 ?_
      obtain ⟨x5, e_x5, h⟩ := zbd h
      refine zc_S o (zdd k_M_hasRelation 34 rfl) ml_M_278 ms_M_tight (by decide) [.int x4] [] rfl (Nat.le_of_ble_eq_true rfl) rfl (m_M_tight e_x5) ?_
      change zPJ X 0 0 _ _ [.int x5] _
      refine zj_iconst o (zdd k_M_hasRelation 35 rfl) zki_4 ?_
      refine zj_icmp_ne (tgt := 73) o (zdd k_M_hasRelation 36 rfl) (by decide) (fun hc => ?_) (fun hc => ?_)
      · rw [if_neg hc] at h
        refine zj_iconst o (zdd k_M_hasRelation 39 rfl) zki_0 ?_
        cases h
        exact zr_i o hr (zdd k_M_hasRelation 40 rfl)
      · rw [if_pos hc] at h
        refine zj_iconst o (zdd k_M_hasRelation 37 rfl) zki_1 ?_
        refine zj_goto (tgt := 74) o (zdd k_M_hasRelation 38 rfl) (by decide) ?_
        cases h
        exact zr_i o hr (zdd k_M_hasRelation 40 rfl)
def f_M_hasRelation_7 (k7 : zSt → Nat → Int32 → Option (Int32)) (σ : zSt) (v0 : Nat) (v1 : Int32) : Option (Int32) :=
if v1 < 0 then (
f_M_hasRelation_41 σ v0 v1) else
(zgP σ 12 v0 17).bind fun a1 =>
(zaI σ 1 a1 v1).bind fun x2 =>
if x2 = 20 then (
f_M_hasRelation_41 σ v0 v1) else
(zgP σ 12 v0 17).bind fun a3 =>
(zaI σ 1 a3 v1).bind fun x4 =>
(f_M_tight x4).bind fun x5 =>
if x5 ≤ 4 then (
f_M_hasRelation_41 σ v0 v1) else
k7 σ v0 (v1 + (-1))
set_option maxRecDepth 100000 in
set_option maxHeartbeats 4000000 in
theorem r_M_hasRelation_7 {X : zCX} (o : zOK X "WantShelvesModel" c_M_hasRelation n_M_hasRelation 2) {k7 : zSt → Nat → Int32 → Option (Int32)} (hk7 : ∀ {σ : zSt} {v0 : Nat} {v1 : Int32} {z : Int32}, k7 σ v0 v1 = some z → zRX X 0 0 (some (.int z)) σ → zPJ X 0 0 7 [(0, .ref v0), (1, .int v1)] [] σ) {σ : zSt} {v0 : Nat} {v1 : Int32} {z : Int32} (h : f_M_hasRelation_7 k7 σ v0 v1 = some z) (hr : zRX X 0 0 (some (.int z)) σ) : zPJ X 0 0 7 [(0, .ref v0), (1, .int v1)] [] σ := by
  unfold f_M_hasRelation_7 at h
  refine zj_iload_n o (zdd k_M_hasRelation 5 rfl) rfl 1 rfl ?_
  refine zj_if_lt (tgt := 41) o (zdd k_M_hasRelation 6 rfl) (by decide) (fun hc => ?_) (fun hc => ?_)
  · rw [if_pos hc] at h
    exact zj_sub [0, 1] rfl (r_M_hasRelation_41 o  h hr)
  · rw [if_neg hc] at h
    refine zj_aload_n o (zdd k_M_hasRelation 7 rfl) rfl 0 rfl ?_
    obtain ⟨a1, e_a1, h⟩ := zbd h
    refine zj_gP o (zdd k_M_hasRelation 8 rfl) fl_M_39 rfl e_a1 ?_
    refine zj_iload_n o (zdd k_M_hasRelation 9 rfl) rfl 1 rfl ?_
    obtain ⟨x2, e_x2, h⟩ := zbd h
    refine zj_iald o (zdd k_M_hasRelation 10 rfl) e_x2 ?_
    refine zj_bipush o (zdd k_M_hasRelation 11 rfl) zkb_20 ?_
    refine zj_icmp_eq (tgt := 41) o (zdd k_M_hasRelation 12 rfl) (by decide) (fun hc => ?_) (fun hc => ?_)
    · rw [if_pos hc] at h
      exact zj_sub [0, 1] rfl (r_M_hasRelation_41 o  h hr)
    · rw [if_neg hc] at h
      refine zj_aload_n o (zdd k_M_hasRelation 13 rfl) rfl 0 rfl ?_
      obtain ⟨a3, e_a3, h⟩ := zbd h
      refine zj_gP o (zdd k_M_hasRelation 14 rfl) fl_M_39 rfl e_a3 ?_
      refine zj_iload_n o (zdd k_M_hasRelation 15 rfl) rfl 1 rfl ?_
      obtain ⟨x4, e_x4, h⟩ := zbd h
      refine zj_iald o (zdd k_M_hasRelation 16 rfl) e_x4 ?_
      obtain ⟨x5, e_x5, h⟩ := zbd h
      refine zc_S o (zdd k_M_hasRelation 17 rfl) ml_M_278 ms_M_tight (by decide) [.int x4] [] rfl (Nat.le_of_ble_eq_true rfl) rfl (m_M_tight e_x5) ?_
      change zPJ X 0 0 _ _ [.int x5] _
      refine zj_iconst o (zdd k_M_hasRelation 18 rfl) zki_4 ?_
      refine zj_icmp_le (tgt := 41) o (zdd k_M_hasRelation 19 rfl) (by decide) (fun hc => ?_) (fun hc => ?_)
      · rw [if_pos hc] at h
        exact zj_sub [0, 1] rfl (r_M_hasRelation_41 o  h hr)
      · rw [if_neg hc] at h
        refine zj_iinc (v := v1 + (-1)) (loc' := [(1, .int (v1 + (-1))), (0, .ref v0)]) o (zdd k_M_hasRelation 20 rfl) 1 rfl (by rw [zki_m1]) (by decide) rfl ?_
        refine zj_goto (tgt := 7) o (zdd k_M_hasRelation 21 rfl) (by decide) ?_
        exact zj_sub [1, 0] rfl (hk7 h hr)
def f_M_hasRelation_7L : Nat → zSt → Nat → Int32 → Option (Int32)
  | 0 => fun _ _ _ => none
  | n + 1 => f_M_hasRelation_7  (f_M_hasRelation_7L  n)
theorem r_M_hasRelation_7L {X : zCX} (o : zOK X "WantShelvesModel" c_M_hasRelation n_M_hasRelation 2) : ∀ (n : Nat) {σ : zSt} {v0 : Nat} {v1 : Int32} {z : Int32}, f_M_hasRelation_7L n σ v0 v1 = some z → zRX X 0 0 (some (.int z)) σ → zPJ X 0 0 7 [(0, .ref v0), (1, .int v1)] [] σ
  | 0 => fun h _ => by cases h
  | n + 1 => fun h hr => r_M_hasRelation_7 o (r_M_hasRelation_7L o  n) h hr
def f_M_hasRelation (σ : zSt) (t : Nat) : Option (Int32) :=
zg σ 12 t (
((zgI σ 12 t 20).bind fun x1 =>
f_M_hasRelation_7L zfu σ t (x1 - 1)).bind zbool)
set_option maxRecDepth 100000 in
set_option maxHeartbeats 4000000 in
theorem m_M_hasRelation {l : Launch} {b : Nat} {ex : Nat → Value} {D : va_G} {ca : Nat → ClassId} {σ : zSt} {t : Nat} {z : Int32} (h : f_M_hasRelation σ t = some z) : zMT l b ex D ca 2 y_M_hasRelation c_M_hasRelation n_M_hasRelation r_ret_M_hasRelation [.ref t] σ (some (.int z)) σ 0 0 := by
  obtain ⟨_, hg0⟩ := zg_some h
  obtain ⟨z0, hbd, hz⟩ := zbd hg0
  obtain ⟨hzb, rfl⟩ := zbool_some hz
  have h := hbd
  refine zmt_of (by decide) (Nat.le_of_ble_eq_true rfl) ⟨.boolean, rfl, zb_nar hzb⟩ (fun X o hin hrm _ _ _ _ _ hr => ?_)
  have hr := hr 0 0 (by decide) (by decide)
  have o : zOK X "WantShelvesModel" c_M_hasRelation n_M_hasRelation 2 := o
  change zPJ X 0 0 0 [(0, .ref t)] [] σ
  refine zj_aload_n o (zdd k_M_hasRelation 0 rfl) rfl 0 rfl ?_
  obtain ⟨x1, e_x1, h⟩ := zbd h
  refine zj_gI o (zdd k_M_hasRelation 1 rfl) fl_M_275 rfl e_x1 ?_
  refine zj_iconst o (zdd k_M_hasRelation 2 rfl) zki_1 ?_
  refine zj_isub o (zdd k_M_hasRelation 3 rfl) ?_
  refine zj_istore_n (loc' := [(1, .int (x1 - 1)), (0, .ref t)]) o (zdd k_M_hasRelation 4 rfl) rfl (by decide) rfl ?_
  exact zj_sub [1, 0] rfl (r_M_hasRelation_7L o  zfu h hr)
def f_M_mayNot (σ : zSt) (t : Nat) : Option (Int32) :=
zg σ 12 t (
((zgI σ 12 t 20).bind fun x1 =>
if x1 = 0 then (
some 1) else
(zgP σ 12 t 17).bind fun a2 =>
(zgI σ 12 t 20).bind fun x3 =>
(zaI σ 1 a2 (x3 - 1)).bind fun x4 =>
if x4 = 20 then (
some 1) else
(zgP σ 12 t 17).bind fun a5 =>
(zgI σ 12 t 20).bind fun x6 =>
(zaI σ 1 a5 (x6 - 1)).bind fun x7 =>
(f_M_tight x7).bind fun x8 =>
if 4 ≤ x8 then (
some 0) else
some 1).bind zbool)
set_option maxRecDepth 100000 in
set_option maxHeartbeats 4000000 in
theorem m_M_mayNot {l : Launch} {b : Nat} {ex : Nat → Value} {D : va_G} {ca : Nat → ClassId} {σ : zSt} {t : Nat} {z : Int32} (h : f_M_mayNot σ t = some z) : zMT l b ex D ca 2 y_M_mayNot c_M_mayNot n_M_mayNot r_ret_M_mayNot [.ref t] σ (some (.int z)) σ 0 0 := by
  obtain ⟨_, hg0⟩ := zg_some h
  obtain ⟨z0, hbd, hz⟩ := zbd hg0
  obtain ⟨hzb, rfl⟩ := zbool_some hz
  have h := hbd
  refine zmt_of (by decide) (Nat.le_of_ble_eq_true rfl) ⟨.boolean, rfl, zb_nar hzb⟩ (fun X o hin hrm _ _ _ _ _ hr => ?_)
  have hr := hr 0 0 (by decide) (by decide)
  have o : zOK X "WantShelvesModel" c_M_mayNot n_M_mayNot 2 := o
  change zPJ X 0 0 0 [(0, .ref t)] [] σ
  refine zj_aload_n o (zdd k_M_mayNot 0 rfl) rfl 0 rfl ?_
  obtain ⟨x1, e_x1, h⟩ := zbd h
  refine zj_gI o (zdd k_M_mayNot 1 rfl) fl_M_275 rfl e_x1 ?_
  refine zj_if_eq (tgt := 41) o (zdd k_M_mayNot 2 rfl) (by decide) (fun hc => ?_) (fun hc => ?_)
  · rw [if_pos hc] at h
    refine zj_iconst o (zdd k_M_mayNot 22 rfl) zki_1 ?_
    refine zj_goto (tgt := 46) o (zdd k_M_mayNot 23 rfl) (by decide) ?_
    cases h
    exact zr_i o hr (zdd k_M_mayNot 25 rfl)
  · rw [if_neg hc] at h
    refine zj_aload_n o (zdd k_M_mayNot 3 rfl) rfl 0 rfl ?_
    obtain ⟨a2, e_a2, h⟩ := zbd h
    refine zj_gP o (zdd k_M_mayNot 4 rfl) fl_M_39 rfl e_a2 ?_
    refine zj_aload_n o (zdd k_M_mayNot 5 rfl) rfl 0 rfl ?_
    obtain ⟨x3, e_x3, h⟩ := zbd h
    refine zj_gI o (zdd k_M_mayNot 6 rfl) fl_M_275 rfl e_x3 ?_
    refine zj_iconst o (zdd k_M_mayNot 7 rfl) zki_1 ?_
    refine zj_isub o (zdd k_M_mayNot 8 rfl) ?_
    obtain ⟨x4, e_x4, h⟩ := zbd h
    refine zj_iald o (zdd k_M_mayNot 9 rfl) e_x4 ?_
    refine zj_bipush o (zdd k_M_mayNot 10 rfl) zkb_20 ?_
    refine zj_icmp_eq (tgt := 41) o (zdd k_M_mayNot 11 rfl) (by decide) (fun hc => ?_) (fun hc => ?_)
    · rw [if_pos hc] at h
      refine zj_iconst o (zdd k_M_mayNot 22 rfl) zki_1 ?_
      refine zj_goto (tgt := 46) o (zdd k_M_mayNot 23 rfl) (by decide) ?_
      cases h
      exact zr_i o hr (zdd k_M_mayNot 25 rfl)
    · rw [if_neg hc] at h
      refine zj_aload_n o (zdd k_M_mayNot 12 rfl) rfl 0 rfl ?_
      obtain ⟨a5, e_a5, h⟩ := zbd h
      refine zj_gP o (zdd k_M_mayNot 13 rfl) fl_M_39 rfl e_a5 ?_
      refine zj_aload_n o (zdd k_M_mayNot 14 rfl) rfl 0 rfl ?_
      obtain ⟨x6, e_x6, h⟩ := zbd h
      refine zj_gI o (zdd k_M_mayNot 15 rfl) fl_M_275 rfl e_x6 ?_
      refine zj_iconst o (zdd k_M_mayNot 16 rfl) zki_1 ?_
      refine zj_isub o (zdd k_M_mayNot 17 rfl) ?_
      obtain ⟨x7, e_x7, h⟩ := zbd h
      refine zj_iald o (zdd k_M_mayNot 18 rfl) e_x7 ?_
      obtain ⟨x8, e_x8, h⟩ := zbd h
      refine zc_S o (zdd k_M_mayNot 19 rfl) ml_M_278 ms_M_tight (by decide) [.int x7] [] rfl (Nat.le_of_ble_eq_true rfl) rfl (m_M_tight e_x8) ?_
      change zPJ X 0 0 _ _ [.int x8] _
      refine zj_iconst o (zdd k_M_mayNot 20 rfl) zki_4 ?_
      refine zj_icmp_ge (tgt := 45) o (zdd k_M_mayNot 21 rfl) (by decide) (fun hc => ?_) (fun hc => ?_)
      · rw [if_pos hc] at h
        refine zj_iconst o (zdd k_M_mayNot 24 rfl) zki_0 ?_
        cases h
        exact zr_i o hr (zdd k_M_mayNot 25 rfl)
      · rw [if_neg hc] at h
        refine zj_iconst o (zdd k_M_mayNot 22 rfl) zki_1 ?_
        refine zj_goto (tgt := 46) o (zdd k_M_mayNot 23 rfl) (by decide) ?_
        cases h
        exact zr_i o hr (zdd k_M_mayNot 25 rfl)
def f_M_asked (σ : zSt) (t : Nat) : Option (Int32) :=
zg σ 12 t (
(zgI σ 12 t 6).bind fun x1 =>
if x1 = 1 then (
(zgJ σ 12 t 9).bind fun x2 =>
if lg_cmp x2 2002873972 = 0 then (
some 0) else
(zgJ σ 12 t 9).bind fun x3 =>
if lg_cmp x3 478711081076 = 0 then (
some 1) else
(zgJ σ 12 t 9).bind fun x4 =>
if lg_cmp x4 7302244 = 0 then (
some 2) else
(zgJ σ 12 t 9).bind fun x5 =>
if lg_cmp x5 131277443786868 = 0 then (
some 3) else
(zgJ σ 12 t 9).bind fun x6 =>
if lg_cmp x6 491327153267 = 0 then (
some 4) else
(zgJ σ 12 t 9).bind fun x7 =>
if lg_cmp x7 121450625394034 = 0 then (
some 5) else
some (-1)) else
some (-1))
set_option maxRecDepth 100000 in
set_option maxHeartbeats 4000000 in
theorem m_M_asked {l : Launch} {b : Nat} {ex : Nat → Value} {D : va_G} {ca : Nat → ClassId} {σ : zSt} {t : Nat} {z : Int32} (h : f_M_asked σ t = some z) : zMT l b ex D ca 1 y_M_asked c_M_asked n_M_asked r_ret_M_asked [.ref t] σ (some (.int z)) σ 0 0 := by
  obtain ⟨_, hg0⟩ := zg_some h
  have h := hg0
  refine zmt_of (by decide) (Nat.le_of_ble_eq_true rfl) ⟨.int, rfl, rfl⟩ (fun X o hin hrm _ _ _ _ _ hr => ?_)
  have hr := hr 0 0 (by decide) (by decide)
  have o : zOK X "WantShelvesModel" c_M_asked n_M_asked 1 := o
  change zPJ X 0 0 0 [(0, .ref t)] [] σ
  refine zj_aload_n o (zdd k_M_asked 0 rfl) rfl 0 rfl ?_
  obtain ⟨x1, e_x1, h⟩ := zbd h
  refine zj_gI o (zdd k_M_asked 1 rfl) fl_M_175 rfl e_x1 ?_
  refine zj_iconst o (zdd k_M_asked 2 rfl) zki_1 ?_
  refine zj_icmp_eq (tgt := 10) o (zdd k_M_asked 3 rfl) (by decide) (fun hc => ?_) (fun hc => ?_)
  · rw [if_pos hc] at h
    refine zj_aload_n o (zdd k_M_asked 6 rfl) rfl 0 rfl ?_
    obtain ⟨x2, e_x2, h⟩ := zbd h
    refine zj_gJ o (zdd k_M_asked 7 rfl) fl_M_168 rfl e_x2 ?_
    refine zj_ldc2 o (zdd k_M_asked 8 rfl) lc_M_221 ?_
    refine zj_lcmp o (zdd k_M_asked 9 rfl) ?_
    refine zj_if_ne (tgt := 23) o (zdd k_M_asked 10 rfl) (by decide) (fun hc => ?_) (fun hc => ?_)
    · rw [if_neg hc] at h
      refine zj_aload_n o (zdd k_M_asked 13 rfl) rfl 0 rfl ?_
      obtain ⟨x3, e_x3, h⟩ := zbd h
      refine zj_gJ o (zdd k_M_asked 14 rfl) fl_M_168 rfl e_x3 ?_
      refine zj_ldc2 o (zdd k_M_asked 15 rfl) lc_M_201 ?_
      refine zj_lcmp o (zdd k_M_asked 16 rfl) ?_
      refine zj_if_ne (tgt := 36) o (zdd k_M_asked 17 rfl) (by decide) (fun hc => ?_) (fun hc => ?_)
      · rw [if_neg hc] at h
        refine zj_aload_n o (zdd k_M_asked 20 rfl) rfl 0 rfl ?_
        obtain ⟨x4, e_x4, h⟩ := zbd h
        refine zj_gJ o (zdd k_M_asked 21 rfl) fl_M_168 rfl e_x4 ?_
        refine zj_ldc2 o (zdd k_M_asked 22 rfl) lc_M_223 ?_
        refine zj_lcmp o (zdd k_M_asked 23 rfl) ?_
        refine zj_if_ne (tgt := 49) o (zdd k_M_asked 24 rfl) (by decide) (fun hc => ?_) (fun hc => ?_)
        · rw [if_neg hc] at h
          refine zj_aload_n o (zdd k_M_asked 27 rfl) rfl 0 rfl ?_
          obtain ⟨x5, e_x5, h⟩ := zbd h
          refine zj_gJ o (zdd k_M_asked 28 rfl) fl_M_168 rfl e_x5 ?_
          refine zj_ldc2 o (zdd k_M_asked 29 rfl) lc_M_225 ?_
          refine zj_lcmp o (zdd k_M_asked 30 rfl) ?_
          refine zj_if_ne (tgt := 62) o (zdd k_M_asked 31 rfl) (by decide) (fun hc => ?_) (fun hc => ?_)
          · rw [if_neg hc] at h
            refine zj_aload_n o (zdd k_M_asked 34 rfl) rfl 0 rfl ?_
            obtain ⟨x6, e_x6, h⟩ := zbd h
            refine zj_gJ o (zdd k_M_asked 35 rfl) fl_M_168 rfl e_x6 ?_
            refine zj_ldc2 o (zdd k_M_asked 36 rfl) lc_M_227 ?_
            refine zj_lcmp o (zdd k_M_asked 37 rfl) ?_
            refine zj_if_ne (tgt := 75) o (zdd k_M_asked 38 rfl) (by decide) (fun hc => ?_) (fun hc => ?_)
            · rw [if_neg hc] at h
              refine zj_aload_n o (zdd k_M_asked 41 rfl) rfl 0 rfl ?_
              obtain ⟨x7, e_x7, h⟩ := zbd h
              refine zj_gJ o (zdd k_M_asked 42 rfl) fl_M_168 rfl e_x7 ?_
              refine zj_ldc2 o (zdd k_M_asked 43 rfl) lc_M_229 ?_
              refine zj_lcmp o (zdd k_M_asked 44 rfl) ?_
              refine zj_if_ne (tgt := 90) o (zdd k_M_asked 45 rfl) (by decide) (fun hc => ?_) (fun hc => ?_)
              · rw [if_neg hc] at h
                refine zj_iconst o (zdd k_M_asked 48 rfl) zki_m1 ?_
                cases h
                exact zr_i o hr (zdd k_M_asked 49 rfl)
              · rw [if_pos hc] at h
                refine zj_iconst o (zdd k_M_asked 46 rfl) zki_5 ?_
                refine zj_goto (tgt := 91) o (zdd k_M_asked 47 rfl) (by decide) ?_
                cases h
                exact zr_i o hr (zdd k_M_asked 49 rfl)
            · rw [if_pos hc] at h
              refine zj_iconst o (zdd k_M_asked 39 rfl) zki_4 ?_
              cases h
              exact zr_i o hr (zdd k_M_asked 40 rfl)
          · rw [if_pos hc] at h
            refine zj_iconst o (zdd k_M_asked 32 rfl) zki_3 ?_
            cases h
            exact zr_i o hr (zdd k_M_asked 33 rfl)
        · rw [if_pos hc] at h
          refine zj_iconst o (zdd k_M_asked 25 rfl) zki_2 ?_
          cases h
          exact zr_i o hr (zdd k_M_asked 26 rfl)
      · rw [if_pos hc] at h
        refine zj_iconst o (zdd k_M_asked 18 rfl) zki_1 ?_
        cases h
        exact zr_i o hr (zdd k_M_asked 19 rfl)
    · rw [if_pos hc] at h
      refine zj_iconst o (zdd k_M_asked 11 rfl) zki_0 ?_
      cases h
      exact zr_i o hr (zdd k_M_asked 12 rfl)
  · rw [if_neg hc] at h
    refine zj_iconst o (zdd k_M_asked 4 rfl) zki_m1 ?_
    cases h
    exact zr_i o hr (zdd k_M_asked 5 rfl)
def f_M_isFull (σ : zSt) (t : Nat) : Option (Int32) :=
zg σ 12 t (
((zgI σ 12 t 21).bind fun x1 =>
if x1 = 60 then (
some 1) else
(zgI σ 12 t 23).bind fun x2 =>
if x2 = 30 then (
some 1) else
some 0).bind zbool)
set_option maxRecDepth 100000 in
set_option maxHeartbeats 4000000 in
theorem m_M_isFull {l : Launch} {b : Nat} {ex : Nat → Value} {D : va_G} {ca : Nat → ClassId} {σ : zSt} {t : Nat} {z : Int32} (h : f_M_isFull σ t = some z) : zMT l b ex D ca 1 y_M_isFull c_M_isFull n_M_isFull r_ret_M_isFull [.ref t] σ (some (.int z)) σ 0 0 := by
  obtain ⟨_, hg0⟩ := zg_some h
  obtain ⟨z0, hbd, hz⟩ := zbd hg0
  obtain ⟨hzb, rfl⟩ := zbool_some hz
  have h := hbd
  refine zmt_of (by decide) (Nat.le_of_ble_eq_true rfl) ⟨.boolean, rfl, zb_nar hzb⟩ (fun X o hin hrm _ _ _ _ _ hr => ?_)
  have hr := hr 0 0 (by decide) (by decide)
  have o : zOK X "WantShelvesModel" c_M_isFull n_M_isFull 1 := o
  change zPJ X 0 0 0 [(0, .ref t)] [] σ
  refine zj_aload_n o (zdd k_M_isFull 0 rfl) rfl 0 rfl ?_
  obtain ⟨x1, e_x1, h⟩ := zbd h
  refine zj_gI o (zdd k_M_isFull 1 rfl) fl_M_287 rfl e_x1 ?_
  refine zj_bipush o (zdd k_M_isFull 2 rfl) zkb_60 ?_
  refine zj_icmp_eq (tgt := 18) o (zdd k_M_isFull 3 rfl) (by decide) (fun hc => ?_) (fun hc => ?_)
  · rw [if_pos hc] at h
    refine zj_iconst o (zdd k_M_isFull 8 rfl) zki_1 ?_
    refine zj_goto (tgt := 23) o (zdd k_M_isFull 9 rfl) (by decide) ?_
    cases h
    exact zr_i o hr (zdd k_M_isFull 11 rfl)
  · rw [if_neg hc] at h
    refine zj_aload_n o (zdd k_M_isFull 4 rfl) rfl 0 rfl ?_
    obtain ⟨x2, e_x2, h⟩ := zbd h
    refine zj_gI o (zdd k_M_isFull 5 rfl) fl_M_290 rfl e_x2 ?_
    refine zj_bipush o (zdd k_M_isFull 6 rfl) zkb_30 ?_
    refine zj_icmp_ne (tgt := 22) o (zdd k_M_isFull 7 rfl) (by decide) (fun hc => ?_) (fun hc => ?_)
    · rw [if_neg hc] at h
      refine zj_iconst o (zdd k_M_isFull 10 rfl) zki_0 ?_
      cases h
      exact zr_i o hr (zdd k_M_isFull 11 rfl)
    · rw [if_pos hc] at h
      refine zj_iconst o (zdd k_M_isFull 8 rfl) zki_1 ?_
      refine zj_goto (tgt := 23) o (zdd k_M_isFull 9 rfl) (by decide) ?_
      cases h
      exact zr_i o hr (zdd k_M_isFull 11 rfl)
def f_M_countUnit (σ : zSt) (t : Nat) : Option (zSt) :=
zg σ 12 t (
(zgI σ 12 t 21).bind fun x1 =>
(zsI σ 12 t 21 (x1 + 1)).bind fun σ2 =>
(zgI σ2 12 t 23).bind fun x3 =>
(zsI σ2 12 t 23 (x3 + 1)).bind fun σ4 =>
some σ4)
set_option maxRecDepth 100000 in
set_option maxHeartbeats 4000000 in
theorem m_M_countUnit {l : Launch} {b : Nat} {ex : Nat → Value} {D : va_G} {ca : Nat → ClassId} {σ : zSt} {t : Nat} {z : zSt} (h : f_M_countUnit σ t = some z) : zMT l b ex D ca 1 y_M_countUnit c_M_countUnit n_M_countUnit r_ret_M_countUnit [.ref t] σ none z 0 0 := by
  obtain ⟨_, hg0⟩ := zg_some h
  have h := hg0
  refine zmt_of (by decide) (Nat.le_of_ble_eq_true rfl) rfl (fun X o hin hrm _ _ _ _ _ hr => ?_)
  have hr := hr 0 0 (by decide) (by decide)
  have o : zOK X "WantShelvesModel" c_M_countUnit n_M_countUnit 1 := o
  change zPJ X 0 0 0 [(0, .ref t)] [] σ
  refine zj_aload_n o (zdd k_M_countUnit 0 rfl) rfl 0 rfl ?_
  refine zj_dup o (zdd k_M_countUnit 1 rfl) rfl ?_
  obtain ⟨x1, e_x1, h⟩ := zbd h
  refine zj_gI o (zdd k_M_countUnit 2 rfl) fl_M_287 rfl e_x1 ?_
  refine zj_iconst o (zdd k_M_countUnit 3 rfl) zki_1 ?_
  refine zj_iadd o (zdd k_M_countUnit 4 rfl) ?_
  obtain ⟨σ2, e_σ2, h⟩ := zbd h
  refine zj_pI o (zdd k_M_countUnit 5 rfl) fl_M_287 rfl rfl e_σ2 ?_
  refine zj_aload_n o (zdd k_M_countUnit 6 rfl) rfl 0 rfl ?_
  refine zj_dup o (zdd k_M_countUnit 7 rfl) rfl ?_
  obtain ⟨x3, e_x3, h⟩ := zbd h
  refine zj_gI o (zdd k_M_countUnit 8 rfl) fl_M_290 rfl e_x3 ?_
  refine zj_iconst o (zdd k_M_countUnit 9 rfl) zki_1 ?_
  refine zj_iadd o (zdd k_M_countUnit 10 rfl) ?_
  obtain ⟨σ4, e_σ4, h⟩ := zbd h
  refine zj_pI o (zdd k_M_countUnit 11 rfl) fl_M_290 rfl rfl e_σ4 ?_
  cases h
  exact zr_v o hr (zdd k_M_countUnit 12 rfl)
def f_M_openUp (σ : zSt) (t : Nat) (p0 : Int32) : Option (zSt) :=
zg σ 12 t (
(zgP σ 12 t 17).bind fun a1 =>
(zgI σ 12 t 20).bind fun x2 =>
(zwI σ 1 a1 x2 p0).bind fun σ3 =>
(zgI σ3 12 t 20).bind fun x4 =>
(zsI σ3 12 t 20 (x4 + 1)).bind fun σ5 =>
(zgI σ5 12 t 24).bind fun x6 =>
(zsI σ5 12 t 24 (x6 + 1)).bind fun σ7 =>
(zgI σ7 12 t 2).bind fun x8 =>
if x8 = 0 then (
(f_M_token σ7 t).bind fun σ9 =>
some σ9) else
some σ7)
set_option maxRecDepth 100000 in
set_option maxHeartbeats 4000000 in
theorem m_M_openUp {l : Launch} {b : Nat} {ex : Nat → Value} {D : va_G} {ca : Nat → ClassId} {σ : zSt} {t : Nat} {p0 : Int32} {z : zSt} (h : f_M_openUp σ t p0 = some z) : zMT l b ex D ca 3 y_M_openUp c_M_openUp n_M_openUp r_ret_M_openUp [.ref t, .int p0] σ none z 0 0 := by
  obtain ⟨_, hg0⟩ := zg_some h
  have h := hg0
  refine zmt_of (by decide) (Nat.le_of_ble_eq_true rfl) rfl (fun X o hin hrm _ _ _ _ _ hr => ?_)
  have hr := hr 0 0 (by decide) (by decide)
  have o : zOK X "WantShelvesModel" c_M_openUp n_M_openUp 3 := o
  change zPJ X 0 0 0 [(0, .ref t), (1, .int p0)] [] σ
  refine zj_aload_n o (zdd k_M_openUp 0 rfl) rfl 0 rfl ?_
  obtain ⟨a1, e_a1, h⟩ := zbd h
  refine zj_gP o (zdd k_M_openUp 1 rfl) fl_M_39 rfl e_a1 ?_
  refine zj_aload_n o (zdd k_M_openUp 2 rfl) rfl 0 rfl ?_
  obtain ⟨x2, e_x2, h⟩ := zbd h
  refine zj_gI o (zdd k_M_openUp 3 rfl) fl_M_275 rfl e_x2 ?_
  refine zj_iload_n o (zdd k_M_openUp 4 rfl) rfl 1 rfl ?_
  obtain ⟨σ3, e_σ3, h⟩ := zbd h
  refine zj_iast o (zdd k_M_openUp 5 rfl) e_σ3 ?_
  refine zj_aload_n o (zdd k_M_openUp 6 rfl) rfl 0 rfl ?_
  refine zj_dup o (zdd k_M_openUp 7 rfl) rfl ?_
  obtain ⟨x4, e_x4, h⟩ := zbd h
  refine zj_gI o (zdd k_M_openUp 8 rfl) fl_M_275 rfl e_x4 ?_
  refine zj_iconst o (zdd k_M_openUp 9 rfl) zki_1 ?_
  refine zj_iadd o (zdd k_M_openUp 10 rfl) ?_
  obtain ⟨σ5, e_σ5, h⟩ := zbd h
  refine zj_pI o (zdd k_M_openUp 11 rfl) fl_M_275 rfl rfl e_σ5 ?_
  refine zj_aload_n o (zdd k_M_openUp 12 rfl) rfl 0 rfl ?_
  refine zj_dup o (zdd k_M_openUp 13 rfl) rfl ?_
  obtain ⟨x6, e_x6, h⟩ := zbd h
  refine zj_gI o (zdd k_M_openUp 14 rfl) fl_M_284 rfl e_x6 ?_
  refine zj_iconst o (zdd k_M_openUp 15 rfl) zki_1 ?_
  refine zj_iadd o (zdd k_M_openUp 16 rfl) ?_
  obtain ⟨σ7, e_σ7, h⟩ := zbd h
  refine zj_pI o (zdd k_M_openUp 17 rfl) fl_M_284 rfl rfl e_σ7 ?_
  refine zj_aload_n o (zdd k_M_openUp 18 rfl) rfl 0 rfl ?_
  obtain ⟨x8, e_x8, h⟩ := zbd h
  refine zj_gI o (zdd k_M_openUp 19 rfl) fl_M_188 rfl e_x8 ?_
  refine zj_if_ne (tgt := 41) o (zdd k_M_openUp 20 rfl) (by decide) (fun hc => ?_) (fun hc => ?_)
  · rw [if_neg hc] at h
    cases h
    exact zr_v o hr (zdd k_M_openUp 23 rfl)
  · rw [if_pos hc] at h
    refine zj_aload_n o (zdd k_M_openUp 21 rfl) rfl 0 rfl ?_
    obtain ⟨σ9, e_σ9, h⟩ := zbd h
    refine zc_V o (zdd k_M_openUp 22 rfl) ml_M_248 mv_M_token ⟨rfl, by decide⟩ (zg_some e_σ9).1 (by decide) [] [] rfl (Nat.le_of_ble_eq_true rfl) rfl (m_M_token e_σ9) ?_
    change zPJ X 0 0 _ _ [] _
    cases h
    exact zr_v o hr (zdd k_M_openUp 23 rfl)
def f_M_unit_44 (k2 : zSt → Nat → Int32 → Option (zSt)) (σ : zSt) (v0 : Nat) (v1 : Int32) : Option (zSt) :=
(f_M_openUp σ v0 21).bind fun σ1 =>
k2 σ1 v0 v1
set_option maxRecDepth 100000 in
set_option maxHeartbeats 4000000 in
theorem r_M_unit_44 {X : zCX} (o : zOK X "WantShelvesModel" c_M_unit n_M_unit 4) {k2 : zSt → Nat → Int32 → Option (zSt)} (hk2 : ∀ {σ : zSt} {v0 : Nat} {v1 : Int32} {z : zSt}, k2 σ v0 v1 = some z → zRX X 0 0 none z → zPJ X 0 0 2 [(0, .ref v0), (1, .int v1)] [] σ) {σ : zSt} {v0 : Nat} {v1 : Int32} {z : zSt} (h : f_M_unit_44 k2 σ v0 v1 = some z) (hr : zRX X 0 0 none z) : zPJ X 0 0 44 [(0, .ref v0), (1, .int v1)] [] σ := by
  unfold f_M_unit_44 at h
  refine zj_aload_n o (zdd k_M_unit 21 rfl) rfl 0 rfl ?_
  refine zj_bipush o (zdd k_M_unit 22 rfl) zkb_21 ?_
  obtain ⟨σ1, e_σ1, h⟩ := zbd h
  refine zc_V o (zdd k_M_unit 23 rfl) ml_M_296 mv_M_openUp ⟨rfl, by decide⟩ (zg_some e_σ1).1 (by decide) [.int 21] [] rfl (Nat.le_of_ble_eq_true rfl) rfl (m_M_openUp e_σ1) ?_
  change zPJ X 0 0 _ _ [] _
  refine zj_goto (tgt := 2) o (zdd k_M_unit 24 rfl) (by decide) ?_
  exact zj_sub [0, 1] rfl (hk2 h hr)
def f_M_unit_83 (k2 : zSt → Nat → Int32 → Option (zSt)) (σ : zSt) (v0 : Nat) (v1 : Int32) : Option (zSt) :=
(f_M_countUnit σ v0).bind fun σ1 =>
(f_M_openUp σ1 v0 20).bind fun σ2 =>
k2 σ2 v0 v1
set_option maxRecDepth 100000 in
set_option maxHeartbeats 4000000 in
theorem r_M_unit_83 {X : zCX} (o : zOK X "WantShelvesModel" c_M_unit n_M_unit 4) {k2 : zSt → Nat → Int32 → Option (zSt)} (hk2 : ∀ {σ : zSt} {v0 : Nat} {v1 : Int32} {z : zSt}, k2 σ v0 v1 = some z → zRX X 0 0 none z → zPJ X 0 0 2 [(0, .ref v0), (1, .int v1)] [] σ) {σ : zSt} {v0 : Nat} {v1 : Int32} {z : zSt} (h : f_M_unit_83 k2 σ v0 v1 = some z) (hr : zRX X 0 0 none z) : zPJ X 0 0 83 [(0, .ref v0), (1, .int v1)] [] σ := by
  unfold f_M_unit_83 at h
  refine zj_aload_n o (zdd k_M_unit 39 rfl) rfl 0 rfl ?_
  obtain ⟨σ1, e_σ1, h⟩ := zbd h
  refine zc_V o (zdd k_M_unit 40 rfl) ml_M_302 mv_M_countUnit ⟨rfl, by decide⟩ (zg_some e_σ1).1 (by decide) [] [] rfl (Nat.le_of_ble_eq_true rfl) rfl (m_M_countUnit e_σ1) ?_
  change zPJ X 0 0 _ _ [] _
  refine zj_aload_n o (zdd k_M_unit 41 rfl) rfl 0 rfl ?_
  refine zj_bipush o (zdd k_M_unit 42 rfl) zkb_20 ?_
  obtain ⟨σ2, e_σ2, h⟩ := zbd h
  refine zc_V o (zdd k_M_unit 43 rfl) ml_M_296 mv_M_openUp ⟨rfl, by decide⟩ (zg_some e_σ2).1 (by decide) [.int 20] [] rfl (Nat.le_of_ble_eq_true rfl) rfl (m_M_openUp e_σ2) ?_
  change zPJ X 0 0 _ _ [] _
  refine zj_goto (tgt := 2) o (zdd k_M_unit 44 rfl) (by decide) ?_
  exact zj_sub [0, 1] rfl (hk2 h hr)
def f_M_unit_78 (k2 : zSt → Nat → Int32 → Option (zSt)) (σ : zSt) (v0 : Nat) (v1 : Int32) : Option (zSt) :=
(f_M_wrong σ v0 2).bind fun σ1 =>
f_M_unit_83 k2 σ1 v0 v1
set_option maxRecDepth 100000 in
set_option maxHeartbeats 4000000 in
theorem r_M_unit_78 {X : zCX} (o : zOK X "WantShelvesModel" c_M_unit n_M_unit 4) {k2 : zSt → Nat → Int32 → Option (zSt)} (hk2 : ∀ {σ : zSt} {v0 : Nat} {v1 : Int32} {z : zSt}, k2 σ v0 v1 = some z → zRX X 0 0 none z → zPJ X 0 0 2 [(0, .ref v0), (1, .int v1)] [] σ) {σ : zSt} {v0 : Nat} {v1 : Int32} {z : zSt} (h : f_M_unit_78 k2 σ v0 v1 = some z) (hr : zRX X 0 0 none z) : zPJ X 0 0 78 [(0, .ref v0), (1, .int v1)] [] σ := by
  unfold f_M_unit_78 at h
  refine zj_aload_n o (zdd k_M_unit 36 rfl) rfl 0 rfl ?_
  refine zj_iconst o (zdd k_M_unit 37 rfl) zki_2 ?_
  obtain ⟨σ1, e_σ1, h⟩ := zbd h
  refine zc_V o (zdd k_M_unit 38 rfl) ml_M_245 mv_M_wrong ⟨rfl, by decide⟩ (zg_some e_σ1).1 (by decide) [.int 2] [] rfl (Nat.le_of_ble_eq_true rfl) rfl (m_M_wrong e_σ1) ?_
  change zPJ X 0 0 _ _ [] _
  exact zj_sub [0, 1] rfl (r_M_unit_83 o hk2 h hr)
def f_M_unit_53 (k2 : zSt → Nat → Int32 → Option (zSt)) (σ : zSt) (v0 : Nat) (v1 : Int32) : Option (zSt) :=
(zgI σ 12 v0 6).bind fun x1 =>
if x1 = 40 then (
(f_M_isFull σ v0).bind fun x2 =>
if x2 = 0 then (
(zgI σ 12 v0 24).bind fun x3 =>
if x3 ≤ 6 then (
f_M_unit_83 k2 σ v0 v1) else
f_M_unit_78 k2 σ v0 v1) else
f_M_unit_78 k2 σ v0 v1) else
k2 σ v0 0
set_option maxRecDepth 100000 in
set_option maxHeartbeats 4000000 in
theorem r_M_unit_53 {X : zCX} (o : zOK X "WantShelvesModel" c_M_unit n_M_unit 4) {k2 : zSt → Nat → Int32 → Option (zSt)} (hk2 : ∀ {σ : zSt} {v0 : Nat} {v1 : Int32} {z : zSt}, k2 σ v0 v1 = some z → zRX X 0 0 none z → zPJ X 0 0 2 [(0, .ref v0), (1, .int v1)] [] σ) {σ : zSt} {v0 : Nat} {v1 : Int32} {z : zSt} (h : f_M_unit_53 k2 σ v0 v1 = some z) (hr : zRX X 0 0 none z) : zPJ X 0 0 53 [(0, .ref v0), (1, .int v1)] [] σ := by
  unfold f_M_unit_53 at h
  refine zj_aload_n o (zdd k_M_unit 25 rfl) rfl 0 rfl ?_
  obtain ⟨x1, e_x1, h⟩ := zbd h
  refine zj_gI o (zdd k_M_unit 26 rfl) fl_M_175 rfl e_x1 ?_
  refine zj_bipush o (zdd k_M_unit 27 rfl) zkb_40 ?_
  refine zj_icmp_ne (tgt := 96) o (zdd k_M_unit 28 rfl) (by decide) (fun hc => ?_) (fun hc => ?_)
  · rw [if_neg hc] at h
    refine zj_iconst o (zdd k_M_unit 45 rfl) zki_0 ?_
    refine zj_istore_n (loc' := [(1, .int 0), (0, .ref v0)]) o (zdd k_M_unit 46 rfl) rfl (by decide) rfl ?_
    refine zj_goto (tgt := 2) o (zdd k_M_unit 47 rfl) (by decide) ?_
    exact zj_sub [1, 0] rfl (hk2 h hr)
  · rw [if_pos hc] at h
    refine zj_aload_n o (zdd k_M_unit 29 rfl) rfl 0 rfl ?_
    obtain ⟨x2, e_x2, h⟩ := zbd h
    refine zc_V o (zdd k_M_unit 30 rfl) ml_M_299 mv_M_isFull ⟨rfl, by decide⟩ (zg_some e_x2).1 (by decide) [] [] rfl (Nat.le_of_ble_eq_true rfl) rfl (m_M_isFull e_x2) ?_
    change zPJ X 0 0 _ _ [.int x2] _
    refine zj_if_ne (tgt := 78) o (zdd k_M_unit 31 rfl) (by decide) (fun hc => ?_) (fun hc => ?_)
    · rw [if_neg hc] at h
      exact zj_sub [0, 1] rfl (r_M_unit_78 o hk2 h hr)
    · rw [if_pos hc] at h
      refine zj_aload_n o (zdd k_M_unit 32 rfl) rfl 0 rfl ?_
      obtain ⟨x3, e_x3, h⟩ := zbd h
      refine zj_gI o (zdd k_M_unit 33 rfl) fl_M_284 rfl e_x3 ?_
      refine zj_bipush o (zdd k_M_unit 34 rfl) zkb_6 ?_
      refine zj_icmp_le (tgt := 83) o (zdd k_M_unit 35 rfl) (by decide) (fun hc => ?_) (fun hc => ?_)
      · rw [if_pos hc] at h
        exact zj_sub [0, 1] rfl (r_M_unit_83 o hk2 h hr)
      · rw [if_neg hc] at h
        exact zj_sub [0, 1] rfl (r_M_unit_78 o hk2 h hr)
def f_M_unit_172 (σ : zSt) (v0 : Nat) (s0 : Int32) (s1 : Int32) (s2 : Nat) : Option (zSt) :=
(f_M_add σ s2 s1 s0).bind fun σ1 =>
(f_M_token σ1 v0).bind fun σ2 =>
some σ2
set_option maxRecDepth 100000 in
set_option maxHeartbeats 4000000 in
theorem r_M_unit_172 {X : zCX} (o : zOK X "WantShelvesModel" c_M_unit n_M_unit 4) {σ : zSt} {v0 : Nat} {s0 : Int32} {s1 : Int32} {s2 : Nat} {z : zSt} (h : f_M_unit_172 σ v0 s0 s1 s2 = some z) (hr : zRX X 0 0 none z) : zPJ X 0 0 172 [(0, .ref v0)] [.int s0, .int s1, .ref s2] σ := by
  unfold f_M_unit_172 at h
  obtain ⟨σ1, e_σ1, h⟩ := zbd h
  refine zc_V o (zdd k_M_unit 85 rfl) ml_M_281 mv_M_add ⟨rfl, by decide⟩ (zg_some e_σ1).1 (by decide) [.int s1, .int s0] [] rfl (Nat.le_of_ble_eq_true rfl) rfl (m_M_add e_σ1) ?_
  change zPJ X 0 0 _ _ [] _
  refine zj_aload_n o (zdd k_M_unit 86 rfl) rfl 0 rfl ?_
  obtain ⟨σ2, e_σ2, h⟩ := zbd h
  refine zc_V o (zdd k_M_unit 87 rfl) ml_M_248 mv_M_token ⟨rfl, by decide⟩ (zg_some e_σ2).1 (by decide) [] [] rfl (Nat.le_of_ble_eq_true rfl) rfl (m_M_token e_σ2) ?_
  change zPJ X 0 0 _ _ [] _
  cases h
  exact zr_v o hr (zdd k_M_unit 88 rfl)
def f_M_unit_160 (σ : zSt) (v0 : Nat) (v2 : Int32) (s0 : Int32) (s1 : Nat) : Option (zSt) :=
if 0 ≤ v2 then (
f_M_unit_172 σ v0 v2 s0 s1) else
(zgI σ 12 v0 8).bind fun x1 =>
f_M_unit_172 σ v0 x1 s0 s1
set_option maxRecDepth 100000 in
set_option maxHeartbeats 4000000 in
theorem r_M_unit_160 {X : zCX} (o : zOK X "WantShelvesModel" c_M_unit n_M_unit 4) {σ : zSt} {v0 : Nat} {v2 : Int32} {s0 : Int32} {s1 : Nat} {z : zSt} (h : f_M_unit_160 σ v0 v2 s0 s1 = some z) (hr : zRX X 0 0 none z) : zPJ X 0 0 160 [(0, .ref v0), (2, .int v2)] [.int s0, .ref s1] σ := by
  unfold f_M_unit_160 at h
  refine zj_iload_n o (zdd k_M_unit 79 rfl) rfl 1 rfl ?_
  refine zj_if_ge (tgt := 171) o (zdd k_M_unit 80 rfl) (by decide) (fun hc => ?_) (fun hc => ?_)
  · rw [if_pos hc] at h
    refine zj_iload_n o (zdd k_M_unit 84 rfl) rfl 1 rfl ?_
    exact zj_sub [0] rfl (r_M_unit_172 o  h hr)
  · rw [if_neg hc] at h
    refine zj_aload_n o (zdd k_M_unit 81 rfl) rfl 0 rfl ?_
    obtain ⟨x1, e_x1, h⟩ := zbd h
    refine zj_gI o (zdd k_M_unit 82 rfl) fl_M_172 rfl e_x1 ?_
    refine zj_goto (tgt := 172) o (zdd k_M_unit 83 rfl) (by decide) ?_
    exact zj_sub [0] rfl (r_M_unit_172 o  h hr)
def f_M_unit_138 (σ : zSt) (v0 : Nat) (v2 : Int32) : Option (zSt) :=
(zgI σ 12 v0 2).bind fun x1 =>
if x1 ≤ 0 then (
(f_M_countUnit σ v0).bind fun σ2 =>
if 0 ≤ v2 then (
f_M_unit_160 σ2 v0 v2 1 v0) else
f_M_unit_160 σ2 v0 v2 0 v0) else
some σ
set_option maxRecDepth 100000 in
set_option maxHeartbeats 4000000 in
theorem r_M_unit_138 {X : zCX} (o : zOK X "WantShelvesModel" c_M_unit n_M_unit 4) {σ : zSt} {v0 : Nat} {v2 : Int32} {z : zSt} (h : f_M_unit_138 σ v0 v2 = some z) (hr : zRX X 0 0 none z) : zPJ X 0 0 138 [(0, .ref v0), (2, .int v2)] [] σ := by
  unfold f_M_unit_138 at h
  refine zj_aload_n o (zdd k_M_unit 67 rfl) rfl 0 rfl ?_
  obtain ⟨x1, e_x1, h⟩ := zbd h
  refine zj_gI o (zdd k_M_unit 68 rfl) fl_M_188 rfl e_x1 ?_
  refine zj_if_le (tgt := 146) o (zdd k_M_unit 69 rfl) (by decide) (fun hc => ?_) (fun hc => ?_)
  · rw [if_pos hc] at h
    refine zj_aload_n o (zdd k_M_unit 71 rfl) rfl 0 rfl ?_
    obtain ⟨σ2, e_σ2, h⟩ := zbd h
    refine zc_V o (zdd k_M_unit 72 rfl) ml_M_302 mv_M_countUnit ⟨rfl, by decide⟩ (zg_some e_σ2).1 (by decide) [] [] rfl (Nat.le_of_ble_eq_true rfl) rfl (m_M_countUnit e_σ2) ?_
    change zPJ X 0 0 _ _ [] _
    refine zj_aload_n o (zdd k_M_unit 73 rfl) rfl 0 rfl ?_
    refine zj_iload_n o (zdd k_M_unit 74 rfl) rfl 1 rfl ?_
    refine zj_if_ge (tgt := 159) o (zdd k_M_unit 75 rfl) (by decide) (fun hc => ?_) (fun hc => ?_)
    · rw [if_pos hc] at h
      refine zj_iconst o (zdd k_M_unit 78 rfl) zki_1 ?_
      exact zj_sub [0, 1] rfl (r_M_unit_160 o  h hr)
    · rw [if_neg hc] at h
      refine zj_iconst o (zdd k_M_unit 76 rfl) zki_0 ?_
      refine zj_goto (tgt := 160) o (zdd k_M_unit 77 rfl) (by decide) ?_
      exact zj_sub [0, 1] rfl (r_M_unit_160 o  h hr)
  · rw [if_neg hc] at h
    cases h
    exact zr_v o hr (zdd k_M_unit 70 rfl)
def f_M_unit_133 (σ : zSt) (v0 : Nat) (v2 : Int32) : Option (zSt) :=
(f_M_wrong σ v0 2).bind fun σ1 =>
f_M_unit_138 σ1 v0 v2
set_option maxRecDepth 100000 in
set_option maxHeartbeats 4000000 in
theorem r_M_unit_133 {X : zCX} (o : zOK X "WantShelvesModel" c_M_unit n_M_unit 4) {σ : zSt} {v0 : Nat} {v2 : Int32} {z : zSt} (h : f_M_unit_133 σ v0 v2 = some z) (hr : zRX X 0 0 none z) : zPJ X 0 0 133 [(0, .ref v0), (2, .int v2)] [] σ := by
  unfold f_M_unit_133 at h
  refine zj_aload_n o (zdd k_M_unit 64 rfl) rfl 0 rfl ?_
  refine zj_iconst o (zdd k_M_unit 65 rfl) zki_2 ?_
  obtain ⟨σ1, e_σ1, h⟩ := zbd h
  refine zc_V o (zdd k_M_unit 66 rfl) ml_M_245 mv_M_wrong ⟨rfl, by decide⟩ (zg_some e_σ1).1 (by decide) [.int 2] [] rfl (Nat.le_of_ble_eq_true rfl) rfl (m_M_wrong e_σ1) ?_
  change zPJ X 0 0 _ _ [] _
  exact zj_sub [0, 1] rfl (r_M_unit_138 o  h hr)
def f_M_unit_126 (σ : zSt) (v0 : Nat) (v2 : Int32) : Option (zSt) :=
(f_M_isFull σ v0).bind fun x1 =>
if x1 = 0 then (
f_M_unit_138 σ v0 v2) else
f_M_unit_133 σ v0 v2
set_option maxRecDepth 100000 in
set_option maxHeartbeats 4000000 in
theorem r_M_unit_126 {X : zCX} (o : zOK X "WantShelvesModel" c_M_unit n_M_unit 4) {σ : zSt} {v0 : Nat} {v2 : Int32} {z : zSt} (h : f_M_unit_126 σ v0 v2 = some z) (hr : zRX X 0 0 none z) : zPJ X 0 0 126 [(0, .ref v0), (2, .int v2)] [] σ := by
  unfold f_M_unit_126 at h
  refine zj_aload_n o (zdd k_M_unit 61 rfl) rfl 0 rfl ?_
  obtain ⟨x1, e_x1, h⟩ := zbd h
  refine zc_V o (zdd k_M_unit 62 rfl) ml_M_299 mv_M_isFull ⟨rfl, by decide⟩ (zg_some e_x1).1 (by decide) [] [] rfl (Nat.le_of_ble_eq_true rfl) rfl (m_M_isFull e_x1) ?_
  change zPJ X 0 0 _ _ [.int x1] _
  refine zj_if_eq (tgt := 138) o (zdd k_M_unit 63 rfl) (by decide) (fun hc => ?_) (fun hc => ?_)
  · rw [if_pos hc] at h
    exact zj_sub [0, 1] rfl (r_M_unit_138 o  h hr)
  · rw [if_neg hc] at h
    exact zj_sub [0, 1] rfl (r_M_unit_133 o  h hr)
def f_M_unit_101 (σ : zSt) (v0 : Nat) : Option (zSt) :=
(zgI σ 12 v0 2).bind fun x1 =>
if x1 ≤ 0 then (
(f_M_asked σ v0).bind fun x2 =>
(zgI σ 12 v0 6).bind fun x3 =>
if x3 = 2 then (
f_M_unit_126 σ v0 x2) else
if x2 < 0 then (
f_M_unit_133 σ v0 x2) else
f_M_unit_126 σ v0 x2) else
some σ
set_option maxRecDepth 100000 in
set_option maxHeartbeats 4000000 in
theorem r_M_unit_101 {X : zCX} (o : zOK X "WantShelvesModel" c_M_unit n_M_unit 4) {σ : zSt} {v0 : Nat} {z : zSt} (h : f_M_unit_101 σ v0 = some z) (hr : zRX X 0 0 none z) : zPJ X 0 0 101 [(0, .ref v0)] [] σ := by
  unfold f_M_unit_101 at h
  refine zj_aload_n o (zdd k_M_unit 48 rfl) rfl 0 rfl ?_
  obtain ⟨x1, e_x1, h⟩ := zbd h
  refine zj_gI o (zdd k_M_unit 49 rfl) fl_M_188 rfl e_x1 ?_
  refine zj_if_le (tgt := 109) o (zdd k_M_unit 50 rfl) (by decide) (fun hc => ?_) (fun hc => ?_)
  · rw [if_pos hc] at h
    refine zj_aload_n o (zdd k_M_unit 52 rfl) rfl 0 rfl ?_
    obtain ⟨x2, e_x2, h⟩ := zbd h
    refine zc_V o (zdd k_M_unit 53 rfl) ml_M_305 mv_M_asked ⟨rfl, by decide⟩ (zg_some e_x2).1 (by decide) [] [] rfl (Nat.le_of_ble_eq_true rfl) rfl (m_M_asked e_x2) ?_
    change zPJ X 0 0 _ _ [.int x2] _
    refine zj_istore_n (loc' := [(2, .int x2), (0, .ref v0)]) o (zdd k_M_unit 54 rfl) rfl (by decide) rfl ?_
    refine zj_aload_n o (zdd k_M_unit 55 rfl) rfl 1 rfl ?_
    obtain ⟨x3, e_x3, h⟩ := zbd h
    refine zj_gI o (zdd k_M_unit 56 rfl) fl_M_175 rfl e_x3 ?_
    refine zj_iconst o (zdd k_M_unit 57 rfl) zki_2 ?_
    refine zj_icmp_eq (tgt := 126) o (zdd k_M_unit 58 rfl) (by decide) (fun hc => ?_) (fun hc => ?_)
    · rw [if_pos hc] at h
      exact zj_sub [1, 0] rfl (r_M_unit_126 o  h hr)
    · rw [if_neg hc] at h
      refine zj_iload_n o (zdd k_M_unit 59 rfl) rfl 0 rfl ?_
      refine zj_if_lt (tgt := 133) o (zdd k_M_unit 60 rfl) (by decide) (fun hc => ?_) (fun hc => ?_)
      · rw [if_pos hc] at h
        exact zj_sub [1, 0] rfl (r_M_unit_133 o  h hr)
      · rw [if_neg hc] at h
        exact zj_sub [1, 0] rfl (r_M_unit_126 o  h hr)
  · rw [if_neg hc] at h
    cases h
    exact zr_v o hr (zdd k_M_unit 51 rfl)
def f_M_unit_2 (k2 : zSt → Nat → Int32 → Option (zSt)) (σ : zSt) (v0 : Nat) (v1 : Int32) : Option (zSt) :=
if v1 = 0 then (
f_M_unit_101 σ v0) else
(zgI σ 12 v0 2).bind fun x1 =>
if x1 = 0 then (
(f_M_isWord σ v0 7237492).bind fun x2 =>
if x2 = 0 then (
f_M_unit_53 k2 σ v0 v1) else
(f_M_mayNot σ v0).bind fun x3 =>
if x3 = 0 then (
f_M_unit_53 k2 σ v0 v1) else
(zgI σ 12 v0 24).bind fun x4 =>
if x4 ≤ 6 then (
f_M_unit_44 k2 σ v0 v1) else
(f_M_wrong σ v0 2).bind fun σ5 =>
f_M_unit_44 k2 σ5 v0 v1) else
f_M_unit_101 σ v0
set_option maxRecDepth 100000 in
set_option maxHeartbeats 4000000 in
theorem r_M_unit_2 {X : zCX} (o : zOK X "WantShelvesModel" c_M_unit n_M_unit 4) {k2 : zSt → Nat → Int32 → Option (zSt)} (hk2 : ∀ {σ : zSt} {v0 : Nat} {v1 : Int32} {z : zSt}, k2 σ v0 v1 = some z → zRX X 0 0 none z → zPJ X 0 0 2 [(0, .ref v0), (1, .int v1)] [] σ) {σ : zSt} {v0 : Nat} {v1 : Int32} {z : zSt} (h : f_M_unit_2 k2 σ v0 v1 = some z) (hr : zRX X 0 0 none z) : zPJ X 0 0 2 [(0, .ref v0), (1, .int v1)] [] σ := by
  unfold f_M_unit_2 at h
  refine zj_iload_n o (zdd k_M_unit 2 rfl) rfl 1 rfl ?_
  refine zj_if_eq (tgt := 101) o (zdd k_M_unit 3 rfl) (by decide) (fun hc => ?_) (fun hc => ?_)
  · rw [if_pos hc] at h
    exact zj_sub [0] rfl (r_M_unit_101 o  h hr)
  · rw [if_neg hc] at h
    refine zj_aload_n o (zdd k_M_unit 4 rfl) rfl 0 rfl ?_
    obtain ⟨x1, e_x1, h⟩ := zbd h
    refine zj_gI o (zdd k_M_unit 5 rfl) fl_M_188 rfl e_x1 ?_
    refine zj_if_ne (tgt := 101) o (zdd k_M_unit 6 rfl) (by decide) (fun hc => ?_) (fun hc => ?_)
    · rw [if_neg hc] at h
      exact zj_sub [0] rfl (r_M_unit_101 o  h hr)
    · rw [if_pos hc] at h
      refine zj_aload_n o (zdd k_M_unit 7 rfl) rfl 0 rfl ?_
      refine zj_ldc2 o (zdd k_M_unit 8 rfl) lc_M_235 ?_
      obtain ⟨x2, e_x2, h⟩ := zbd h
      refine zc_V o (zdd k_M_unit 9 rfl) ml_M_241 mv_M_isWord ⟨rfl, by decide⟩ (zg_some e_x2).1 (by decide) [.long 7237492] [] rfl (Nat.le_of_ble_eq_true rfl) rfl (m_M_isWord e_x2) ?_
      change zPJ X 0 0 _ _ [.int x2] _
      refine zj_if_eq (tgt := 53) o (zdd k_M_unit 10 rfl) (by decide) (fun hc => ?_) (fun hc => ?_)
      · rw [if_pos hc] at h
        exact zj_sub [0, 1] rfl (r_M_unit_53 o hk2 h hr)
      · rw [if_neg hc] at h
        refine zj_aload_n o (zdd k_M_unit 11 rfl) rfl 0 rfl ?_
        obtain ⟨x3, e_x3, h⟩ := zbd h
        refine zc_V o (zdd k_M_unit 12 rfl) ml_M_293 mv_M_mayNot ⟨rfl, by decide⟩ (zg_some e_x3).1 (by decide) [] [] rfl (Nat.le_of_ble_eq_true rfl) rfl (m_M_mayNot e_x3) ?_
        change zPJ X 0 0 _ _ [.int x3] _
        refine zj_if_eq (tgt := 53) o (zdd k_M_unit 13 rfl) (by decide) (fun hc => ?_) (fun hc => ?_)
        · rw [if_pos hc] at h
          exact zj_sub [0, 1] rfl (r_M_unit_53 o hk2 h hr)
        · rw [if_neg hc] at h
          refine zj_aload_n o (zdd k_M_unit 14 rfl) rfl 0 rfl ?_
          obtain ⟨x4, e_x4, h⟩ := zbd h
          refine zj_gI o (zdd k_M_unit 15 rfl) fl_M_284 rfl e_x4 ?_
          refine zj_bipush o (zdd k_M_unit 16 rfl) zkb_6 ?_
          refine zj_icmp_le (tgt := 44) o (zdd k_M_unit 17 rfl) (by decide) (fun hc => ?_) (fun hc => ?_)
          · rw [if_pos hc] at h
            exact zj_sub [0, 1] rfl (r_M_unit_44 o hk2 h hr)
          · rw [if_neg hc] at h
            refine zj_aload_n o (zdd k_M_unit 18 rfl) rfl 0 rfl ?_
            refine zj_iconst o (zdd k_M_unit 19 rfl) zki_2 ?_
            obtain ⟨σ5, e_σ5, h⟩ := zbd h
            refine zc_V o (zdd k_M_unit 20 rfl) ml_M_245 mv_M_wrong ⟨rfl, by decide⟩ (zg_some e_σ5).1 (by decide) [.int 2] [] rfl (Nat.le_of_ble_eq_true rfl) rfl (m_M_wrong e_σ5) ?_
            change zPJ X 0 0 _ _ [] _
            exact zj_sub [0, 1] rfl (r_M_unit_44 o hk2 h hr)
def f_M_unit_2L : Nat → zSt → Nat → Int32 → Option (zSt)
  | 0 => fun _ _ _ => none
  | n + 1 => f_M_unit_2  (f_M_unit_2L  n)
theorem r_M_unit_2L {X : zCX} (o : zOK X "WantShelvesModel" c_M_unit n_M_unit 4) : ∀ (n : Nat) {σ : zSt} {v0 : Nat} {v1 : Int32} {z : zSt}, f_M_unit_2L n σ v0 v1 = some z → zRX X 0 0 none z → zPJ X 0 0 2 [(0, .ref v0), (1, .int v1)] [] σ
  | 0 => fun h _ => by cases h
  | n + 1 => fun h hr => r_M_unit_2 o (r_M_unit_2L o  n) h hr
def f_M_unit (σ : zSt) (t : Nat) : Option (zSt) :=
zg σ 12 t (
f_M_unit_2L zfu σ t 1)
set_option maxRecDepth 100000 in
set_option maxHeartbeats 4000000 in
theorem m_M_unit {l : Launch} {b : Nat} {ex : Nat → Value} {D : va_G} {ca : Nat → ClassId} {σ : zSt} {t : Nat} {z : zSt} (h : f_M_unit σ t = some z) : zMT l b ex D ca 4 y_M_unit c_M_unit n_M_unit r_ret_M_unit [.ref t] σ none z 0 0 := by
  obtain ⟨_, hg0⟩ := zg_some h
  have h := hg0
  refine zmt_of (by decide) (Nat.le_of_ble_eq_true rfl) rfl (fun X o hin hrm _ _ _ _ _ hr => ?_)
  have hr := hr 0 0 (by decide) (by decide)
  have o : zOK X "WantShelvesModel" c_M_unit n_M_unit 4 := o
  change zPJ X 0 0 0 [(0, .ref t)] [] σ
  refine zj_iconst o (zdd k_M_unit 0 rfl) zki_1 ?_
  refine zj_istore_n (loc' := [(1, .int 1), (0, .ref t)]) o (zdd k_M_unit 1 rfl) rfl (by decide) rfl ?_
  exact zj_sub [1, 0] rfl (r_M_unit_2L o  zfu h hr)
def f_M_sign (σ : zSt) (t : Nat) : Option (Int32) :=
zg σ 12 t (
(f_M_isWord σ t 6385252).bind fun x1 =>
if x1 = 0 then (
(f_M_isWord σ t 28530).bind fun x2 =>
if x2 = 0 then (
(zgI σ 12 t 6).bind fun x3 =>
if x3 = 60 then (
(zgI σ 12 t 6).bind fun x4 =>
some x4) else
(zgI σ 12 t 6).bind fun x5 =>
if x5 = 62 then (
(zgI σ 12 t 6).bind fun x6 =>
some x6) else
(zgI σ 12 t 6).bind fun x7 =>
if x7 = 61 then (
(zgI σ 12 t 6).bind fun x8 =>
some x8) else
(zgI σ 12 t 6).bind fun x9 =>
if x9 = 43 then (
(zgI σ 12 t 6).bind fun x10 =>
some x10) else
(zgI σ 12 t 6).bind fun x11 =>
if x11 = 45 then (
(zgI σ 12 t 6).bind fun x12 =>
some x12) else
(zgI σ 12 t 6).bind fun x13 =>
if x13 = 42 then (
(zgI σ 12 t 6).bind fun x14 =>
some x14) else
(zgI σ 12 t 6).bind fun x15 =>
if x15 = 47 then (
(zgI σ 12 t 6).bind fun x16 =>
some x16) else
(zgI σ 12 t 6).bind fun x17 =>
if x17 = 37 then (
(zgI σ 12 t 6).bind fun x18 =>
some x18) else
some 0) else
some 124) else
some 38)
set_option maxRecDepth 100000 in
set_option maxHeartbeats 4000000 in
theorem m_M_sign {l : Launch} {b : Nat} {ex : Nat → Value} {D : va_G} {ca : Nat → ClassId} {σ : zSt} {t : Nat} {z : Int32} (h : f_M_sign σ t = some z) : zMT l b ex D ca 2 y_M_sign c_M_sign n_M_sign r_ret_M_sign [.ref t] σ (some (.int z)) σ 0 0 := by
  obtain ⟨_, hg0⟩ := zg_some h
  have h := hg0
  refine zmt_of (by decide) (Nat.le_of_ble_eq_true rfl) ⟨.int, rfl, rfl⟩ (fun X o hin hrm _ _ _ _ _ hr => ?_)
  have hr := hr 0 0 (by decide) (by decide)
  have o : zOK X "WantShelvesModel" c_M_sign n_M_sign 2 := o
  change zPJ X 0 0 0 [(0, .ref t)] [] σ
  refine zj_aload_n o (zdd k_M_sign 0 rfl) rfl 0 rfl ?_
  refine zj_ldc2 o (zdd k_M_sign 1 rfl) lc_M_231 ?_
  obtain ⟨x1, e_x1, h⟩ := zbd h
  refine zc_V o (zdd k_M_sign 2 rfl) ml_M_241 mv_M_isWord ⟨rfl, by decide⟩ (zg_some e_x1).1 (by decide) [.long 6385252] [] rfl (Nat.le_of_ble_eq_true rfl) rfl (m_M_isWord e_x1) ?_
  change zPJ X 0 0 _ _ [.int x1] _
  refine zj_if_eq (tgt := 13) o (zdd k_M_sign 3 rfl) (by decide) (fun hc => ?_) (fun hc => ?_)
  · rw [if_pos hc] at h
    refine zj_aload_n o (zdd k_M_sign 6 rfl) rfl 0 rfl ?_
    refine zj_ldc2 o (zdd k_M_sign 7 rfl) lc_M_233 ?_
    obtain ⟨x2, e_x2, h⟩ := zbd h
    refine zc_V o (zdd k_M_sign 8 rfl) ml_M_241 mv_M_isWord ⟨rfl, by decide⟩ (zg_some e_x2).1 (by decide) [.long 28530] [] rfl (Nat.le_of_ble_eq_true rfl) rfl (m_M_isWord e_x2) ?_
    change zPJ X 0 0 _ _ [.int x2] _
    refine zj_if_eq (tgt := 26) o (zdd k_M_sign 9 rfl) (by decide) (fun hc => ?_) (fun hc => ?_)
    · rw [if_pos hc] at h
      refine zj_aload_n o (zdd k_M_sign 12 rfl) rfl 0 rfl ?_
      obtain ⟨x3, e_x3, h⟩ := zbd h
      refine zj_gI o (zdd k_M_sign 13 rfl) fl_M_175 rfl e_x3 ?_
      refine zj_bipush o (zdd k_M_sign 14 rfl) zkb_60 ?_
      refine zj_icmp_eq (tgt := 98) o (zdd k_M_sign 15 rfl) (by decide) (fun hc => ?_) (fun hc => ?_)
      · rw [if_pos hc] at h
        refine zj_aload_n o (zdd k_M_sign 44 rfl) rfl 0 rfl ?_
        obtain ⟨x4, e_x4, h⟩ := zbd h
        refine zj_gI o (zdd k_M_sign 45 rfl) fl_M_175 rfl e_x4 ?_
        refine zj_goto (tgt := 106) o (zdd k_M_sign 46 rfl) (by decide) ?_
        cases h
        exact zr_i o hr (zdd k_M_sign 48 rfl)
      · rw [if_neg hc] at h
        refine zj_aload_n o (zdd k_M_sign 16 rfl) rfl 0 rfl ?_
        obtain ⟨x5, e_x5, h⟩ := zbd h
        refine zj_gI o (zdd k_M_sign 17 rfl) fl_M_175 rfl e_x5 ?_
        refine zj_bipush o (zdd k_M_sign 18 rfl) zkb_62 ?_
        refine zj_icmp_eq (tgt := 98) o (zdd k_M_sign 19 rfl) (by decide) (fun hc => ?_) (fun hc => ?_)
        · rw [if_pos hc] at h
          refine zj_aload_n o (zdd k_M_sign 44 rfl) rfl 0 rfl ?_
          obtain ⟨x6, e_x6, h⟩ := zbd h
          refine zj_gI o (zdd k_M_sign 45 rfl) fl_M_175 rfl e_x6 ?_
          refine zj_goto (tgt := 106) o (zdd k_M_sign 46 rfl) (by decide) ?_
          cases h
          exact zr_i o hr (zdd k_M_sign 48 rfl)
        · rw [if_neg hc] at h
          refine zj_aload_n o (zdd k_M_sign 20 rfl) rfl 0 rfl ?_
          obtain ⟨x7, e_x7, h⟩ := zbd h
          refine zj_gI o (zdd k_M_sign 21 rfl) fl_M_175 rfl e_x7 ?_
          refine zj_bipush o (zdd k_M_sign 22 rfl) zkb_61 ?_
          refine zj_icmp_eq (tgt := 98) o (zdd k_M_sign 23 rfl) (by decide) (fun hc => ?_) (fun hc => ?_)
          · rw [if_pos hc] at h
            refine zj_aload_n o (zdd k_M_sign 44 rfl) rfl 0 rfl ?_
            obtain ⟨x8, e_x8, h⟩ := zbd h
            refine zj_gI o (zdd k_M_sign 45 rfl) fl_M_175 rfl e_x8 ?_
            refine zj_goto (tgt := 106) o (zdd k_M_sign 46 rfl) (by decide) ?_
            cases h
            exact zr_i o hr (zdd k_M_sign 48 rfl)
          · rw [if_neg hc] at h
            refine zj_aload_n o (zdd k_M_sign 24 rfl) rfl 0 rfl ?_
            obtain ⟨x9, e_x9, h⟩ := zbd h
            refine zj_gI o (zdd k_M_sign 25 rfl) fl_M_175 rfl e_x9 ?_
            refine zj_bipush o (zdd k_M_sign 26 rfl) zkb_43 ?_
            refine zj_icmp_eq (tgt := 98) o (zdd k_M_sign 27 rfl) (by decide) (fun hc => ?_) (fun hc => ?_)
            · rw [if_pos hc] at h
              refine zj_aload_n o (zdd k_M_sign 44 rfl) rfl 0 rfl ?_
              obtain ⟨x10, e_x10, h⟩ := zbd h
              refine zj_gI o (zdd k_M_sign 45 rfl) fl_M_175 rfl e_x10 ?_
              refine zj_goto (tgt := 106) o (zdd k_M_sign 46 rfl) (by decide) ?_
              cases h
              exact zr_i o hr (zdd k_M_sign 48 rfl)
            · rw [if_neg hc] at h
              refine zj_aload_n o (zdd k_M_sign 28 rfl) rfl 0 rfl ?_
              obtain ⟨x11, e_x11, h⟩ := zbd h
              refine zj_gI o (zdd k_M_sign 29 rfl) fl_M_175 rfl e_x11 ?_
              refine zj_bipush o (zdd k_M_sign 30 rfl) zkb_45 ?_
              refine zj_icmp_eq (tgt := 98) o (zdd k_M_sign 31 rfl) (by decide) (fun hc => ?_) (fun hc => ?_)
              · rw [if_pos hc] at h
                refine zj_aload_n o (zdd k_M_sign 44 rfl) rfl 0 rfl ?_
                obtain ⟨x12, e_x12, h⟩ := zbd h
                refine zj_gI o (zdd k_M_sign 45 rfl) fl_M_175 rfl e_x12 ?_
                refine zj_goto (tgt := 106) o (zdd k_M_sign 46 rfl) (by decide) ?_
                cases h
                exact zr_i o hr (zdd k_M_sign 48 rfl)
              · rw [if_neg hc] at h
                refine zj_aload_n o (zdd k_M_sign 32 rfl) rfl 0 rfl ?_
                obtain ⟨x13, e_x13, h⟩ := zbd h
                refine zj_gI o (zdd k_M_sign 33 rfl) fl_M_175 rfl e_x13 ?_
                refine zj_bipush o (zdd k_M_sign 34 rfl) zkb_42 ?_
                refine zj_icmp_eq (tgt := 98) o (zdd k_M_sign 35 rfl) (by decide) (fun hc => ?_) (fun hc => ?_)
                · rw [if_pos hc] at h
                  refine zj_aload_n o (zdd k_M_sign 44 rfl) rfl 0 rfl ?_
                  obtain ⟨x14, e_x14, h⟩ := zbd h
                  refine zj_gI o (zdd k_M_sign 45 rfl) fl_M_175 rfl e_x14 ?_
                  refine zj_goto (tgt := 106) o (zdd k_M_sign 46 rfl) (by decide) ?_
                  cases h
                  exact zr_i o hr (zdd k_M_sign 48 rfl)
                · rw [if_neg hc] at h
                  refine zj_aload_n o (zdd k_M_sign 36 rfl) rfl 0 rfl ?_
                  obtain ⟨x15, e_x15, h⟩ := zbd h
                  refine zj_gI o (zdd k_M_sign 37 rfl) fl_M_175 rfl e_x15 ?_
                  refine zj_bipush o (zdd k_M_sign 38 rfl) zkb_47 ?_
                  refine zj_icmp_eq (tgt := 98) o (zdd k_M_sign 39 rfl) (by decide) (fun hc => ?_) (fun hc => ?_)
                  · rw [if_pos hc] at h
                    refine zj_aload_n o (zdd k_M_sign 44 rfl) rfl 0 rfl ?_
                    obtain ⟨x16, e_x16, h⟩ := zbd h
                    refine zj_gI o (zdd k_M_sign 45 rfl) fl_M_175 rfl e_x16 ?_
                    refine zj_goto (tgt := 106) o (zdd k_M_sign 46 rfl) (by decide) ?_
                    cases h
                    exact zr_i o hr (zdd k_M_sign 48 rfl)
                  · rw [if_neg hc] at h
                    refine zj_aload_n o (zdd k_M_sign 40 rfl) rfl 0 rfl ?_
                    obtain ⟨x17, e_x17, h⟩ := zbd h
                    refine zj_gI o (zdd k_M_sign 41 rfl) fl_M_175 rfl e_x17 ?_
                    refine zj_bipush o (zdd k_M_sign 42 rfl) zkb_37 ?_
                    refine zj_icmp_ne (tgt := 105) o (zdd k_M_sign 43 rfl) (by decide) (fun hc => ?_) (fun hc => ?_)
                    · rw [if_neg hc] at h
                      refine zj_iconst o (zdd k_M_sign 47 rfl) zki_0 ?_
                      cases h
                      exact zr_i o hr (zdd k_M_sign 48 rfl)
                    · rw [if_pos hc] at h
                      refine zj_aload_n o (zdd k_M_sign 44 rfl) rfl 0 rfl ?_
                      obtain ⟨x18, e_x18, h⟩ := zbd h
                      refine zj_gI o (zdd k_M_sign 45 rfl) fl_M_175 rfl e_x18 ?_
                      refine zj_goto (tgt := 106) o (zdd k_M_sign 46 rfl) (by decide) ?_
                      cases h
                      exact zr_i o hr (zdd k_M_sign 48 rfl)
    · rw [if_neg hc] at h
      refine zj_bipush o (zdd k_M_sign 10 rfl) zkb_124 ?_
      cases h
      exact zr_i o hr (zdd k_M_sign 11 rfl)
  · rw [if_neg hc] at h
    refine zj_bipush o (zdd k_M_sign 4 rfl) zkb_38 ?_
    cases h
    exact zr_i o hr (zdd k_M_sign 5 rfl)
