def f_A_init (σ : zSt) (t : Nat) : Option (zSt) :=
zg σ 0 t (
(some (znew σ (1, 40))).bind fun (σ1 : zSt) =>
(some σ.1.length).bind fun (a2 : Nat) =>
(zsP σ1 0 t 3 a2).bind fun σ3 =>
(some (znew σ3 (1, 40))).bind fun (σ4 : zSt) =>
(some σ3.1.length).bind fun (a5 : Nat) =>
(zsP σ4 0 t 4 a5).bind fun σ6 =>
(some (znew σ6 (1, 40))).bind fun (σ7 : zSt) =>
(some σ6.1.length).bind fun (a8 : Nat) =>
(zsP σ7 0 t 5 a8).bind fun σ9 =>
(some (znew σ9 (1, 40))).bind fun (σ10 : zSt) =>
(some σ9.1.length).bind fun (a11 : Nat) =>
(zsP σ10 0 t 6 a11).bind fun σ12 =>
(some (znew σ12 (1, 160))).bind fun (σ13 : zSt) =>
(some σ12.1.length).bind fun (a14 : Nat) =>
(zsP σ13 0 t 7 a14).bind fun σ15 =>
some σ15)
set_option maxRecDepth 100000 in
set_option maxHeartbeats 4000000 in
theorem m_A_init {l : Launch} {b : Nat} {ex : Nat → Value} {D : va_G} {ca : Nat → ClassId} {σ : zSt} {t : Nat} {z : zSt} (h : f_A_init σ t = some z) : zMT l b ex D ca 1 y_A_init c_A_init n_A_init r_ret_A_init [.ref t] σ none z 5 320 := by
  obtain ⟨_, hg0⟩ := zg_some h
  have h := hg0
  refine zmt_of (by decide) (Nat.le_of_ble_eq_true rfl) rfl (fun X o hin hrm _ _ _ _ _ hr => ?_)
  have hin := hin rfl
  have hr := hr 5 320 (by decide) (by decide)
  have o : zOK X "WantShelves$Acts" c_A_init n_A_init 1 := o
  change zPJ X 0 0 0 [(0, .ref t)] [] σ
  refine zj_aload_n o (zdd k_A_init 0 rfl) rfl 0 rfl ?_
  refine zj_objInit o (zdd k_A_init 1 rfl) ml_A_3 ob_im ob_code (by decide) (Nat.le_of_ble_eq_true rfl) ?_
  refine zj_aload_n o (zdd k_A_init 2 rfl) rfl 0 rfl ?_
  refine zj_bipush o (zdd k_A_init 3 rfl) zkb_40 ?_
  obtain ⟨σ1, e_σ1, h⟩ := zbd h
  refine zj_newa_int (N := 40) (mc := 5) (ms := 320) o (zdd k_A_init 4 rfl) ac_int (by decide) (by decide) (by decide) hrm (by decide) (by decide) ?_
  rw [Option.some.inj e_σ1]
  change zPJ X 1 40 _ _ _ _
  obtain ⟨a2, e_a2, h⟩ := zbd h
  rw [Option.some.inj e_a2]
  obtain ⟨σ3, e_σ3, h⟩ := zbd h
  refine zj_fP o (zdd k_A_init 5 rfl) fl_A_11 (Or.inr ⟨_, rfl⟩) hin rfl rfl e_σ3 ?_
  refine zj_aload_n o (zdd k_A_init 6 rfl) rfl 0 rfl ?_
  refine zj_bipush o (zdd k_A_init 7 rfl) zkb_40 ?_
  obtain ⟨σ4, e_σ4, h⟩ := zbd h
  refine zj_newa_int (N := 40) (mc := 5) (ms := 320) o (zdd k_A_init 8 rfl) ac_int (by decide) (by decide) (by decide) hrm (by decide) (by decide) ?_
  rw [Option.some.inj e_σ4]
  change zPJ X 2 80 _ _ _ _
  obtain ⟨a5, e_a5, h⟩ := zbd h
  rw [Option.some.inj e_a5]
  obtain ⟨σ6, e_σ6, h⟩ := zbd h
  refine zj_fP o (zdd k_A_init 9 rfl) fl_A_15 (Or.inr ⟨_, rfl⟩) hin rfl rfl e_σ6 ?_
  refine zj_aload_n o (zdd k_A_init 10 rfl) rfl 0 rfl ?_
  refine zj_bipush o (zdd k_A_init 11 rfl) zkb_40 ?_
  obtain ⟨σ7, e_σ7, h⟩ := zbd h
  refine zj_newa_int (N := 40) (mc := 5) (ms := 320) o (zdd k_A_init 12 rfl) ac_int (by decide) (by decide) (by decide) hrm (by decide) (by decide) ?_
  rw [Option.some.inj e_σ7]
  change zPJ X 3 120 _ _ _ _
  obtain ⟨a8, e_a8, h⟩ := zbd h
  rw [Option.some.inj e_a8]
  obtain ⟨σ9, e_σ9, h⟩ := zbd h
  refine zj_fP o (zdd k_A_init 13 rfl) fl_A_18 (Or.inr ⟨_, rfl⟩) hin rfl rfl e_σ9 ?_
  refine zj_aload_n o (zdd k_A_init 14 rfl) rfl 0 rfl ?_
  refine zj_bipush o (zdd k_A_init 15 rfl) zkb_40 ?_
  obtain ⟨σ10, e_σ10, h⟩ := zbd h
  refine zj_newa_int (N := 40) (mc := 5) (ms := 320) o (zdd k_A_init 16 rfl) ac_int (by decide) (by decide) (by decide) hrm (by decide) (by decide) ?_
  rw [Option.some.inj e_σ10]
  change zPJ X 4 160 _ _ _ _
  obtain ⟨a11, e_a11, h⟩ := zbd h
  rw [Option.some.inj e_a11]
  obtain ⟨σ12, e_σ12, h⟩ := zbd h
  refine zj_fP o (zdd k_A_init 17 rfl) fl_A_21 (Or.inr ⟨_, rfl⟩) hin rfl rfl e_σ12 ?_
  refine zj_aload_n o (zdd k_A_init 18 rfl) rfl 0 rfl ?_
  refine zj_sipush o (zdd k_A_init 19 rfl) zks_160 ?_
  obtain ⟨σ13, e_σ13, h⟩ := zbd h
  refine zj_newa_int (N := 160) (mc := 5) (ms := 320) o (zdd k_A_init 20 rfl) ac_int (by decide) (by decide) (by decide) hrm (by decide) (by decide) ?_
  rw [Option.some.inj e_σ13]
  change zPJ X 5 320 _ _ _ _
  obtain ⟨a14, e_a14, h⟩ := zbd h
  rw [Option.some.inj e_a14]
  obtain ⟨σ15, e_σ15, h⟩ := zbd h
  refine zj_fP o (zdd k_A_init 21 rfl) fl_A_24 (Or.inr ⟨_, rfl⟩) hin rfl rfl e_σ15 ?_
  cases h
  exact zr_v o hr (zdd k_A_init 22 rfl)
def f_A_clear (σ : zSt) (t : Nat) : Option (zSt) :=
zg σ 0 t (
(zsI σ 0 t 0 0).bind fun σ1 =>
(zsI σ1 0 t 1 0).bind fun σ2 =>
(zsI σ2 0 t 2 0).bind fun σ3 =>
some σ3)
set_option maxRecDepth 100000 in
set_option maxHeartbeats 4000000 in
theorem m_A_clear {l : Launch} {b : Nat} {ex : Nat → Value} {D : va_G} {ca : Nat → ClassId} {σ : zSt} {t : Nat} {z : zSt} (h : f_A_clear σ t = some z) : zMT l b ex D ca 1 y_A_clear c_A_clear n_A_clear r_ret_A_clear [.ref t] σ none z 0 0 := by
  obtain ⟨_, hg0⟩ := zg_some h
  have h := hg0
  refine zmt_of (by decide) (Nat.le_of_ble_eq_true rfl) rfl (fun X o hin hrm _ _ _ _ _ hr => ?_)
  have hr := hr 0 0 (by decide) (by decide)
  have o : zOK X "WantShelves$Acts" c_A_clear n_A_clear 1 := o
  change zPJ X 0 0 0 [(0, .ref t)] [] σ
  refine zj_aload_n o (zdd k_A_clear 0 rfl) rfl 0 rfl ?_
  refine zj_iconst o (zdd k_A_clear 1 rfl) zki_0 ?_
  obtain ⟨σ1, e_σ1, h⟩ := zbd h
  refine zj_pI o (zdd k_A_clear 2 rfl) fl_A_27 rfl rfl e_σ1 ?_
  refine zj_aload_n o (zdd k_A_clear 3 rfl) rfl 0 rfl ?_
  refine zj_iconst o (zdd k_A_clear 4 rfl) zki_0 ?_
  obtain ⟨σ2, e_σ2, h⟩ := zbd h
  refine zj_pI o (zdd k_A_clear 5 rfl) fl_A_31 rfl rfl e_σ2 ?_
  refine zj_aload_n o (zdd k_A_clear 6 rfl) rfl 0 rfl ?_
  refine zj_iconst o (zdd k_A_clear 7 rfl) zki_0 ?_
  obtain ⟨σ3, e_σ3, h⟩ := zbd h
  refine zj_pI o (zdd k_A_clear 8 rfl) fl_A_34 rfl rfl e_σ3 ?_
  cases h
  exact zr_v o hr (zdd k_A_clear 9 rfl)
def f_A_slotOf (σ : zSt) (t : Nat) (p0 : Int32) : Option (Int32) :=
zg σ 0 t (
(zgI σ 0 t 2).bind fun x1 =>
(zfmod (x1 + p0) 40).bind fun x2 =>
some x2)
set_option maxRecDepth 100000 in
set_option maxHeartbeats 4000000 in
theorem m_A_slotOf {l : Launch} {b : Nat} {ex : Nat → Value} {D : va_G} {ca : Nat → ClassId} {σ : zSt} {t : Nat} {p0 : Int32} {z : Int32} (h : f_A_slotOf σ t p0 = some z) : zMT l b ex D ca 2 y_A_slotOf c_A_slotOf n_A_slotOf r_ret_A_slotOf [.ref t, .int p0] σ (some (.int z)) σ 0 0 := by
  obtain ⟨_, hg0⟩ := zg_some h
  have h := hg0
  refine zmt_of (by decide) (Nat.le_of_ble_eq_true rfl) ⟨.int, rfl, rfl⟩ (fun X o hin hrm _ _ _ _ _ hr => ?_)
  have hr := hr 0 0 (by decide) (by decide)
  have o : zOK X "WantShelves$Acts" c_A_slotOf n_A_slotOf 2 := o
  change zPJ X 0 0 0 [(0, .ref t), (1, .int p0)] [] σ
  refine zj_aload_n o (zdd k_A_slotOf 0 rfl) rfl 0 rfl ?_
  obtain ⟨x1, e_x1, h⟩ := zbd h
  refine zj_gI o (zdd k_A_slotOf 1 rfl) fl_A_34 rfl e_x1 ?_
  refine zj_iload_n o (zdd k_A_slotOf 2 rfl) rfl 1 rfl ?_
  refine zj_iadd o (zdd k_A_slotOf 3 rfl) ?_
  refine zj_bipush o (zdd k_A_slotOf 4 rfl) zkb_40 ?_
  obtain ⟨x2, e_x2, h⟩ := zbd h
  refine zj_fm o (zdd k_A_slotOf 5 rfl) ml_A_69 (by decide) (Nat.le_of_ble_eq_true rfl) e_x2 ?_
  cases h
  exact zr_i o hr (zdd k_A_slotOf 6 rfl)
def f_A_add_40 (σ : zSt) (v0 : Nat) (v1 : Int32) (v2 : Int32) (v3 : Int32) (v4 : Int32) : Option (zSt) :=
(zgI σ 0 v0 0).bind fun x1 =>
(f_A_slotOf σ v0 (x1 - 1)).bind fun x2 =>
(zgP σ 0 v0 3).bind fun a3 =>
(zwI σ 1 a3 x2 v1).bind fun σ4 =>
(zgP σ4 0 v0 4).bind fun a5 =>
(zwI σ4 1 a5 x2 v2).bind fun σ6 =>
(zgP σ6 0 v0 5).bind fun a7 =>
(zwI σ6 1 a7 x2 v3).bind fun σ8 =>
(zgP σ8 0 v0 6).bind fun a9 =>
(zwI σ8 1 a9 x2 v4).bind fun σ10 =>
some σ10
set_option maxRecDepth 100000 in
set_option maxHeartbeats 4000000 in
theorem r_A_add_40 {X : zCX} (o : zOK X "WantShelves$Acts" c_A_add n_A_add 3) {σ : zSt} {v0 : Nat} {v1 : Int32} {v2 : Int32} {v3 : Int32} {v4 : Int32} {z : zSt} (h : f_A_add_40 σ v0 v1 v2 v3 v4 = some z) (hr : zRX X 0 0 none z) : zPJ X 0 0 40 [(0, .ref v0), (1, .int v1), (2, .int v2), (3, .int v3), (4, .int v4)] [] σ := by
  unfold f_A_add_40 at h
  refine zj_aload_n o (zdd k_A_add 22 rfl) rfl 0 rfl ?_
  refine zj_aload_n o (zdd k_A_add 23 rfl) rfl 0 rfl ?_
  obtain ⟨x1, e_x1, h⟩ := zbd h
  refine zj_gI o (zdd k_A_add 24 rfl) fl_A_27 rfl e_x1 ?_
  refine zj_iconst o (zdd k_A_add 25 rfl) zki_1 ?_
  refine zj_isub o (zdd k_A_add 26 rfl) ?_
  obtain ⟨x2, e_x2, h⟩ := zbd h
  refine zc_V o (zdd k_A_add 27 rfl) ml_A_37 mv_A_slotOf ⟨rfl, by decide⟩ (zg_some e_x2).1 (by decide) [.int (x1 - 1)] [] rfl (Nat.le_of_ble_eq_true rfl) rfl (m_A_slotOf e_x2) ?_
  change zPJ X 0 0 _ _ [.int x2] _
  refine zj_istore (loc' := [(5, .int x2), (0, .ref v0), (1, .int v1), (2, .int v2), (3, .int v3), (4, .int v4)]) o (zdd k_A_add 28 rfl) (by decide) rfl ?_
  refine zj_aload_n o (zdd k_A_add 29 rfl) rfl 1 rfl ?_
  obtain ⟨a3, e_a3, h⟩ := zbd h
  refine zj_gP o (zdd k_A_add 30 rfl) fl_A_11 rfl e_a3 ?_
  refine zj_iload o (zdd k_A_add 31 rfl) 0 rfl ?_
  refine zj_iload_n o (zdd k_A_add 32 rfl) rfl 2 rfl ?_
  obtain ⟨σ4, e_σ4, h⟩ := zbd h
  refine zj_iast o (zdd k_A_add 33 rfl) e_σ4 ?_
  refine zj_aload_n o (zdd k_A_add 34 rfl) rfl 1 rfl ?_
  obtain ⟨a5, e_a5, h⟩ := zbd h
  refine zj_gP o (zdd k_A_add 35 rfl) fl_A_15 rfl e_a5 ?_
  refine zj_iload o (zdd k_A_add 36 rfl) 0 rfl ?_
  refine zj_iload_n o (zdd k_A_add 37 rfl) rfl 3 rfl ?_
  obtain ⟨σ6, e_σ6, h⟩ := zbd h
  refine zj_iast o (zdd k_A_add 38 rfl) e_σ6 ?_
  refine zj_aload_n o (zdd k_A_add 39 rfl) rfl 1 rfl ?_
  obtain ⟨a7, e_a7, h⟩ := zbd h
  refine zj_gP o (zdd k_A_add 40 rfl) fl_A_18 rfl e_a7 ?_
  refine zj_iload o (zdd k_A_add 41 rfl) 0 rfl ?_
  refine zj_iload_n o (zdd k_A_add 42 rfl) rfl 4 rfl ?_
  obtain ⟨σ8, e_σ8, h⟩ := zbd h
  refine zj_iast o (zdd k_A_add 43 rfl) e_σ8 ?_
  refine zj_aload_n o (zdd k_A_add 44 rfl) rfl 1 rfl ?_
  obtain ⟨a9, e_a9, h⟩ := zbd h
  refine zj_gP o (zdd k_A_add 45 rfl) fl_A_21 rfl e_a9 ?_
  refine zj_iload o (zdd k_A_add 46 rfl) 0 rfl ?_
  refine zj_iload o (zdd k_A_add 47 rfl) 5 rfl ?_
  obtain ⟨σ10, e_σ10, h⟩ := zbd h
  refine zj_iast o (zdd k_A_add 48 rfl) e_σ10 ?_
  cases h
  exact zr_v o hr (zdd k_A_add 49 rfl)
def f_A_add (σ : zSt) (t : Nat) (p0 : Int32) (p1 : Int32) (p2 : Int32) (p3 : Int32) : Option (zSt) :=
zg σ 0 t (
(zsI σ 0 t 1 0).bind fun σ1 =>
(zgI σ1 0 t 0).bind fun x2 =>
if 40 ≤ x2 then (
(zgI σ1 0 t 2).bind fun x3 =>
(zsI σ1 0 t 2 (zrem (x3 + 1) 40)).bind fun σ4 =>
f_A_add_40 σ4 t p0 p1 p2 p3) else
(zgI σ1 0 t 0).bind fun x5 =>
(zsI σ1 0 t 0 (x5 + 1)).bind fun σ6 =>
f_A_add_40 σ6 t p0 p1 p2 p3)
set_option maxRecDepth 100000 in
set_option maxHeartbeats 4000000 in
theorem m_A_add {l : Launch} {b : Nat} {ex : Nat → Value} {D : va_G} {ca : Nat → ClassId} {σ : zSt} {t : Nat} {p0 : Int32} {p1 : Int32} {p2 : Int32} {p3 : Int32} {z : zSt} (h : f_A_add σ t p0 p1 p2 p3 = some z) : zMT l b ex D ca 3 y_A_add c_A_add n_A_add r_ret_A_add [.ref t, .int p0, .int p1, .int p2, .int p3] σ none z 0 0 := by
  obtain ⟨_, hg0⟩ := zg_some h
  have h := hg0
  refine zmt_of (by decide) (Nat.le_of_ble_eq_true rfl) rfl (fun X o hin hrm _ _ _ _ _ hr => ?_)
  have hr := hr 0 0 (by decide) (by decide)
  have o : zOK X "WantShelves$Acts" c_A_add n_A_add 3 := o
  change zPJ X 0 0 0 [(0, .ref t), (1, .int p0), (2, .int p1), (3, .int p2), (4, .int p3)] [] σ
  refine zj_aload_n o (zdd k_A_add 0 rfl) rfl 0 rfl ?_
  refine zj_iconst o (zdd k_A_add 1 rfl) zki_0 ?_
  obtain ⟨σ1, e_σ1, h⟩ := zbd h
  refine zj_pI o (zdd k_A_add 2 rfl) fl_A_31 rfl rfl e_σ1 ?_
  refine zj_aload_n o (zdd k_A_add 3 rfl) rfl 0 rfl ?_
  obtain ⟨x2, e_x2, h⟩ := zbd h
  refine zj_gI o (zdd k_A_add 4 rfl) fl_A_27 rfl e_x2 ?_
  refine zj_bipush o (zdd k_A_add 5 rfl) zkb_40 ?_
  refine zj_icmp_ge (tgt := 27) o (zdd k_A_add 6 rfl) (by decide) (fun hc => ?_) (fun hc => ?_)
  · rw [if_pos hc] at h
    refine zj_aload_n o (zdd k_A_add 14 rfl) rfl 0 rfl ?_
    refine zj_aload_n o (zdd k_A_add 15 rfl) rfl 0 rfl ?_
    obtain ⟨x3, e_x3, h⟩ := zbd h
    refine zj_gI o (zdd k_A_add 16 rfl) fl_A_34 rfl e_x3 ?_
    refine zj_iconst o (zdd k_A_add 17 rfl) zki_1 ?_
    refine zj_iadd o (zdd k_A_add 18 rfl) ?_
    refine zj_bipush o (zdd k_A_add 19 rfl) zkb_40 ?_
    refine zj_irem o (zdd k_A_add 20 rfl) (by decide) ?_
    change zPJ X 0 0 _ _ [.int (zrem (x3 + 1) 40), .ref t] _
    obtain ⟨σ4, e_σ4, h⟩ := zbd h
    refine zj_pI o (zdd k_A_add 21 rfl) fl_A_34 rfl rfl e_σ4 ?_
    exact zj_sub [0, 1, 2, 3, 4] rfl (r_A_add_40 o  h hr)
  · rw [if_neg hc] at h
    refine zj_aload_n o (zdd k_A_add 7 rfl) rfl 0 rfl ?_
    refine zj_dup o (zdd k_A_add 8 rfl) rfl ?_
    obtain ⟨x5, e_x5, h⟩ := zbd h
    refine zj_gI o (zdd k_A_add 9 rfl) fl_A_27 rfl e_x5 ?_
    refine zj_iconst o (zdd k_A_add 10 rfl) zki_1 ?_
    refine zj_iadd o (zdd k_A_add 11 rfl) ?_
    obtain ⟨σ6, e_σ6, h⟩ := zbd h
    refine zj_pI o (zdd k_A_add 12 rfl) fl_A_27 rfl rfl e_σ6 ?_
    refine zj_goto (tgt := 40) o (zdd k_A_add 13 rfl) (by decide) ?_
    exact zj_sub [0, 1, 2, 3, 4] rfl (r_A_add_40 o  h hr)
def f_A_keepWants (σ : zSt) (t : Nat) (p0 : Nat) (p1 : Int32) : Option (zSt) :=
zg σ 0 t (
(zgP σ 4 p0 0).bind fun a1 =>
(zgP σ 0 t 7).bind fun a2 =>
(zgI σ 0 t 0).bind fun x3 =>
(f_A_slotOf σ t (x3 - 1)).bind fun x4 =>
(zcpy σ a1 (p1 * 4) a2 (x4 * 4) 4).bind fun σ5 =>
some σ5)
set_option maxRecDepth 100000 in
set_option maxHeartbeats 4000000 in
theorem m_A_keepWants {l : Launch} {b : Nat} {ex : Nat → Value} {D : va_G} {ca : Nat → ClassId} {σ : zSt} {t : Nat} {p0 : Nat} {p1 : Int32} {z : zSt} (h : f_A_keepWants σ t p0 p1 = some z) : zMT l b ex D ca 3 y_A_keepWants c_A_keepWants n_A_keepWants r_ret_A_keepWants [.ref t, .ref p0, .int p1] σ none z 0 0 := by
  obtain ⟨_, hg0⟩ := zg_some h
  have h := hg0
  refine zmt_of (by decide) (Nat.le_of_ble_eq_true rfl) rfl (fun X o hin hrm _ _ _ _ _ hr => ?_)
  have hr := hr 0 0 (by decide) (by decide)
  have o : zOK X "WantShelves$Acts" c_A_keepWants n_A_keepWants 3 := o
  change zPJ X 0 0 0 [(0, .ref t), (1, .ref p0), (2, .int p1)] [] σ
  refine zj_aload_n o (zdd k_A_keepWants 0 rfl) rfl 1 rfl ?_
  obtain ⟨a1, e_a1, h⟩ := zbd h
  refine zj_gP o (zdd k_A_keepWants 1 rfl) fl_A_41 rfl e_a1 ?_
  refine zj_iload_n o (zdd k_A_keepWants 2 rfl) rfl 2 rfl ?_
  refine zj_iconst o (zdd k_A_keepWants 3 rfl) zki_4 ?_
  refine zj_imul o (zdd k_A_keepWants 4 rfl) ?_
  refine zj_aload_n o (zdd k_A_keepWants 5 rfl) rfl 0 rfl ?_
  obtain ⟨a2, e_a2, h⟩ := zbd h
  refine zj_gP o (zdd k_A_keepWants 6 rfl) fl_A_24 rfl e_a2 ?_
  refine zj_aload_n o (zdd k_A_keepWants 7 rfl) rfl 0 rfl ?_
  refine zj_aload_n o (zdd k_A_keepWants 8 rfl) rfl 0 rfl ?_
  obtain ⟨x3, e_x3, h⟩ := zbd h
  refine zj_gI o (zdd k_A_keepWants 9 rfl) fl_A_27 rfl e_x3 ?_
  refine zj_iconst o (zdd k_A_keepWants 10 rfl) zki_1 ?_
  refine zj_isub o (zdd k_A_keepWants 11 rfl) ?_
  obtain ⟨x4, e_x4, h⟩ := zbd h
  refine zc_V o (zdd k_A_keepWants 12 rfl) ml_A_37 mv_A_slotOf ⟨rfl, by decide⟩ (zg_some e_x4).1 (by decide) [.int (x3 - 1)] [.ref a2, .int (p1 * 4), .ref a1] rfl (Nat.le_of_ble_eq_true rfl) rfl (m_A_slotOf e_x4) ?_
  change zPJ X 0 0 _ _ [.int x4, .ref a2, .int (p1 * 4), .ref a1] _
  refine zj_iconst o (zdd k_A_keepWants 13 rfl) zki_4 ?_
  refine zj_imul o (zdd k_A_keepWants 14 rfl) ?_
  refine zj_iconst o (zdd k_A_keepWants 15 rfl) zki_4 ?_
  obtain ⟨σ5, e_σ5, h⟩ := zbd h
  refine zj_cpy o (zdd k_A_keepWants 16 rfl) ml_A_46 ac_nat ac_stat ac_ini (by decide) (Nat.le_of_ble_eq_true rfl) e_σ5 ?_
  cases h
  exact zr_v o hr (zdd k_A_keepWants 17 rfl)
def f_A_takeBack (σ : zSt) (t : Nat) (p0 : Nat) : Option (Int32 × zSt) :=
zg σ 0 t (
((zgI σ 0 t 0).bind fun x1 =>
if x1 = 0 then (
some (0, σ)) else
(zgI σ 0 t 0).bind fun x2 =>
(zsI σ 0 t 0 (x2 - 1)).bind fun σ3 =>
(zgI σ3 0 t 1).bind fun x4 =>
(zsI σ3 0 t 1 (x4 + 1)).bind fun σ5 =>
(zgI σ5 0 t 0).bind fun x6 =>
(f_A_slotOf σ5 t x6).bind fun x7 =>
(zgP σ5 0 t 3).bind fun a8 =>
(zaI σ5 1 a8 x7).bind fun x9 =>
if x9 = 0 then (
(zgP σ5 0 t 4).bind fun a10 =>
(zaI σ5 1 a10 x7).bind fun x11 =>
(f_N_turnIn σ5 p0 x11).bind fun σ12 =>
some (1, σ12)) else
if x9 = 1 then (
(zgP σ5 4 p0 1).bind fun a13 =>
(zgP σ5 0 t 4).bind fun a14 =>
(zaI σ5 1 a14 x7).bind fun x15 =>
(zgP σ5 0 t 5).bind fun a16 =>
(zaI σ5 1 a16 x7).bind fun x17 =>
(zwI σ5 1 a13 x15 x17).bind fun σ18 =>
some (1, σ18)) else
if x9 = 2 then (
(zgP σ5 0 t 4).bind fun a19 =>
(zaI σ5 1 a19 x7).bind fun x20 =>
(f_N_turnOut σ5 p0 x20).bind fun σ21 =>
some (1, σ21)) else
(zgP σ5 4 p0 2).bind fun a22 =>
(zgP σ5 0 t 4).bind fun a23 =>
(zaI σ5 1 a23 x7).bind fun x24 =>
(zgP σ5 0 t 6).bind fun a25 =>
(zaI σ5 1 a25 x7).bind fun x26 =>
(zaI σ5 1 a22 ((x24 * 10) + x26)).bind fun x27 =>
(zwI σ5 1 a22 ((x24 * 10) + x26) (x27 - 1)).bind fun σ28 =>
(zgP σ28 0 t 7).bind fun a29 =>
(zgP σ28 4 p0 0).bind fun a30 =>
(zgP σ28 0 t 4).bind fun a31 =>
(zaI σ28 1 a31 x7).bind fun x32 =>
(zcpy σ28 a29 (x7 * 4) a30 (x32 * 4) 4).bind fun σ33 =>
some (1, σ33)).bind fun q => (zbool q.1).bind fun x => some (x, q.2))
set_option maxRecDepth 100000 in
set_option maxHeartbeats 4000000 in
theorem m_A_takeBack {l : Launch} {b : Nat} {ex : Nat → Value} {D : va_G} {ca : Nat → ClassId} {σ : zSt} {t : Nat} {p0 : Nat} {z : Int32 × zSt} (h : f_A_takeBack σ t p0 = some z) : zMT l b ex D ca 3 y_A_takeBack c_A_takeBack n_A_takeBack r_ret_A_takeBack [.ref t, .ref p0] σ (some (.int z.1)) z.2 0 0 := by
  obtain ⟨_, hg0⟩ := zg_some h
  obtain ⟨z0, hbd, hz⟩ := zbd hg0
  obtain ⟨z1, hz1, hzz⟩ := zbd hz
  obtain ⟨hzb, rfl⟩ := zbool_some hz1
  cases hzz
  have h := hbd
  refine zmt_of (by decide) (Nat.le_of_ble_eq_true rfl) ⟨.boolean, rfl, zb_nar hzb⟩ (fun X o hin hrm _ _ _ _ _ hr => ?_)
  have hr := hr 0 0 (by decide) (by decide)
  have o : zOK X "WantShelves$Acts" c_A_takeBack n_A_takeBack 3 := o
  change zPJ X 0 0 0 [(0, .ref t), (1, .ref p0)] [] σ
  refine zj_aload_n o (zdd k_A_takeBack 0 rfl) rfl 0 rfl ?_
  obtain ⟨x1, e_x1, h⟩ := zbd h
  refine zj_gI o (zdd k_A_takeBack 1 rfl) fl_A_27 rfl e_x1 ?_
  refine zj_if_ne (tgt := 9) o (zdd k_A_takeBack 2 rfl) (by decide) (fun hc => ?_) (fun hc => ?_)
  · rw [if_neg hc] at h
    refine zj_aload_n o (zdd k_A_takeBack 5 rfl) rfl 0 rfl ?_
    refine zj_dup o (zdd k_A_takeBack 6 rfl) rfl ?_
    obtain ⟨x2, e_x2, h⟩ := zbd h
    refine zj_gI o (zdd k_A_takeBack 7 rfl) fl_A_27 rfl e_x2 ?_
    refine zj_iconst o (zdd k_A_takeBack 8 rfl) zki_1 ?_
    refine zj_isub o (zdd k_A_takeBack 9 rfl) ?_
    obtain ⟨σ3, e_σ3, h⟩ := zbd h
    refine zj_pI o (zdd k_A_takeBack 10 rfl) fl_A_27 rfl rfl e_σ3 ?_
    refine zj_aload_n o (zdd k_A_takeBack 11 rfl) rfl 0 rfl ?_
    refine zj_dup o (zdd k_A_takeBack 12 rfl) rfl ?_
    obtain ⟨x4, e_x4, h⟩ := zbd h
    refine zj_gI o (zdd k_A_takeBack 13 rfl) fl_A_31 rfl e_x4 ?_
    refine zj_iconst o (zdd k_A_takeBack 14 rfl) zki_1 ?_
    refine zj_iadd o (zdd k_A_takeBack 15 rfl) ?_
    obtain ⟨σ5, e_σ5, h⟩ := zbd h
    refine zj_pI o (zdd k_A_takeBack 16 rfl) fl_A_31 rfl rfl e_σ5 ?_
    refine zj_aload_n o (zdd k_A_takeBack 17 rfl) rfl 0 rfl ?_
    refine zj_aload_n o (zdd k_A_takeBack 18 rfl) rfl 0 rfl ?_
    obtain ⟨x6, e_x6, h⟩ := zbd h
    refine zj_gI o (zdd k_A_takeBack 19 rfl) fl_A_27 rfl e_x6 ?_
    obtain ⟨x7, e_x7, h⟩ := zbd h
    refine zc_V o (zdd k_A_takeBack 20 rfl) ml_A_37 mv_A_slotOf ⟨rfl, by decide⟩ (zg_some e_x7).1 (by decide) [.int x6] [] rfl (Nat.le_of_ble_eq_true rfl) rfl (m_A_slotOf e_x7) ?_
    change zPJ X 0 0 _ _ [.int x7] _
    refine zj_istore_n (loc' := [(2, .int x7), (0, .ref t), (1, .ref p0)]) o (zdd k_A_takeBack 21 rfl) rfl (by decide) rfl ?_
    refine zj_aload_n o (zdd k_A_takeBack 22 rfl) rfl 1 rfl ?_
    obtain ⟨a8, e_a8, h⟩ := zbd h
    refine zj_gP o (zdd k_A_takeBack 23 rfl) fl_A_11 rfl e_a8 ?_
    refine zj_iload_n o (zdd k_A_takeBack 24 rfl) rfl 0 rfl ?_
    obtain ⟨x9, e_x9, h⟩ := zbd h
    refine zj_iald o (zdd k_A_takeBack 25 rfl) e_x9 ?_
    refine zj_tableC (dt := 118) o [72, 85, 105] (zdd k_A_takeBack 26 rfl) (by decide) (by decide) (by decide) (by decide) (by decide) [(0, 72), (1, 85), (2, 105)] (by decide) ?_
    by_cases hc : x9 = 0
    · rw [if_pos hc] at h
      rw [zcase_pos hc]
      refine zj_aload_n o (zdd k_A_takeBack 27 rfl) rfl 2 rfl ?_
      refine zj_aload_n o (zdd k_A_takeBack 28 rfl) rfl 1 rfl ?_
      obtain ⟨a10, e_a10, h⟩ := zbd h
      refine zj_gP o (zdd k_A_takeBack 29 rfl) fl_A_15 rfl e_a10 ?_
      refine zj_iload_n o (zdd k_A_takeBack 30 rfl) rfl 0 rfl ?_
      obtain ⟨x11, e_x11, h⟩ := zbd h
      refine zj_iald o (zdd k_A_takeBack 31 rfl) e_x11 ?_
      obtain ⟨σ12, e_σ12, h⟩ := zbd h
      refine zc_V o (zdd k_A_takeBack 32 rfl) ml_A_52 mv_N_turnIn ⟨rfl, by decide⟩ (zg_some e_σ12).1 (by decide) [.int x11] [] rfl (Nat.le_of_ble_eq_true rfl) rfl (m_N_turnIn e_σ12) ?_
      change zPJ X 0 0 _ _ [] _
      refine zj_goto (tgt := 166) o (zdd k_A_takeBack 33 rfl) (by decide) ?_
      refine zj_iconst o (zdd k_A_takeBack 86 rfl) zki_1 ?_
      cases h
      exact zr_i o hr (zdd k_A_takeBack 87 rfl)
    · rw [if_neg hc] at h
      rw [zcase_neg hc]
      by_cases hc : x9 = 1
      · rw [if_pos hc] at h
        rw [zcase_pos hc]
        refine zj_aload_n o (zdd k_A_takeBack 34 rfl) rfl 2 rfl ?_
        obtain ⟨a13, e_a13, h⟩ := zbd h
        refine zj_gP o (zdd k_A_takeBack 35 rfl) fl_A_56 rfl e_a13 ?_
        refine zj_aload_n o (zdd k_A_takeBack 36 rfl) rfl 1 rfl ?_
        obtain ⟨a14, e_a14, h⟩ := zbd h
        refine zj_gP o (zdd k_A_takeBack 37 rfl) fl_A_15 rfl e_a14 ?_
        refine zj_iload_n o (zdd k_A_takeBack 38 rfl) rfl 0 rfl ?_
        obtain ⟨x15, e_x15, h⟩ := zbd h
        refine zj_iald o (zdd k_A_takeBack 39 rfl) e_x15 ?_
        refine zj_aload_n o (zdd k_A_takeBack 40 rfl) rfl 1 rfl ?_
        obtain ⟨a16, e_a16, h⟩ := zbd h
        refine zj_gP o (zdd k_A_takeBack 41 rfl) fl_A_18 rfl e_a16 ?_
        refine zj_iload_n o (zdd k_A_takeBack 42 rfl) rfl 0 rfl ?_
        obtain ⟨x17, e_x17, h⟩ := zbd h
        refine zj_iald o (zdd k_A_takeBack 43 rfl) e_x17 ?_
        obtain ⟨σ18, e_σ18, h⟩ := zbd h
        refine zj_iast o (zdd k_A_takeBack 44 rfl) e_σ18 ?_
        refine zj_goto (tgt := 166) o (zdd k_A_takeBack 45 rfl) (by decide) ?_
        refine zj_iconst o (zdd k_A_takeBack 86 rfl) zki_1 ?_
        cases h
        exact zr_i o hr (zdd k_A_takeBack 87 rfl)
      · rw [if_neg hc] at h
        rw [zcase_neg hc]
        by_cases hc : x9 = 2
        · rw [if_pos hc] at h
          rw [zcase_pos hc]
          refine zj_aload_n o (zdd k_A_takeBack 46 rfl) rfl 2 rfl ?_
          refine zj_aload_n o (zdd k_A_takeBack 47 rfl) rfl 1 rfl ?_
          obtain ⟨a19, e_a19, h⟩ := zbd h
          refine zj_gP o (zdd k_A_takeBack 48 rfl) fl_A_15 rfl e_a19 ?_
          refine zj_iload_n o (zdd k_A_takeBack 49 rfl) rfl 0 rfl ?_
          obtain ⟨x20, e_x20, h⟩ := zbd h
          refine zj_iald o (zdd k_A_takeBack 50 rfl) e_x20 ?_
          obtain ⟨σ21, e_σ21, h⟩ := zbd h
          refine zc_V o (zdd k_A_takeBack 51 rfl) ml_A_59 mv_N_turnOut ⟨rfl, by decide⟩ (zg_some e_σ21).1 (by decide) [.int x20] [] rfl (Nat.le_of_ble_eq_true rfl) rfl (m_N_turnOut e_σ21) ?_
          change zPJ X 0 0 _ _ [] _
          refine zj_goto (tgt := 166) o (zdd k_A_takeBack 52 rfl) (by decide) ?_
          refine zj_iconst o (zdd k_A_takeBack 86 rfl) zki_1 ?_
          cases h
          exact zr_i o hr (zdd k_A_takeBack 87 rfl)
        · rw [if_neg hc] at h
          rw [zcase_neg hc]
          change zPJ X 0 0 118 _ _ _
          refine zj_aload_n o (zdd k_A_takeBack 53 rfl) rfl 2 rfl ?_
          obtain ⟨a22, e_a22, h⟩ := zbd h
          refine zj_gP o (zdd k_A_takeBack 54 rfl) fl_A_62 rfl e_a22 ?_
          refine zj_aload_n o (zdd k_A_takeBack 55 rfl) rfl 1 rfl ?_
          obtain ⟨a23, e_a23, h⟩ := zbd h
          refine zj_gP o (zdd k_A_takeBack 56 rfl) fl_A_15 rfl e_a23 ?_
          refine zj_iload_n o (zdd k_A_takeBack 57 rfl) rfl 0 rfl ?_
          obtain ⟨x24, e_x24, h⟩ := zbd h
          refine zj_iald o (zdd k_A_takeBack 58 rfl) e_x24 ?_
          refine zj_bipush o (zdd k_A_takeBack 59 rfl) zkb_10 ?_
          refine zj_imul o (zdd k_A_takeBack 60 rfl) ?_
          refine zj_aload_n o (zdd k_A_takeBack 61 rfl) rfl 1 rfl ?_
          obtain ⟨a25, e_a25, h⟩ := zbd h
          refine zj_gP o (zdd k_A_takeBack 62 rfl) fl_A_21 rfl e_a25 ?_
          refine zj_iload_n o (zdd k_A_takeBack 63 rfl) rfl 0 rfl ?_
          obtain ⟨x26, e_x26, h⟩ := zbd h
          refine zj_iald o (zdd k_A_takeBack 64 rfl) e_x26 ?_
          refine zj_iadd o (zdd k_A_takeBack 65 rfl) ?_
          refine zj_dup2 o (zdd k_A_takeBack 66 rfl) rfl rfl ?_
          obtain ⟨x27, e_x27, h⟩ := zbd h
          refine zj_iald o (zdd k_A_takeBack 67 rfl) e_x27 ?_
          refine zj_iconst o (zdd k_A_takeBack 68 rfl) zki_1 ?_
          refine zj_isub o (zdd k_A_takeBack 69 rfl) ?_
          obtain ⟨σ28, e_σ28, h⟩ := zbd h
          refine zj_iast o (zdd k_A_takeBack 70 rfl) e_σ28 ?_
          refine zj_aload_n o (zdd k_A_takeBack 71 rfl) rfl 1 rfl ?_
          obtain ⟨a29, e_a29, h⟩ := zbd h
          refine zj_gP o (zdd k_A_takeBack 72 rfl) fl_A_24 rfl e_a29 ?_
          refine zj_iload_n o (zdd k_A_takeBack 73 rfl) rfl 0 rfl ?_
          refine zj_iconst o (zdd k_A_takeBack 74 rfl) zki_4 ?_
          refine zj_imul o (zdd k_A_takeBack 75 rfl) ?_
          refine zj_aload_n o (zdd k_A_takeBack 76 rfl) rfl 2 rfl ?_
          obtain ⟨a30, e_a30, h⟩ := zbd h
          refine zj_gP o (zdd k_A_takeBack 77 rfl) fl_A_41 rfl e_a30 ?_
          refine zj_aload_n o (zdd k_A_takeBack 78 rfl) rfl 1 rfl ?_
          obtain ⟨a31, e_a31, h⟩ := zbd h
          refine zj_gP o (zdd k_A_takeBack 79 rfl) fl_A_15 rfl e_a31 ?_
          refine zj_iload_n o (zdd k_A_takeBack 80 rfl) rfl 0 rfl ?_
          obtain ⟨x32, e_x32, h⟩ := zbd h
          refine zj_iald o (zdd k_A_takeBack 81 rfl) e_x32 ?_
          refine zj_iconst o (zdd k_A_takeBack 82 rfl) zki_4 ?_
          refine zj_imul o (zdd k_A_takeBack 83 rfl) ?_
          refine zj_iconst o (zdd k_A_takeBack 84 rfl) zki_4 ?_
          obtain ⟨σ33, e_σ33, h⟩ := zbd h
          refine zj_cpy o (zdd k_A_takeBack 85 rfl) ml_A_46 ac_nat ac_stat ac_ini (by decide) (Nat.le_of_ble_eq_true rfl) e_σ33 ?_
          refine zj_iconst o (zdd k_A_takeBack 86 rfl) zki_1 ?_
          cases h
          exact zr_i o hr (zdd k_A_takeBack 87 rfl)
  · rw [if_pos hc] at h
    refine zj_iconst o (zdd k_A_takeBack 3 rfl) zki_0 ?_
    cases h
    exact zr_i o hr (zdd k_A_takeBack 4 rfl)
def f_A_doAgain (σ : zSt) (t : Nat) (p0 : Nat) (p1 : Nat) : Option (Int32 × zSt) :=
zg σ 0 t (
((zgI σ 0 t 1).bind fun x1 =>
if x1 = 0 then (
some (0, σ)) else
(zgI σ 0 t 0).bind fun x2 =>
(f_A_slotOf σ t x2).bind fun x3 =>
(zgI σ 0 t 0).bind fun x4 =>
(zsI σ 0 t 0 (x4 + 1)).bind fun σ5 =>
(zgI σ5 0 t 1).bind fun x6 =>
(zsI σ5 0 t 1 (x6 - 1)).bind fun σ7 =>
(zgP σ7 0 t 3).bind fun a8 =>
(zaI σ7 1 a8 x3).bind fun x9 =>
if x9 = 0 then (
(zgP σ7 0 t 4).bind fun a10 =>
(zaI σ7 1 a10 x3).bind fun x11 =>
(f_N_turnIn σ7 p0 x11).bind fun σ12 =>
some (1, σ12)) else
if x9 = 1 then (
(zgP σ7 4 p0 1).bind fun a13 =>
(zgP σ7 0 t 4).bind fun a14 =>
(zaI σ7 1 a14 x3).bind fun x15 =>
(zgP σ7 0 t 6).bind fun a16 =>
(zaI σ7 1 a16 x3).bind fun x17 =>
(zwI σ7 1 a13 x15 x17).bind fun σ18 =>
some (1, σ18)) else
if x9 = 2 then (
(zgP σ7 0 t 4).bind fun a19 =>
(zaI σ7 1 a19 x3).bind fun x20 =>
(f_N_turnOut σ7 p0 x20).bind fun σ21 =>
some (1, σ21)) else
(zgP σ7 0 t 4).bind fun a22 =>
(zaI σ7 1 a22 x3).bind fun x23 =>
(zgP σ7 0 t 6).bind fun a24 =>
(zaI σ7 1 a24 x3).bind fun x25 =>
(f_N_bendBy σ7 p0 p1 x23 x25).bind fun σ26 =>
some (1, σ26)).bind fun q => (zbool q.1).bind fun x => some (x, q.2))
set_option maxRecDepth 100000 in
set_option maxHeartbeats 4000000 in
theorem m_A_doAgain {l : Launch} {b : Nat} {ex : Nat → Value} {D : va_G} {ca : Nat → ClassId} {σ : zSt} {t : Nat} {p0 : Nat} {p1 : Nat} {z : Int32 × zSt} (h : f_A_doAgain σ t p0 p1 = some z) : zMT l b ex D ca 5 y_A_doAgain c_A_doAgain n_A_doAgain r_ret_A_doAgain [.ref t, .ref p0, .ref p1] σ (some (.int z.1)) z.2 0 0 := by
  obtain ⟨_, hg0⟩ := zg_some h
  obtain ⟨z0, hbd, hz⟩ := zbd hg0
  obtain ⟨z1, hz1, hzz⟩ := zbd hz
  obtain ⟨hzb, rfl⟩ := zbool_some hz1
  cases hzz
  have h := hbd
  refine zmt_of (by decide) (Nat.le_of_ble_eq_true rfl) ⟨.boolean, rfl, zb_nar hzb⟩ (fun X o hin hrm _ _ _ _ _ hr => ?_)
  have hr := hr 0 0 (by decide) (by decide)
  have o : zOK X "WantShelves$Acts" c_A_doAgain n_A_doAgain 5 := o
  change zPJ X 0 0 0 [(0, .ref t), (1, .ref p0), (2, .ref p1)] [] σ
  refine zj_aload_n o (zdd k_A_doAgain 0 rfl) rfl 0 rfl ?_
  obtain ⟨x1, e_x1, h⟩ := zbd h
  refine zj_gI o (zdd k_A_doAgain 1 rfl) fl_A_31 rfl e_x1 ?_
  refine zj_if_ne (tgt := 9) o (zdd k_A_doAgain 2 rfl) (by decide) (fun hc => ?_) (fun hc => ?_)
  · rw [if_neg hc] at h
    refine zj_aload_n o (zdd k_A_doAgain 5 rfl) rfl 0 rfl ?_
    refine zj_aload_n o (zdd k_A_doAgain 6 rfl) rfl 0 rfl ?_
    obtain ⟨x2, e_x2, h⟩ := zbd h
    refine zj_gI o (zdd k_A_doAgain 7 rfl) fl_A_27 rfl e_x2 ?_
    obtain ⟨x3, e_x3, h⟩ := zbd h
    refine zc_V o (zdd k_A_doAgain 8 rfl) ml_A_37 mv_A_slotOf ⟨rfl, by decide⟩ (zg_some e_x3).1 (by decide) [.int x2] [] rfl (Nat.le_of_ble_eq_true rfl) rfl (m_A_slotOf e_x3) ?_
    change zPJ X 0 0 _ _ [.int x3] _
    refine zj_istore_n (loc' := [(3, .int x3), (0, .ref t), (1, .ref p0), (2, .ref p1)]) o (zdd k_A_doAgain 9 rfl) rfl (by decide) rfl ?_
    refine zj_aload_n o (zdd k_A_doAgain 10 rfl) rfl 1 rfl ?_
    refine zj_dup o (zdd k_A_doAgain 11 rfl) rfl ?_
    obtain ⟨x4, e_x4, h⟩ := zbd h
    refine zj_gI o (zdd k_A_doAgain 12 rfl) fl_A_27 rfl e_x4 ?_
    refine zj_iconst o (zdd k_A_doAgain 13 rfl) zki_1 ?_
    refine zj_iadd o (zdd k_A_doAgain 14 rfl) ?_
    obtain ⟨σ5, e_σ5, h⟩ := zbd h
    refine zj_pI o (zdd k_A_doAgain 15 rfl) fl_A_27 rfl rfl e_σ5 ?_
    refine zj_aload_n o (zdd k_A_doAgain 16 rfl) rfl 1 rfl ?_
    refine zj_dup o (zdd k_A_doAgain 17 rfl) rfl ?_
    obtain ⟨x6, e_x6, h⟩ := zbd h
    refine zj_gI o (zdd k_A_doAgain 18 rfl) fl_A_31 rfl e_x6 ?_
    refine zj_iconst o (zdd k_A_doAgain 19 rfl) zki_1 ?_
    refine zj_isub o (zdd k_A_doAgain 20 rfl) ?_
    obtain ⟨σ7, e_σ7, h⟩ := zbd h
    refine zj_pI o (zdd k_A_doAgain 21 rfl) fl_A_31 rfl rfl e_σ7 ?_
    refine zj_aload_n o (zdd k_A_doAgain 22 rfl) rfl 1 rfl ?_
    obtain ⟨a8, e_a8, h⟩ := zbd h
    refine zj_gP o (zdd k_A_doAgain 23 rfl) fl_A_11 rfl e_a8 ?_
    refine zj_iload_n o (zdd k_A_doAgain 24 rfl) rfl 0 rfl ?_
    obtain ⟨x9, e_x9, h⟩ := zbd h
    refine zj_iald o (zdd k_A_doAgain 25 rfl) e_x9 ?_
    refine zj_tableC (dt := 118) o [72, 85, 105] (zdd k_A_doAgain 26 rfl) (by decide) (by decide) (by decide) (by decide) (by decide) [(0, 72), (1, 85), (2, 105)] (by decide) ?_
    by_cases hc : x9 = 0
    · rw [if_pos hc] at h
      rw [zcase_pos hc]
      refine zj_aload_n o (zdd k_A_doAgain 27 rfl) rfl 2 rfl ?_
      refine zj_aload_n o (zdd k_A_doAgain 28 rfl) rfl 1 rfl ?_
      obtain ⟨a10, e_a10, h⟩ := zbd h
      refine zj_gP o (zdd k_A_doAgain 29 rfl) fl_A_15 rfl e_a10 ?_
      refine zj_iload_n o (zdd k_A_doAgain 30 rfl) rfl 0 rfl ?_
      obtain ⟨x11, e_x11, h⟩ := zbd h
      refine zj_iald o (zdd k_A_doAgain 31 rfl) e_x11 ?_
      obtain ⟨σ12, e_σ12, h⟩ := zbd h
      refine zc_V o (zdd k_A_doAgain 32 rfl) ml_A_52 mv_N_turnIn ⟨rfl, by decide⟩ (zg_some e_σ12).1 (by decide) [.int x11] [] rfl (Nat.le_of_ble_eq_true rfl) rfl (m_N_turnIn e_σ12) ?_
      change zPJ X 0 0 _ _ [] _
      refine zj_goto (tgt := 135) o (zdd k_A_doAgain 33 rfl) (by decide) ?_
      refine zj_iconst o (zdd k_A_doAgain 64 rfl) zki_1 ?_
      cases h
      exact zr_i o hr (zdd k_A_doAgain 65 rfl)
    · rw [if_neg hc] at h
      rw [zcase_neg hc]
      by_cases hc : x9 = 1
      · rw [if_pos hc] at h
        rw [zcase_pos hc]
        refine zj_aload_n o (zdd k_A_doAgain 34 rfl) rfl 2 rfl ?_
        obtain ⟨a13, e_a13, h⟩ := zbd h
        refine zj_gP o (zdd k_A_doAgain 35 rfl) fl_A_56 rfl e_a13 ?_
        refine zj_aload_n o (zdd k_A_doAgain 36 rfl) rfl 1 rfl ?_
        obtain ⟨a14, e_a14, h⟩ := zbd h
        refine zj_gP o (zdd k_A_doAgain 37 rfl) fl_A_15 rfl e_a14 ?_
        refine zj_iload_n o (zdd k_A_doAgain 38 rfl) rfl 0 rfl ?_
        obtain ⟨x15, e_x15, h⟩ := zbd h
        refine zj_iald o (zdd k_A_doAgain 39 rfl) e_x15 ?_
        refine zj_aload_n o (zdd k_A_doAgain 40 rfl) rfl 1 rfl ?_
        obtain ⟨a16, e_a16, h⟩ := zbd h
        refine zj_gP o (zdd k_A_doAgain 41 rfl) fl_A_21 rfl e_a16 ?_
        refine zj_iload_n o (zdd k_A_doAgain 42 rfl) rfl 0 rfl ?_
        obtain ⟨x17, e_x17, h⟩ := zbd h
        refine zj_iald o (zdd k_A_doAgain 43 rfl) e_x17 ?_
        obtain ⟨σ18, e_σ18, h⟩ := zbd h
        refine zj_iast o (zdd k_A_doAgain 44 rfl) e_σ18 ?_
        refine zj_goto (tgt := 135) o (zdd k_A_doAgain 45 rfl) (by decide) ?_
        refine zj_iconst o (zdd k_A_doAgain 64 rfl) zki_1 ?_
        cases h
        exact zr_i o hr (zdd k_A_doAgain 65 rfl)
      · rw [if_neg hc] at h
        rw [zcase_neg hc]
        by_cases hc : x9 = 2
        · rw [if_pos hc] at h
          rw [zcase_pos hc]
          refine zj_aload_n o (zdd k_A_doAgain 46 rfl) rfl 2 rfl ?_
          refine zj_aload_n o (zdd k_A_doAgain 47 rfl) rfl 1 rfl ?_
          obtain ⟨a19, e_a19, h⟩ := zbd h
          refine zj_gP o (zdd k_A_doAgain 48 rfl) fl_A_15 rfl e_a19 ?_
          refine zj_iload_n o (zdd k_A_doAgain 49 rfl) rfl 0 rfl ?_
          obtain ⟨x20, e_x20, h⟩ := zbd h
          refine zj_iald o (zdd k_A_doAgain 50 rfl) e_x20 ?_
          obtain ⟨σ21, e_σ21, h⟩ := zbd h
          refine zc_V o (zdd k_A_doAgain 51 rfl) ml_A_59 mv_N_turnOut ⟨rfl, by decide⟩ (zg_some e_σ21).1 (by decide) [.int x20] [] rfl (Nat.le_of_ble_eq_true rfl) rfl (m_N_turnOut e_σ21) ?_
          change zPJ X 0 0 _ _ [] _
          refine zj_goto (tgt := 135) o (zdd k_A_doAgain 52 rfl) (by decide) ?_
          refine zj_iconst o (zdd k_A_doAgain 64 rfl) zki_1 ?_
          cases h
          exact zr_i o hr (zdd k_A_doAgain 65 rfl)
        · rw [if_neg hc] at h
          rw [zcase_neg hc]
          change zPJ X 0 0 118 _ _ _
          refine zj_aload_n o (zdd k_A_doAgain 53 rfl) rfl 2 rfl ?_
          refine zj_aload_n o (zdd k_A_doAgain 54 rfl) rfl 3 rfl ?_
          refine zj_aload_n o (zdd k_A_doAgain 55 rfl) rfl 1 rfl ?_
          obtain ⟨a22, e_a22, h⟩ := zbd h
          refine zj_gP o (zdd k_A_doAgain 56 rfl) fl_A_15 rfl e_a22 ?_
          refine zj_iload_n o (zdd k_A_doAgain 57 rfl) rfl 0 rfl ?_
          obtain ⟨x23, e_x23, h⟩ := zbd h
          refine zj_iald o (zdd k_A_doAgain 58 rfl) e_x23 ?_
          refine zj_aload_n o (zdd k_A_doAgain 59 rfl) rfl 1 rfl ?_
          obtain ⟨a24, e_a24, h⟩ := zbd h
          refine zj_gP o (zdd k_A_doAgain 60 rfl) fl_A_21 rfl e_a24 ?_
          refine zj_iload_n o (zdd k_A_doAgain 61 rfl) rfl 0 rfl ?_
          obtain ⟨x25, e_x25, h⟩ := zbd h
          refine zj_iald o (zdd k_A_doAgain 62 rfl) e_x25 ?_
          obtain ⟨σ26, e_σ26, h⟩ := zbd h
          refine zc_V o (zdd k_A_doAgain 63 rfl) ml_A_65 mv_N_bendBy ⟨rfl, by decide⟩ (zg_some e_σ26).1 (by decide) [.ref p1, .int x23, .int x25] [] rfl (Nat.le_of_ble_eq_true rfl) rfl (m_N_bendBy e_σ26) ?_
          change zPJ X 0 0 _ _ [] _
          refine zj_iconst o (zdd k_A_doAgain 64 rfl) zki_1 ?_
          cases h
          exact zr_i o hr (zdd k_A_doAgain 65 rfl)
  · rw [if_pos hc] at h
    refine zj_iconst o (zdd k_A_doAgain 3 rfl) zki_0 ?_
    cases h
    exact zr_i o hr (zdd k_A_doAgain 4 rfl)
