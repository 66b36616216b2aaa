def f_L_init (σ : zSt) (t : Nat) : Option (zSt) :=
zg σ 3 t (
(some (znew σ (1, 30))).bind fun (σ1 : zSt) =>
(some σ.1.length).bind fun (a2 : Nat) =>
(zsP σ1 3 t 2 a2).bind fun σ3 =>
(some (znew σ3 (1, 30))).bind fun (σ4 : zSt) =>
(some σ3.1.length).bind fun (a5 : Nat) =>
(zsP σ4 3 t 3 a5).bind fun σ6 =>
(some (znew σ6 (1, 30))).bind fun (σ7 : zSt) =>
(some σ6.1.length).bind fun (a8 : Nat) =>
(zsP σ7 3 t 4 a8).bind fun σ9 =>
(some (znew σ9 (1, 30))).bind fun (σ10 : zSt) =>
(some σ9.1.length).bind fun (a11 : Nat) =>
(zsP σ10 3 t 5 a11).bind fun σ12 =>
(some (znew σ12 (1, 30))).bind fun (σ13 : zSt) =>
(some σ12.1.length).bind fun (a14 : Nat) =>
(zsP σ13 3 t 6 a14).bind fun σ15 =>
some σ15)
set_option maxRecDepth 100000 in
set_option maxHeartbeats 4000000 in
theorem m_L_init {l : Launch} {b : Nat} {ex : Nat → Value} {D : va_G} {ca : Nat → ClassId} {σ : zSt} {t : Nat} {z : zSt} (h : f_L_init σ t = some z) : zMT l b ex D ca 1 y_L_init c_L_init n_L_init r_ret_L_init [.ref t] σ none z 5 150 := by
  obtain ⟨_, hg0⟩ := zg_some h
  have h := hg0
  refine zmt_of (by decide) (Nat.le_of_ble_eq_true rfl) rfl (fun X o hin hrm _ _ _ _ _ hr => ?_)
  have hin := hin rfl
  have hr := hr 5 150 (by decide) (by decide)
  have o : zOK X "WantShelves$Looks" c_L_init n_L_init 1 := o
  change zPJ X 0 0 0 [(0, .ref t)] [] σ
  refine zj_aload_n o (zdd k_L_init 0 rfl) rfl 0 rfl ?_
  refine zj_objInit o (zdd k_L_init 1 rfl) ml_L_3 ob_im ob_code (by decide) (Nat.le_of_ble_eq_true rfl) ?_
  refine zj_aload_n o (zdd k_L_init 2 rfl) rfl 0 rfl ?_
  refine zj_bipush o (zdd k_L_init 3 rfl) zkb_30 ?_
  obtain ⟨σ1, e_σ1, h⟩ := zbd h
  refine zj_newa_int (N := 30) (mc := 5) (ms := 150) o (zdd k_L_init 4 rfl) ac_int (by decide) (by decide) (by decide) hrm (by decide) (by decide) ?_
  rw [Option.some.inj e_σ1]
  change zPJ X 1 30 _ _ _ _
  obtain ⟨a2, e_a2, h⟩ := zbd h
  rw [Option.some.inj e_a2]
  obtain ⟨σ3, e_σ3, h⟩ := zbd h
  refine zj_fP o (zdd k_L_init 5 rfl) fl_L_11 (Or.inr ⟨_, rfl⟩) hin rfl rfl e_σ3 ?_
  refine zj_aload_n o (zdd k_L_init 6 rfl) rfl 0 rfl ?_
  refine zj_bipush o (zdd k_L_init 7 rfl) zkb_30 ?_
  obtain ⟨σ4, e_σ4, h⟩ := zbd h
  refine zj_newa_int (N := 30) (mc := 5) (ms := 150) o (zdd k_L_init 8 rfl) ac_int (by decide) (by decide) (by decide) hrm (by decide) (by decide) ?_
  rw [Option.some.inj e_σ4]
  change zPJ X 2 60 _ _ _ _
  obtain ⟨a5, e_a5, h⟩ := zbd h
  rw [Option.some.inj e_a5]
  obtain ⟨σ6, e_σ6, h⟩ := zbd h
  refine zj_fP o (zdd k_L_init 9 rfl) fl_L_15 (Or.inr ⟨_, rfl⟩) hin rfl rfl e_σ6 ?_
  refine zj_aload_n o (zdd k_L_init 10 rfl) rfl 0 rfl ?_
  refine zj_bipush o (zdd k_L_init 11 rfl) zkb_30 ?_
  obtain ⟨σ7, e_σ7, h⟩ := zbd h
  refine zj_newa_int (N := 30) (mc := 5) (ms := 150) o (zdd k_L_init 12 rfl) ac_int (by decide) (by decide) (by decide) hrm (by decide) (by decide) ?_
  rw [Option.some.inj e_σ7]
  change zPJ X 3 90 _ _ _ _
  obtain ⟨a8, e_a8, h⟩ := zbd h
  rw [Option.some.inj e_a8]
  obtain ⟨σ9, e_σ9, h⟩ := zbd h
  refine zj_fP o (zdd k_L_init 13 rfl) fl_L_18 (Or.inr ⟨_, rfl⟩) hin rfl rfl e_σ9 ?_
  refine zj_aload_n o (zdd k_L_init 14 rfl) rfl 0 rfl ?_
  refine zj_bipush o (zdd k_L_init 15 rfl) zkb_30 ?_
  obtain ⟨σ10, e_σ10, h⟩ := zbd h
  refine zj_newa_int (N := 30) (mc := 5) (ms := 150) o (zdd k_L_init 16 rfl) ac_int (by decide) (by decide) (by decide) hrm (by decide) (by decide) ?_
  rw [Option.some.inj e_σ10]
  change zPJ X 4 120 _ _ _ _
  obtain ⟨a11, e_a11, h⟩ := zbd h
  rw [Option.some.inj e_a11]
  obtain ⟨σ12, e_σ12, h⟩ := zbd h
  refine zj_fP o (zdd k_L_init 17 rfl) fl_L_21 (Or.inr ⟨_, rfl⟩) hin rfl rfl e_σ12 ?_
  refine zj_aload_n o (zdd k_L_init 18 rfl) rfl 0 rfl ?_
  refine zj_bipush o (zdd k_L_init 19 rfl) zkb_30 ?_
  obtain ⟨σ13, e_σ13, h⟩ := zbd h
  refine zj_newa_int (N := 30) (mc := 5) (ms := 150) o (zdd k_L_init 20 rfl) ac_int (by decide) (by decide) (by decide) hrm (by decide) (by decide) ?_
  rw [Option.some.inj e_σ13]
  change zPJ X 5 150 _ _ _ _
  obtain ⟨a14, e_a14, h⟩ := zbd h
  rw [Option.some.inj e_a14]
  obtain ⟨σ15, e_σ15, h⟩ := zbd h
  refine zj_fP o (zdd k_L_init 21 rfl) fl_L_24 (Or.inr ⟨_, rfl⟩) hin rfl rfl e_σ15 ?_
  cases h
  exact zr_v o hr (zdd k_L_init 22 rfl)
def f_L_clear (σ : zSt) (t : Nat) : Option (zSt) :=
zg σ 3 t (
(zsI σ 3 t 0 0).bind fun σ1 =>
some σ1)
set_option maxRecDepth 100000 in
set_option maxHeartbeats 4000000 in
theorem m_L_clear {l : Launch} {b : Nat} {ex : Nat → Value} {D : va_G} {ca : Nat → ClassId} {σ : zSt} {t : Nat} {z : zSt} (h : f_L_clear σ t = some z) : zMT l b ex D ca 1 y_L_clear c_L_clear n_L_clear r_ret_L_clear [.ref t] σ none z 0 0 := by
  obtain ⟨_, hg0⟩ := zg_some h
  have h := hg0
  refine zmt_of (by decide) (Nat.le_of_ble_eq_true rfl) rfl (fun X o hin hrm _ _ _ _ _ hr => ?_)
  have hr := hr 0 0 (by decide) (by decide)
  have o : zOK X "WantShelves$Looks" c_L_clear n_L_clear 1 := o
  change zPJ X 0 0 0 [(0, .ref t)] [] σ
  refine zj_aload_n o (zdd k_L_clear 0 rfl) rfl 0 rfl ?_
  refine zj_iconst o (zdd k_L_clear 1 rfl) zki_0 ?_
  obtain ⟨σ1, e_σ1, h⟩ := zbd h
  refine zj_pI o (zdd k_L_clear 2 rfl) fl_L_27 rfl rfl e_σ1 ?_
  cases h
  exact zr_v o hr (zdd k_L_clear 3 rfl)
def f_L_add (σ : zSt) (t : Nat) (p0 : Int32) (p1 : Int32) (p2 : Int32) : Option (Int32 × zSt) :=
zg σ 3 t (
(zgI σ 3 t 0).bind fun x1 =>
if x1 < 30 then (
(zgP σ 3 t 4).bind fun a2 =>
(zgI σ 3 t 0).bind fun x3 =>
(zwI σ 1 a2 x3 p0).bind fun σ4 =>
(zgP σ4 3 t 2).bind fun a5 =>
(zgI σ4 3 t 0).bind fun x6 =>
(zwI σ4 1 a5 x6 p1).bind fun σ7 =>
(zgP σ7 3 t 3).bind fun a8 =>
(zgI σ7 3 t 0).bind fun x9 =>
(zwI σ7 1 a8 x9 p2).bind fun σ10 =>
(zgP σ10 3 t 5).bind fun a11 =>
(zgI σ10 3 t 0).bind fun x12 =>
(zgI σ10 3 t 1).bind fun x13 =>
(zwI σ10 1 a11 x12 x13).bind fun σ14 =>
(zgP σ14 3 t 6).bind fun a15 =>
(zgI σ14 3 t 0).bind fun x16 =>
(zwI σ14 1 a15 x16 (-1)).bind fun σ17 =>
(zgI σ17 3 t 0).bind fun x18 =>
(zsI σ17 3 t 0 (x18 + 1)).bind fun σ19 =>
(zgI σ19 3 t 0).bind fun x20 =>
some (x20 - 1, σ19)) else
some ((-1), σ))
set_option maxRecDepth 100000 in
set_option maxHeartbeats 4000000 in
theorem m_L_add {l : Launch} {b : Nat} {ex : Nat → Value} {D : va_G} {ca : Nat → ClassId} {σ : zSt} {t : Nat} {p0 : Int32} {p1 : Int32} {p2 : Int32} {z : Int32 × zSt} (h : f_L_add σ t p0 p1 p2 = some z) : zMT l b ex D ca 1 y_L_add c_L_add n_L_add r_ret_L_add [.ref t, .int p0, .int p1, .int p2] σ (some (.int z.1)) z.2 0 0 := by
  obtain ⟨_, hg0⟩ := zg_some h
  have h := hg0
  refine zmt_of (by decide) (Nat.le_of_ble_eq_true rfl) ⟨.int, rfl, rfl⟩ (fun X o hin hrm _ _ _ _ _ hr => ?_)
  have hr := hr 0 0 (by decide) (by decide)
  have o : zOK X "WantShelves$Looks" c_L_add n_L_add 1 := o
  change zPJ X 0 0 0 [(0, .ref t), (1, .int p0), (2, .int p1), (3, .int p2)] [] σ
  refine zj_aload_n o (zdd k_L_add 0 rfl) rfl 0 rfl ?_
  obtain ⟨x1, e_x1, h⟩ := zbd h
  refine zj_gI o (zdd k_L_add 1 rfl) fl_L_27 rfl e_x1 ?_
  refine zj_bipush o (zdd k_L_add 2 rfl) zkb_30 ?_
  refine zj_icmp_lt (tgt := 11) o (zdd k_L_add 3 rfl) (by decide) (fun hc => ?_) (fun hc => ?_)
  · rw [if_pos hc] at h
    refine zj_aload_n o (zdd k_L_add 6 rfl) rfl 0 rfl ?_
    obtain ⟨a2, e_a2, h⟩ := zbd h
    refine zj_gP o (zdd k_L_add 7 rfl) fl_L_18 rfl e_a2 ?_
    refine zj_aload_n o (zdd k_L_add 8 rfl) rfl 0 rfl ?_
    obtain ⟨x3, e_x3, h⟩ := zbd h
    refine zj_gI o (zdd k_L_add 9 rfl) fl_L_27 rfl e_x3 ?_
    refine zj_iload_n o (zdd k_L_add 10 rfl) rfl 1 rfl ?_
    obtain ⟨σ4, e_σ4, h⟩ := zbd h
    refine zj_iast o (zdd k_L_add 11 rfl) e_σ4 ?_
    refine zj_aload_n o (zdd k_L_add 12 rfl) rfl 0 rfl ?_
    obtain ⟨a5, e_a5, h⟩ := zbd h
    refine zj_gP o (zdd k_L_add 13 rfl) fl_L_11 rfl e_a5 ?_
    refine zj_aload_n o (zdd k_L_add 14 rfl) rfl 0 rfl ?_
    obtain ⟨x6, e_x6, h⟩ := zbd h
    refine zj_gI o (zdd k_L_add 15 rfl) fl_L_27 rfl e_x6 ?_
    refine zj_iload_n o (zdd k_L_add 16 rfl) rfl 2 rfl ?_
    obtain ⟨σ7, e_σ7, h⟩ := zbd h
    refine zj_iast o (zdd k_L_add 17 rfl) e_σ7 ?_
    refine zj_aload_n o (zdd k_L_add 18 rfl) rfl 0 rfl ?_
    obtain ⟨a8, e_a8, h⟩ := zbd h
    refine zj_gP o (zdd k_L_add 19 rfl) fl_L_15 rfl e_a8 ?_
    refine zj_aload_n o (zdd k_L_add 20 rfl) rfl 0 rfl ?_
    obtain ⟨x9, e_x9, h⟩ := zbd h
    refine zj_gI o (zdd k_L_add 21 rfl) fl_L_27 rfl e_x9 ?_
    refine zj_iload_n o (zdd k_L_add 22 rfl) rfl 3 rfl ?_
    obtain ⟨σ10, e_σ10, h⟩ := zbd h
    refine zj_iast o (zdd k_L_add 23 rfl) e_σ10 ?_
    refine zj_aload_n o (zdd k_L_add 24 rfl) rfl 0 rfl ?_
    obtain ⟨a11, e_a11, h⟩ := zbd h
    refine zj_gP o (zdd k_L_add 25 rfl) fl_L_21 rfl e_a11 ?_
    refine zj_aload_n o (zdd k_L_add 26 rfl) rfl 0 rfl ?_
    obtain ⟨x12, e_x12, h⟩ := zbd h
    refine zj_gI o (zdd k_L_add 27 rfl) fl_L_27 rfl e_x12 ?_
    refine zj_aload_n o (zdd k_L_add 28 rfl) rfl 0 rfl ?_
    obtain ⟨x13, e_x13, h⟩ := zbd h
    refine zj_gI o (zdd k_L_add 29 rfl) fl_L_31 rfl e_x13 ?_
    obtain ⟨σ14, e_σ14, h⟩ := zbd h
    refine zj_iast o (zdd k_L_add 30 rfl) e_σ14 ?_
    refine zj_aload_n o (zdd k_L_add 31 rfl) rfl 0 rfl ?_
    obtain ⟨a15, e_a15, h⟩ := zbd h
    refine zj_gP o (zdd k_L_add 32 rfl) fl_L_24 rfl e_a15 ?_
    refine zj_aload_n o (zdd k_L_add 33 rfl) rfl 0 rfl ?_
    obtain ⟨x16, e_x16, h⟩ := zbd h
    refine zj_gI o (zdd k_L_add 34 rfl) fl_L_27 rfl e_x16 ?_
    refine zj_iconst o (zdd k_L_add 35 rfl) zki_m1 ?_
    obtain ⟨σ17, e_σ17, h⟩ := zbd h
    refine zj_iast o (zdd k_L_add 36 rfl) e_σ17 ?_
    refine zj_aload_n o (zdd k_L_add 37 rfl) rfl 0 rfl ?_
    refine zj_dup o (zdd k_L_add 38 rfl) rfl ?_
    obtain ⟨x18, e_x18, h⟩ := zbd h
    refine zj_gI o (zdd k_L_add 39 rfl) fl_L_27 rfl e_x18 ?_
    refine zj_iconst o (zdd k_L_add 40 rfl) zki_1 ?_
    refine zj_iadd o (zdd k_L_add 41 rfl) ?_
    obtain ⟨σ19, e_σ19, h⟩ := zbd h
    refine zj_pI o (zdd k_L_add 42 rfl) fl_L_27 rfl rfl e_σ19 ?_
    refine zj_aload_n o (zdd k_L_add 43 rfl) rfl 0 rfl ?_
    obtain ⟨x20, e_x20, h⟩ := zbd h
    refine zj_gI o (zdd k_L_add 44 rfl) fl_L_27 rfl e_x20 ?_
    refine zj_iconst o (zdd k_L_add 45 rfl) zki_1 ?_
    refine zj_isub o (zdd k_L_add 46 rfl) ?_
    cases h
    exact zr_i o hr (zdd k_L_add 47 rfl)
  · rw [if_neg hc] at h
    refine zj_iconst o (zdd k_L_add 4 rfl) zki_m1 ?_
    cases h
    exact zr_i o hr (zdd k_L_add 5 rfl)
def f_L_takeOut (σ : zSt) (t : Nat) (p0 : Int32) : Option (Int32 × zSt) :=
zg σ 3 t (
(if p0 < 0 then (
some (0, σ)) else
(zgI σ 3 t 0).bind fun x1 =>
if x1 ≤ p0 then (
some (0, σ)) else
(zgP σ 3 t 6).bind fun a2 =>
(zaI σ 1 a2 p0).bind fun x3 =>
if x3 = (-1) then (
(zgP σ 3 t 6).bind fun a4 =>
(zgI σ 3 t 1).bind fun x5 =>
(zwI σ 1 a4 p0 x5).bind fun σ6 =>
some (1, σ6)) else
some (0, σ)).bind fun q => (zbool q.1).bind fun x => some (x, q.2))
set_option maxRecDepth 100000 in
set_option maxHeartbeats 4000000 in
theorem m_L_takeOut {l : Launch} {b : Nat} {ex : Nat → Value} {D : va_G} {ca : Nat → ClassId} {σ : zSt} {t : Nat} {p0 : Int32} {z : Int32 × zSt} (h : f_L_takeOut σ t p0 = some z) : zMT l b ex D ca 1 y_L_takeOut c_L_takeOut n_L_takeOut r_ret_L_takeOut [.ref t, .int p0] σ (some (.int z.1)) z.2 0 0 := by
  obtain ⟨_, hg0⟩ := zg_some h
  obtain ⟨z0, hbd, hz⟩ := zbd hg0
  obtain ⟨z1, hz1, hzz⟩ := zbd hz
  obtain ⟨hzb, rfl⟩ := zbool_some hz1
  cases hzz
  have h := hbd
  refine zmt_of (by decide) (Nat.le_of_ble_eq_true rfl) ⟨.boolean, rfl, zb_nar hzb⟩ (fun X o hin hrm _ _ _ _ _ hr => ?_)
  have hr := hr 0 0 (by decide) (by decide)
  have o : zOK X "WantShelves$Looks" c_L_takeOut n_L_takeOut 1 := o
  change zPJ X 0 0 0 [(0, .ref t), (1, .int p0)] [] σ
  refine zj_iload_n o (zdd k_L_takeOut 0 rfl) rfl 1 rfl ?_
  refine zj_if_lt (tgt := 22) o (zdd k_L_takeOut 1 rfl) (by decide) (fun hc => ?_) (fun hc => ?_)
  · rw [if_pos hc] at h
    refine zj_iconst o (zdd k_L_takeOut 12 rfl) zki_0 ?_
    cases h
    exact zr_i o hr (zdd k_L_takeOut 13 rfl)
  · rw [if_neg hc] at h
    refine zj_iload_n o (zdd k_L_takeOut 2 rfl) rfl 1 rfl ?_
    refine zj_aload_n o (zdd k_L_takeOut 3 rfl) rfl 0 rfl ?_
    obtain ⟨x1, e_x1, h⟩ := zbd h
    refine zj_gI o (zdd k_L_takeOut 4 rfl) fl_L_27 rfl e_x1 ?_
    refine zj_icmp_ge (tgt := 22) o (zdd k_L_takeOut 5 rfl) (by decide) (fun hc => ?_) (fun hc => ?_)
    · rw [if_pos hc] at h
      refine zj_iconst o (zdd k_L_takeOut 12 rfl) zki_0 ?_
      cases h
      exact zr_i o hr (zdd k_L_takeOut 13 rfl)
    · rw [if_neg hc] at h
      refine zj_aload_n o (zdd k_L_takeOut 6 rfl) rfl 0 rfl ?_
      obtain ⟨a2, e_a2, h⟩ := zbd h
      refine zj_gP o (zdd k_L_takeOut 7 rfl) fl_L_24 rfl e_a2 ?_
      refine zj_iload_n o (zdd k_L_takeOut 8 rfl) rfl 1 rfl ?_
      obtain ⟨x3, e_x3, h⟩ := zbd h
      refine zj_iald o (zdd k_L_takeOut 9 rfl) e_x3 ?_
      refine zj_iconst o (zdd k_L_takeOut 10 rfl) zki_m1 ?_
      refine zj_icmp_eq (tgt := 24) o (zdd k_L_takeOut 11 rfl) (by decide) (fun hc => ?_) (fun hc => ?_)
      · rw [if_pos hc] at h
        refine zj_aload_n o (zdd k_L_takeOut 14 rfl) rfl 0 rfl ?_
        obtain ⟨a4, e_a4, h⟩ := zbd h
        refine zj_gP o (zdd k_L_takeOut 15 rfl) fl_L_24 rfl e_a4 ?_
        refine zj_iload_n o (zdd k_L_takeOut 16 rfl) rfl 1 rfl ?_
        refine zj_aload_n o (zdd k_L_takeOut 17 rfl) rfl 0 rfl ?_
        obtain ⟨x5, e_x5, h⟩ := zbd h
        refine zj_gI o (zdd k_L_takeOut 18 rfl) fl_L_31 rfl e_x5 ?_
        obtain ⟨σ6, e_σ6, h⟩ := zbd h
        refine zj_iast o (zdd k_L_takeOut 19 rfl) e_σ6 ?_
        refine zj_iconst o (zdd k_L_takeOut 20 rfl) zki_1 ?_
        cases h
        exact zr_i o hr (zdd k_L_takeOut 21 rfl)
      · rw [if_neg hc] at h
        refine zj_iconst o (zdd k_L_takeOut 12 rfl) zki_0 ?_
        cases h
        exact zr_i o hr (zdd k_L_takeOut 13 rfl)
def f_L_counts (σ : zSt) (t : Nat) (p0 : Int32) (p1 : Int32) (p2 : Int32) : Option (Int32) :=
zg σ 3 t (
((zgP σ 3 t 4).bind fun a1 =>
(zaI σ 1 a1 p0).bind fun x2 =>
if x2 = p1 then (
(zgP σ 3 t 5).bind fun a3 =>
(zaI σ 1 a3 p0).bind fun x4 =>
if p2 < x4 then (
some 0) else
(zgP σ 3 t 6).bind fun a5 =>
(zaI σ 1 a5 p0).bind fun x6 =>
if x6 = (-1) then (
some 1) else
(zgP σ 3 t 6).bind fun a7 =>
(zaI σ 1 a7 p0).bind fun x8 =>
if x8 ≤ p2 then (
some 0) else
some 1) else
some 0).bind zbool)
set_option maxRecDepth 100000 in
set_option maxHeartbeats 4000000 in
theorem m_L_counts {l : Launch} {b : Nat} {ex : Nat → Value} {D : va_G} {ca : Nat → ClassId} {σ : zSt} {t : Nat} {p0 : Int32} {p1 : Int32} {p2 : Int32} {z : Int32} (h : f_L_counts σ t p0 p1 p2 = some z) : zMT l b ex D ca 1 y_L_counts c_L_counts n_L_counts r_ret_L_counts [.ref t, .int p0, .int p1, .int p2] σ (some (.int z)) σ 0 0 := by
  obtain ⟨_, hg0⟩ := zg_some h
  obtain ⟨z0, hbd, hz⟩ := zbd hg0
  obtain ⟨hzb, rfl⟩ := zbool_some hz
  have h := hbd
  refine zmt_of (by decide) (Nat.le_of_ble_eq_true rfl) ⟨.boolean, rfl, zb_nar hzb⟩ (fun X o hin hrm _ _ _ _ _ hr => ?_)
  have hr := hr 0 0 (by decide) (by decide)
  have o : zOK X "WantShelves$Looks" c_L_counts n_L_counts 1 := o
  change zPJ X 0 0 0 [(0, .ref t), (1, .int p0), (2, .int p1), (3, .int p2)] [] σ
  refine zj_aload_n o (zdd k_L_counts 0 rfl) rfl 0 rfl ?_
  obtain ⟨a1, e_a1, h⟩ := zbd h
  refine zj_gP o (zdd k_L_counts 1 rfl) fl_L_18 rfl e_a1 ?_
  refine zj_iload_n o (zdd k_L_counts 2 rfl) rfl 1 rfl ?_
  obtain ⟨x2, e_x2, h⟩ := zbd h
  refine zj_iald o (zdd k_L_counts 3 rfl) e_x2 ?_
  refine zj_iload_n o (zdd k_L_counts 4 rfl) rfl 2 rfl ?_
  refine zj_icmp_ne (tgt := 44) o (zdd k_L_counts 5 rfl) (by decide) (fun hc => ?_) (fun hc => ?_)
  · rw [if_neg hc] at h
    refine zj_iconst o (zdd k_L_counts 26 rfl) zki_0 ?_
    cases h
    exact zr_i o hr (zdd k_L_counts 27 rfl)
  · rw [if_pos hc] at h
    refine zj_aload_n o (zdd k_L_counts 6 rfl) rfl 0 rfl ?_
    obtain ⟨a3, e_a3, h⟩ := zbd h
    refine zj_gP o (zdd k_L_counts 7 rfl) fl_L_21 rfl e_a3 ?_
    refine zj_iload_n o (zdd k_L_counts 8 rfl) rfl 1 rfl ?_
    obtain ⟨x4, e_x4, h⟩ := zbd h
    refine zj_iald o (zdd k_L_counts 9 rfl) e_x4 ?_
    refine zj_iload_n o (zdd k_L_counts 10 rfl) rfl 3 rfl ?_
    refine zj_icmp_gt (tgt := 44) o (zdd k_L_counts 11 rfl) (by decide) (fun hc => ?_) (fun hc => ?_)
    · rw [if_pos hc] at h
      refine zj_iconst o (zdd k_L_counts 26 rfl) zki_0 ?_
      cases h
      exact zr_i o hr (zdd k_L_counts 27 rfl)
    · rw [if_neg hc] at h
      refine zj_aload_n o (zdd k_L_counts 12 rfl) rfl 0 rfl ?_
      obtain ⟨a5, e_a5, h⟩ := zbd h
      refine zj_gP o (zdd k_L_counts 13 rfl) fl_L_24 rfl e_a5 ?_
      refine zj_iload_n o (zdd k_L_counts 14 rfl) rfl 1 rfl ?_
      obtain ⟨x6, e_x6, h⟩ := zbd h
      refine zj_iald o (zdd k_L_counts 15 rfl) e_x6 ?_
      refine zj_iconst o (zdd k_L_counts 16 rfl) zki_m1 ?_
      refine zj_icmp_eq (tgt := 40) o (zdd k_L_counts 17 rfl) (by decide) (fun hc => ?_) (fun hc => ?_)
      · rw [if_pos hc] at h
        refine zj_iconst o (zdd k_L_counts 24 rfl) zki_1 ?_
        refine zj_goto (tgt := 45) o (zdd k_L_counts 25 rfl) (by decide) ?_
        cases h
        exact zr_i o hr (zdd k_L_counts 27 rfl)
      · rw [if_neg hc] at h
        refine zj_aload_n o (zdd k_L_counts 18 rfl) rfl 0 rfl ?_
        obtain ⟨a7, e_a7, h⟩ := zbd h
        refine zj_gP o (zdd k_L_counts 19 rfl) fl_L_24 rfl e_a7 ?_
        refine zj_iload_n o (zdd k_L_counts 20 rfl) rfl 1 rfl ?_
        obtain ⟨x8, e_x8, h⟩ := zbd h
        refine zj_iald o (zdd k_L_counts 21 rfl) e_x8 ?_
        refine zj_iload_n o (zdd k_L_counts 22 rfl) rfl 3 rfl ?_
        refine zj_icmp_le (tgt := 44) o (zdd k_L_counts 23 rfl) (by decide) (fun hc => ?_) (fun hc => ?_)
        · rw [if_pos hc] at h
          refine zj_iconst o (zdd k_L_counts 26 rfl) zki_0 ?_
          cases h
          exact zr_i o hr (zdd k_L_counts 27 rfl)
        · rw [if_neg hc] at h
          refine zj_iconst o (zdd k_L_counts 24 rfl) zki_1 ?_
          refine zj_goto (tgt := 45) o (zdd k_L_counts 25 rfl) (by decide) ?_
          cases h
          exact zr_i o hr (zdd k_L_counts 27 rfl)
