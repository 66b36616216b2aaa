def f_T_init (σ : zSt) (t : Nat) (p0 : Nat) : Option (zSt) :=
zg σ 9 t (
(zsI σ 9 t 1 (-1)).bind fun σ1 =>
(some (znew σ1 (0, 7))).bind fun (σ2 : zSt) =>
(some σ1.1.length).bind fun (a3 : Nat) =>
(f_C_init σ2 a3).bind fun σ4 =>
(zsP σ4 9 t 2 a3).bind fun σ5 =>
(some (znew σ5 (4, 4))).bind fun (σ6 : zSt) =>
(some σ5.1.length).bind fun (a7 : Nat) =>
(zsP σ6 9 t 3 a7).bind fun σ8 =>
(some (znew σ8 (4, 10))).bind fun (σ9 : zSt) =>
(some σ8.1.length).bind fun (a10 : Nat) =>
(zsP σ9 9 t 4 a10).bind fun σ11 =>
(some (znew σ11 (4, 6))).bind fun (σ12 : zSt) =>
(some σ11.1.length).bind fun (a13 : Nat) =>
(zsP σ12 9 t 5 a13).bind fun σ14 =>
(zsP σ14 9 t 6 p0).bind fun σ15 =>
(zgP σ15 10 p0 11).bind fun a16 =>
(zsP σ15 9 t 7 a16).bind fun σ17 =>
some σ17)
set_option maxRecDepth 100000 in
set_option maxHeartbeats 4000000 in
theorem m_T_init {l : Launch} {b : Nat} {ex : Nat → Value} {D : va_G} {ca : Nat → ClassId} {σ : zSt} {t : Nat} {p0 : Nat} {z : zSt} (h : f_T_init σ t p0 = some z) : zMT l b ex D ca 2 y_T_init c_T_init n_T_init r_ret_T_init [.ref t, .ref p0] σ none z 5 27 := by
  obtain ⟨_, hg0⟩ := zg_some h
  have h := hg0
  refine zmt_of (by decide) (Nat.le_of_ble_eq_true rfl) rfl (fun X o hin hrm _ _ _ _ _ hr => ?_)
  have hin := hin rfl
  have hr := hr 5 27 (by decide) (by decide)
  have o : zOK X "WantShelves$Teller" c_T_init n_T_init 2 := o
  change zPJ X 0 0 0 [(0, .ref t), (1, .ref p0)] [] σ
  refine zj_aload_n o (zdd k_T_init 0 rfl) rfl 0 rfl ?_
  refine zj_objInit o (zdd k_T_init 1 rfl) ml_T_3 ob_im ob_code (by decide) (Nat.le_of_ble_eq_true rfl) ?_
  refine zj_aload_n o (zdd k_T_init 2 rfl) rfl 0 rfl ?_
  refine zj_iconst o (zdd k_T_init 3 rfl) zki_m1 ?_
  obtain ⟨σ1, e_σ1, h⟩ := zbd h
  refine zj_pI o (zdd k_T_init 4 rfl) fl_T_9 rfl rfl e_σ1 ?_
  refine zj_aload_n o (zdd k_T_init 5 rfl) rfl 0 rfl ?_
  obtain ⟨σ2, e_σ2, h⟩ := zbd h
  refine zj_new (f := 7) (mc := 5) (ms := 27) o (zdd k_T_init 6 rfl) (by decide) cl_T_15 hrm (by decide) (by decide) ?_
  rw [Option.some.inj e_σ2]
  change zPJ X 1 7 _ _ _ _
  obtain ⟨a3, e_a3, h⟩ := zbd h
  rw [Option.some.inj e_a3]
  refine zj_dup o (zdd k_T_init 7 rfl) rfl ?_
  obtain ⟨σ4, e_σ4, h⟩ := zbd h
  refine zj_callI (mc := 5) (ms := 27) o (zdd k_T_init 8 rfl) (Or.inr ⟨_, nl_T_17⟩) mi_C_init (by decide) [] [.ref a3, .ref t] rfl (Nat.le_of_ble_eq_true rfl) rfl (m_C_init e_σ4) hrm (by decide) ?_
  change zPJ X 2 7 _ _ [.ref a3, .ref t] _
  obtain ⟨σ5, e_σ5, h⟩ := zbd h
  refine zj_fP o (zdd k_T_init 9 rfl) fl_T_18 (Or.inl ⟨_, rfl⟩) hin rfl rfl e_σ5 ?_
  refine zj_aload_n o (zdd k_T_init 10 rfl) rfl 0 rfl ?_
  refine zj_iconst o (zdd k_T_init 11 rfl) zki_4 ?_
  obtain ⟨σ6, e_σ6, h⟩ := zbd h
  refine zj_newa_long (N := 4) (mc := 5) (ms := 27) o (zdd k_T_init 12 rfl) ac_long (by decide) (by decide) (by decide) hrm (by decide) (by decide) ?_
  rw [Option.some.inj e_σ6]
  change zPJ X 3 11 _ _ _ _
  obtain ⟨a7, e_a7, h⟩ := zbd h
  rw [Option.some.inj e_a7]
  obtain ⟨σ8, e_σ8, h⟩ := zbd h
  refine zj_fP o (zdd k_T_init 13 rfl) fl_T_22 (Or.inr ⟨_, rfl⟩) hin rfl rfl e_σ8 ?_
  refine zj_aload_n o (zdd k_T_init 14 rfl) rfl 0 rfl ?_
  refine zj_bipush o (zdd k_T_init 15 rfl) zkb_10 ?_
  obtain ⟨σ9, e_σ9, h⟩ := zbd h
  refine zj_newa_long (N := 10) (mc := 5) (ms := 27) o (zdd k_T_init 16 rfl) ac_long (by decide) (by decide) (by decide) hrm (by decide) (by decide) ?_
  rw [Option.some.inj e_σ9]
  change zPJ X 4 21 _ _ _ _
  obtain ⟨a10, e_a10, h⟩ := zbd h
  rw [Option.some.inj e_a10]
  obtain ⟨σ11, e_σ11, h⟩ := zbd h
  refine zj_fP o (zdd k_T_init 17 rfl) fl_T_26 (Or.inr ⟨_, rfl⟩) hin rfl rfl e_σ11 ?_
  refine zj_aload_n o (zdd k_T_init 18 rfl) rfl 0 rfl ?_
  refine zj_bipush o (zdd k_T_init 19 rfl) zkb_6 ?_
  obtain ⟨σ12, e_σ12, h⟩ := zbd h
  refine zj_newa_long (N := 6) (mc := 5) (ms := 27) o (zdd k_T_init 20 rfl) ac_long (by decide) (by decide) (by decide) hrm (by decide) (by decide) ?_
  rw [Option.some.inj e_σ12]
  change zPJ X 5 27 _ _ _ _
  obtain ⟨a13, e_a13, h⟩ := zbd h
  rw [Option.some.inj e_a13]
  obtain ⟨σ14, e_σ14, h⟩ := zbd h
  refine zj_fP o (zdd k_T_init 21 rfl) fl_T_29 (Or.inr ⟨_, rfl⟩) hin rfl rfl e_σ14 ?_
  refine zj_aload_n o (zdd k_T_init 22 rfl) rfl 0 rfl ?_
  refine zj_aload_n o (zdd k_T_init 23 rfl) rfl 1 rfl ?_
  obtain ⟨σ15, e_σ15, h⟩ := zbd h
  refine zj_pP o (zdd k_T_init 24 rfl) fl_T_32 (Or.inl ⟨_, rfl⟩) rfl e_σ15 ?_
  refine zj_aload_n o (zdd k_T_init 25 rfl) rfl 0 rfl ?_
  refine zj_aload_n o (zdd k_T_init 26 rfl) rfl 1 rfl ?_
  obtain ⟨a16, e_a16, h⟩ := zbd h
  refine zj_gP o (zdd k_T_init 27 rfl) fl_T_36 rfl e_a16 ?_
  obtain ⟨σ17, e_σ17, h⟩ := zbd h
  refine zj_pP o (zdd k_T_init 28 rfl) fl_T_42 (Or.inl ⟨_, rfl⟩) rfl e_σ17 ?_
  cases h
  exact zr_v o hr (zdd k_T_init 29 rfl)
def f_T_blame (σ : zSt) (t : Nat) (p0 : Int32) (p1 : Int32) : Option (Int32 × zSt) :=
zg σ 9 t (
((zsI σ 9 t 0 p0).bind fun σ1 =>
(zsI σ1 9 t 1 p1).bind fun σ2 =>
some (0, σ2)).bind fun q => (zbool q.1).bind fun x => some (x, q.2))
set_option maxRecDepth 100000 in
set_option maxHeartbeats 4000000 in
theorem m_T_blame {l : Launch} {b : Nat} {ex : Nat → Value} {D : va_G} {ca : Nat → ClassId} {σ : zSt} {t : Nat} {p0 : Int32} {p1 : Int32} {z : Int32 × zSt} (h : f_T_blame σ t p0 p1 = some z) : zMT l b ex D ca 1 y_T_blame c_T_blame n_T_blame r_ret_T_blame [.ref t, .int p0, .int p1] σ (some (.int z.1)) z.2 0 0 := by
  obtain ⟨_, hg0⟩ := zg_some h
  obtain ⟨z0, hbd, hz⟩ := zbd hg0
  obtain ⟨z1, hz1, hzz⟩ := zbd hz
  obtain ⟨hzb, rfl⟩ := zbool_some hz1
  cases hzz
  have h := hbd
  refine zmt_of (by decide) (Nat.le_of_ble_eq_true rfl) ⟨.boolean, rfl, zb_nar hzb⟩ (fun X o hin hrm _ _ _ _ _ hr => ?_)
  have hr := hr 0 0 (by decide) (by decide)
  have o : zOK X "WantShelves$Teller" c_T_blame n_T_blame 1 := o
  change zPJ X 0 0 0 [(0, .ref t), (1, .int p0), (2, .int p1)] [] σ
  refine zj_aload_n o (zdd k_T_blame 0 rfl) rfl 0 rfl ?_
  refine zj_iload_n o (zdd k_T_blame 1 rfl) rfl 1 rfl ?_
  obtain ⟨σ1, e_σ1, h⟩ := zbd h
  refine zj_pI o (zdd k_T_blame 2 rfl) fl_T_51 rfl rfl e_σ1 ?_
  refine zj_aload_n o (zdd k_T_blame 3 rfl) rfl 0 rfl ?_
  refine zj_iload_n o (zdd k_T_blame 4 rfl) rfl 2 rfl ?_
  obtain ⟨σ2, e_σ2, h⟩ := zbd h
  refine zj_pI o (zdd k_T_blame 5 rfl) fl_T_9 rfl rfl e_σ2 ?_
  refine zj_iconst o (zdd k_T_blame 6 rfl) zki_0 ?_
  cases h
  exact zr_i o hr (zdd k_T_blame 7 rfl)
def f_T_refuse_17 (σ : zSt) (v0 : Nat) (s0 : Int32) (s1 : Nat) : Option (Int32 × zSt) :=
(zgP σ 9 v0 2).bind fun a1 =>
(zgI σ 7 a1 1).bind fun x2 =>
(f_T_blame σ s1 s0 x2).bind fun q3 =>
some (q3.1, q3.2)
set_option maxRecDepth 100000 in
set_option maxHeartbeats 4000000 in
theorem r_T_refuse_17 {X : zCX} (o : zOK X "WantShelves$Teller" c_T_refuse n_T_refuse 2) {σ : zSt} {v0 : Nat} {s0 : Int32} {s1 : Nat} {z : Int32 × zSt} (h : f_T_refuse_17 σ v0 s0 s1 = some z) (hr : zRX X 0 0 (some (.int z.1)) z.2) : zPJ X 0 0 17 [(0, .ref v0)] [.int s0, .ref s1] σ := by
  unfold f_T_refuse_17 at h
  refine zj_aload_n o (zdd k_T_refuse 9 rfl) rfl 0 rfl ?_
  obtain ⟨a1, e_a1, h⟩ := zbd h
  refine zj_gP o (zdd k_T_refuse 10 rfl) fl_T_18 rfl e_a1 ?_
  obtain ⟨x2, e_x2, h⟩ := zbd h
  refine zj_gI o (zdd k_T_refuse 11 rfl) fl_T_193 rfl e_x2 ?_
  obtain ⟨q3, e_q3, h⟩ := zbd h
  refine zc_V o (zdd k_T_refuse 12 rfl) ml_T_194 mv_T_blame ⟨rfl, by decide⟩ (zg_some e_q3).1 (by decide) [.int s0, .int x2] [] rfl (Nat.le_of_ble_eq_true rfl) rfl (m_T_blame e_q3) ?_
  change zPJ X 0 0 _ _ [.int q3.1] _
  cases h
  exact zr_i o hr (zdd k_T_refuse 13 rfl)
def f_T_refuse (σ : zSt) (t : Nat) : Option (Int32 × zSt) :=
zg σ 9 t (
((zgP σ 9 t 2).bind fun a1 =>
(zgI σ 7 a1 0).bind fun x2 =>
if x2 = 1 then (
f_T_refuse_17 σ t 1 t) else
f_T_refuse_17 σ t 2 t).bind fun q => (zbool q.1).bind fun x => some (x, q.2))
set_option maxRecDepth 100000 in
set_option maxHeartbeats 4000000 in
theorem m_T_refuse {l : Launch} {b : Nat} {ex : Nat → Value} {D : va_G} {ca : Nat → ClassId} {σ : zSt} {t : Nat} {z : Int32 × zSt} (h : f_T_refuse σ t = some z) : zMT l b ex D ca 2 y_T_refuse c_T_refuse n_T_refuse r_ret_T_refuse [.ref t] σ (some (.int z.1)) z.2 0 0 := by
  obtain ⟨_, hg0⟩ := zg_some h
  obtain ⟨z0, hbd, hz⟩ := zbd hg0
  obtain ⟨z1, hz1, hzz⟩ := zbd hz
  obtain ⟨hzb, rfl⟩ := zbool_some hz1
  cases hzz
  have h := hbd
  refine zmt_of (by decide) (Nat.le_of_ble_eq_true rfl) ⟨.boolean, rfl, zb_nar hzb⟩ (fun X o hin hrm _ _ _ _ _ hr => ?_)
  have hr := hr 0 0 (by decide) (by decide)
  have o : zOK X "WantShelves$Teller" c_T_refuse n_T_refuse 2 := o
  change zPJ X 0 0 0 [(0, .ref t)] [] σ
  refine zj_aload_n o (zdd k_T_refuse 0 rfl) rfl 0 rfl ?_
  refine zj_aload_n o (zdd k_T_refuse 1 rfl) rfl 0 rfl ?_
  obtain ⟨a1, e_a1, h⟩ := zbd h
  refine zj_gP o (zdd k_T_refuse 2 rfl) fl_T_18 rfl e_a1 ?_
  obtain ⟨x2, e_x2, h⟩ := zbd h
  refine zj_gI o (zdd k_T_refuse 3 rfl) fl_T_58 rfl e_x2 ?_
  refine zj_iconst o (zdd k_T_refuse 4 rfl) zki_1 ?_
  refine zj_icmp_ne (tgt := 16) o (zdd k_T_refuse 5 rfl) (by decide) (fun hc => ?_) (fun hc => ?_)
  · rw [if_neg hc] at h
    refine zj_iconst o (zdd k_T_refuse 8 rfl) zki_2 ?_
    exact zj_sub [0] rfl (r_T_refuse_17 o  h hr)
  · rw [if_pos hc] at h
    refine zj_iconst o (zdd k_T_refuse 6 rfl) zki_1 ?_
    refine zj_goto (tgt := 17) o (zdd k_T_refuse 7 rfl) (by decide) ?_
    exact zj_sub [0] rfl (r_T_refuse_17 o  h hr)
def f_T_indexOf_2 (k2 : zSt → Nat → Nat → Int32 → Int32 → Option (Int32)) (σ : zSt) (v0 : Nat) (v1 : Nat) (v2 : Int32) (v3 : Int32) : Option (Int32) :=
if v2 ≤ v3 then (
some (-1)) else
(zlen σ 4 v1).bind fun x1 =>
if x1 ≤ v3 then (
some (-1)) else
(zaJ σ v1 v3).bind fun x2 =>
(zgP σ 9 v0 2).bind fun a3 =>
(zgJ σ 7 a3 3).bind fun x4 =>
if lg_cmp x2 x4 = 0 then (
some v3) else
k2 σ v0 v1 v2 (v3 + 1)
set_option maxRecDepth 100000 in
set_option maxHeartbeats 4000000 in
theorem r_T_indexOf_2 {X : zCX} (o : zOK X "WantShelves$Teller" c_T_indexOf n_T_indexOf 1) {k2 : zSt → Nat → Nat → Int32 → Int32 → Option (Int32)} (hk2 : ∀ {σ : zSt} {v0 : Nat} {v1 : Nat} {v2 : Int32} {v3 : Int32} {z : Int32}, k2 σ v0 v1 v2 v3 = some z → zRX X 0 0 (some (.int z)) σ → zPJ X 0 0 2 [(0, .ref v0), (1, .ref v1), (2, .int v2), (3, .int v3)] [] σ) {σ : zSt} {v0 : Nat} {v1 : Nat} {v2 : Int32} {v3 : Int32} {z : Int32} (h : f_T_indexOf_2 k2 σ v0 v1 v2 v3 = some z) (hr : zRX X 0 0 (some (.int z)) σ) : zPJ X 0 0 2 [(0, .ref v0), (1, .ref v1), (2, .int v2), (3, .int v3)] [] σ := by
  unfold f_T_indexOf_2 at h
  refine zj_iload_n o (zdd k_T_indexOf 2 rfl) rfl 3 rfl ?_
  refine zj_iload_n o (zdd k_T_indexOf 3 rfl) rfl 2 rfl ?_
  refine zj_icmp_ge (tgt := 35) o (zdd k_T_indexOf 4 rfl) (by decide) (fun hc => ?_) (fun hc => ?_)
  · rw [if_pos hc] at h
    refine zj_iconst o (zdd k_T_indexOf 21 rfl) zki_m1 ?_
    cases h
    exact zr_i o hr (zdd k_T_indexOf 22 rfl)
  · rw [if_neg hc] at h
    refine zj_iload_n o (zdd k_T_indexOf 5 rfl) rfl 3 rfl ?_
    refine zj_aload_n o (zdd k_T_indexOf 6 rfl) rfl 1 rfl ?_
    obtain ⟨x1, e_x1, h⟩ := zbd h
    refine zj_alen4 o (zdd k_T_indexOf 7 rfl) e_x1 ?_
    refine zj_icmp_ge (tgt := 35) o (zdd k_T_indexOf 8 rfl) (by decide) (fun hc => ?_) (fun hc => ?_)
    · rw [if_pos hc] at h
      refine zj_iconst o (zdd k_T_indexOf 21 rfl) zki_m1 ?_
      cases h
      exact zr_i o hr (zdd k_T_indexOf 22 rfl)
    · rw [if_neg hc] at h
      refine zj_aload_n o (zdd k_T_indexOf 9 rfl) rfl 1 rfl ?_
      refine zj_iload_n o (zdd k_T_indexOf 10 rfl) rfl 3 rfl ?_
      obtain ⟨x2, e_x2, h⟩ := zbd h
      refine zj_lald o (zdd k_T_indexOf 11 rfl) e_x2 ?_
      refine zj_aload_n o (zdd k_T_indexOf 12 rfl) rfl 0 rfl ?_
      obtain ⟨a3, e_a3, h⟩ := zbd h
      refine zj_gP o (zdd k_T_indexOf 13 rfl) fl_T_18 rfl e_a3 ?_
      obtain ⟨x4, e_x4, h⟩ := zbd h
      refine zj_gJ o (zdd k_T_indexOf 14 rfl) fl_T_197 rfl e_x4 ?_
      refine zj_lcmp o (zdd k_T_indexOf 15 rfl) ?_
      refine zj_if_ne (tgt := 29) o (zdd k_T_indexOf 16 rfl) (by decide) (fun hc => ?_) (fun hc => ?_)
      · rw [if_neg hc] at h
        refine zj_iinc (v := v3 + 1) (loc' := [(3, .int (v3 + 1)), (0, .ref v0), (1, .ref v1), (2, .int v2)]) o (zdd k_T_indexOf 19 rfl) 3 rfl (by rw [zki_1]) (by decide) rfl ?_
        refine zj_goto (tgt := 2) o (zdd k_T_indexOf 20 rfl) (by decide) ?_
        exact zj_sub [1, 2, 3, 0] rfl (hk2 h hr)
      · rw [if_pos hc] at h
        refine zj_iload_n o (zdd k_T_indexOf 17 rfl) rfl 3 rfl ?_
        cases h
        exact zr_i o hr (zdd k_T_indexOf 18 rfl)
def f_T_indexOf_2L : Nat → zSt → Nat → Nat → Int32 → Int32 → Option (Int32)
  | 0 => fun _ _ _ _ _ => none
  | n + 1 => f_T_indexOf_2  (f_T_indexOf_2L  n)
theorem r_T_indexOf_2L {X : zCX} (o : zOK X "WantShelves$Teller" c_T_indexOf n_T_indexOf 1) : ∀ (n : Nat) {σ : zSt} {v0 : Nat} {v1 : Nat} {v2 : Int32} {v3 : Int32} {z : Int32}, f_T_indexOf_2L n σ v0 v1 v2 v3 = some z → zRX X 0 0 (some (.int z)) σ → zPJ X 0 0 2 [(0, .ref v0), (1, .ref v1), (2, .int v2), (3, .int v3)] [] σ
  | 0 => fun h _ => by cases h
  | n + 1 => fun h hr => r_T_indexOf_2 o (r_T_indexOf_2L o  n) h hr
def f_T_indexOf (σ : zSt) (t : Nat) (p0 : Nat) (p1 : Int32) : Option (Int32) :=
zg σ 9 t (
f_T_indexOf_2L zfu σ t p0 p1 0)
set_option maxRecDepth 100000 in
set_option maxHeartbeats 4000000 in
theorem m_T_indexOf {l : Launch} {b : Nat} {ex : Nat → Value} {D : va_G} {ca : Nat → ClassId} {σ : zSt} {t : Nat} {p0 : Nat} {p1 : Int32} {z : Int32} (h : f_T_indexOf σ t p0 p1 = some z) : zMT l b ex D ca 1 y_T_indexOf c_T_indexOf n_T_indexOf r_ret_T_indexOf [.ref t, .ref p0, .int p1] σ (some (.int z)) σ 0 0 := by
  obtain ⟨_, hg0⟩ := zg_some h
  have h := hg0
  refine zmt_of (by decide) (Nat.le_of_ble_eq_true rfl) ⟨.int, rfl, rfl⟩ (fun X o hin hrm _ _ _ _ _ hr => ?_)
  have hr := hr 0 0 (by decide) (by decide)
  have o : zOK X "WantShelves$Teller" c_T_indexOf n_T_indexOf 1 := o
  change zPJ X 0 0 0 [(0, .ref t), (1, .ref p0), (2, .int p1)] [] σ
  refine zj_iconst o (zdd k_T_indexOf 0 rfl) zki_0 ?_
  refine zj_istore_n (loc' := [(3, .int 0), (0, .ref t), (1, .ref p0), (2, .int p1)]) o (zdd k_T_indexOf 1 rfl) rfl (by decide) rfl ?_
  exact zj_sub [1, 2, 3, 0] rfl (r_T_indexOf_2L o  zfu h hr)
def f_T_takeNewName_17 (σ : zSt) (v0 : Nat) : Option (Int32 × zSt) :=
(f_T_refuse σ v0).bind fun q1 =>
some (q1.1, q1.2)
set_option maxRecDepth 100000 in
set_option maxHeartbeats 4000000 in
theorem r_T_takeNewName_17 {X : zCX} (o : zOK X "WantShelves$Teller" c_T_takeNewName n_T_takeNewName 8) {σ : zSt} {v0 : Nat} {z : Int32 × zSt} (h : f_T_takeNewName_17 σ v0 = some z) (hr : zRX X 0 0 (some (.int z.1)) z.2) : zPJ X 0 0 17 [(0, .ref v0)] [] σ := by
  unfold f_T_takeNewName_17 at h
  refine zj_aload_n o (zdd k_T_takeNewName 9 rfl) rfl 0 rfl ?_
  obtain ⟨q1, e_q1, h⟩ := zbd h
  refine zc_V o (zdd k_T_takeNewName 10 rfl) ml_T_68 mv_T_refuse ⟨rfl, by decide⟩ (zg_some e_q1).1 (by decide) [] [] rfl (Nat.le_of_ble_eq_true rfl) rfl (m_T_refuse e_q1) ?_
  change zPJ X 0 0 _ _ [.int q1.1] _
  cases h
  exact zr_i o hr (zdd k_T_takeNewName 11 rfl)
def f_T_takeNewName (σ : zSt) (t : Nat) (p0 : Nat) (p1 : Int32) : Option (Int32 × zSt) :=
zg σ 9 t (
((zgP σ 9 t 2).bind fun a1 =>
(zgI σ 7 a1 0).bind fun x2 =>
if x2 = 3 then (
(zlen σ 4 p0).bind fun x3 =>
if p1 < x3 then (
(f_T_indexOf σ t p0 p1).bind fun x4 =>
if x4 = (-1) then (
(zgP σ 9 t 2).bind fun a5 =>
(zgJ σ 7 a5 3).bind fun x6 =>
(zwJ σ p0 p1 x6).bind fun σ7 =>
(zgP σ7 9 t 2).bind fun a8 =>
(f_C_advance σ7 a8).bind fun σ9 =>
some (1, σ9)) else
(zgP σ 9 t 2).bind fun a10 =>
(zgI σ 7 a10 1).bind fun x11 =>
(f_T_blame σ t 3 x11).bind fun q12 =>
some (q12.1, q12.2)) else
f_T_takeNewName_17 σ t) else
f_T_takeNewName_17 σ t).bind fun q => (zbool q.1).bind fun x => some (x, q.2))
set_option maxRecDepth 100000 in
set_option maxHeartbeats 4000000 in
theorem m_T_takeNewName {l : Launch} {b : Nat} {ex : Nat → Value} {D : va_G} {ca : Nat → ClassId} {σ : zSt} {t : Nat} {p0 : Nat} {p1 : Int32} {z : Int32 × zSt} (h : f_T_takeNewName σ t p0 p1 = some z) : zMT l b ex D ca 8 y_T_takeNewName c_T_takeNewName n_T_takeNewName r_ret_T_takeNewName [.ref t, .ref p0, .int p1] σ (some (.int z.1)) z.2 0 0 := by
  obtain ⟨_, hg0⟩ := zg_some h
  obtain ⟨z0, hbd, hz⟩ := zbd hg0
  obtain ⟨z1, hz1, hzz⟩ := zbd hz
  obtain ⟨hzb, rfl⟩ := zbool_some hz1
  cases hzz
  have h := hbd
  refine zmt_of (by decide) (Nat.le_of_ble_eq_true rfl) ⟨.boolean, rfl, zb_nar hzb⟩ (fun X o hin hrm _ _ _ _ _ hr => ?_)
  have hr := hr 0 0 (by decide) (by decide)
  have o : zOK X "WantShelves$Teller" c_T_takeNewName n_T_takeNewName 8 := o
  change zPJ X 0 0 0 [(0, .ref t), (1, .ref p0), (2, .int p1)] [] σ
  refine zj_aload_n o (zdd k_T_takeNewName 0 rfl) rfl 0 rfl ?_
  obtain ⟨a1, e_a1, h⟩ := zbd h
  refine zj_gP o (zdd k_T_takeNewName 1 rfl) fl_T_18 rfl e_a1 ?_
  obtain ⟨x2, e_x2, h⟩ := zbd h
  refine zj_gI o (zdd k_T_takeNewName 2 rfl) fl_T_58 rfl e_x2 ?_
  refine zj_iconst o (zdd k_T_takeNewName 3 rfl) zki_3 ?_
  refine zj_icmp_ne (tgt := 17) o (zdd k_T_takeNewName 4 rfl) (by decide) (fun hc => ?_) (fun hc => ?_)
  · rw [if_neg hc] at h
    exact zj_sub [0] rfl (r_T_takeNewName_17 o  h hr)
  · rw [if_pos hc] at h
    refine zj_iload_n o (zdd k_T_takeNewName 5 rfl) rfl 2 rfl ?_
    refine zj_aload_n o (zdd k_T_takeNewName 6 rfl) rfl 1 rfl ?_
    obtain ⟨x3, e_x3, h⟩ := zbd h
    refine zj_alen4 o (zdd k_T_takeNewName 7 rfl) e_x3 ?_
    refine zj_icmp_lt (tgt := 22) o (zdd k_T_takeNewName 8 rfl) (by decide) (fun hc => ?_) (fun hc => ?_)
    · rw [if_pos hc] at h
      refine zj_aload_n o (zdd k_T_takeNewName 12 rfl) rfl 0 rfl ?_
      refine zj_aload_n o (zdd k_T_takeNewName 13 rfl) rfl 1 rfl ?_
      refine zj_iload_n o (zdd k_T_takeNewName 14 rfl) rfl 2 rfl ?_
      obtain ⟨x4, e_x4, h⟩ := zbd h
      refine zc_V o (zdd k_T_takeNewName 15 rfl) ml_T_189 mv_T_indexOf ⟨rfl, by decide⟩ (zg_some e_x4).1 (by decide) [.ref p0, .int p1] [] rfl (Nat.le_of_ble_eq_true rfl) rfl (m_T_indexOf e_x4) ?_
      change zPJ X 0 0 _ _ [.int x4] _
      refine zj_iconst o (zdd k_T_takeNewName 16 rfl) zki_m1 ?_
      refine zj_icmp_eq (tgt := 45) o (zdd k_T_takeNewName 17 rfl) (by decide) (fun hc => ?_) (fun hc => ?_)
      · rw [if_pos hc] at h
        refine zj_aload_n o (zdd k_T_takeNewName 25 rfl) rfl 1 rfl ?_
        refine zj_iload_n o (zdd k_T_takeNewName 26 rfl) rfl 2 rfl ?_
        refine zj_aload_n o (zdd k_T_takeNewName 27 rfl) rfl 0 rfl ?_
        obtain ⟨a5, e_a5, h⟩ := zbd h
        refine zj_gP o (zdd k_T_takeNewName 28 rfl) fl_T_18 rfl e_a5 ?_
        obtain ⟨x6, e_x6, h⟩ := zbd h
        refine zj_gJ o (zdd k_T_takeNewName 29 rfl) fl_T_197 rfl e_x6 ?_
        obtain ⟨σ7, e_σ7, h⟩ := zbd h
        refine zj_last o (zdd k_T_takeNewName 30 rfl) e_σ7 ?_
        refine zj_aload_n o (zdd k_T_takeNewName 31 rfl) rfl 0 rfl ?_
        obtain ⟨a8, e_a8, h⟩ := zbd h
        refine zj_gP o (zdd k_T_takeNewName 32 rfl) fl_T_18 rfl e_a8 ?_
        obtain ⟨σ9, e_σ9, h⟩ := zbd h
        refine zc_V o (zdd k_T_takeNewName 33 rfl) ml_T_102 mv_C_advance ⟨rfl, by decide⟩ (zg_some e_σ9).1 (by decide) [] [] rfl (Nat.le_of_ble_eq_true rfl) rfl (m_C_advance e_σ9) ?_
        change zPJ X 0 0 _ _ [] _
        refine zj_iconst o (zdd k_T_takeNewName 34 rfl) zki_1 ?_
        cases h
        exact zr_i o hr (zdd k_T_takeNewName 35 rfl)
      · rw [if_neg hc] at h
        refine zj_aload_n o (zdd k_T_takeNewName 18 rfl) rfl 0 rfl ?_
        refine zj_iconst o (zdd k_T_takeNewName 19 rfl) zki_3 ?_
        refine zj_aload_n o (zdd k_T_takeNewName 20 rfl) rfl 0 rfl ?_
        obtain ⟨a10, e_a10, h⟩ := zbd h
        refine zj_gP o (zdd k_T_takeNewName 21 rfl) fl_T_18 rfl e_a10 ?_
        obtain ⟨x11, e_x11, h⟩ := zbd h
        refine zj_gI o (zdd k_T_takeNewName 22 rfl) fl_T_193 rfl e_x11 ?_
        obtain ⟨q12, e_q12, h⟩ := zbd h
        refine zc_V o (zdd k_T_takeNewName 23 rfl) ml_T_194 mv_T_blame ⟨rfl, by decide⟩ (zg_some e_q12).1 (by decide) [.int 3, .int x11] [] rfl (Nat.le_of_ble_eq_true rfl) rfl (m_T_blame e_q12) ?_
        change zPJ X 0 0 _ _ [.int q12.1] _
        cases h
        exact zr_i o hr (zdd k_T_takeNewName 24 rfl)
    · rw [if_neg hc] at h
      exact zj_sub [0] rfl (r_T_takeNewName_17 o  h hr)
def f_T_take (σ : zSt) (t : Nat) (p0 : Int32) : Option (Int32 × zSt) :=
zg σ 9 t (
((zgP σ 9 t 2).bind fun a1 =>
(zgI σ 7 a1 0).bind fun x2 =>
if x2 = p0 then (
(zgP σ 9 t 2).bind fun a3 =>
(f_C_advance σ a3).bind fun σ4 =>
some (1, σ4)) else
(f_T_refuse σ t).bind fun q5 =>
some (q5.1, q5.2)).bind fun q => (zbool q.1).bind fun x => some (x, q.2))
set_option maxRecDepth 100000 in
set_option maxHeartbeats 4000000 in
theorem m_T_take {l : Launch} {b : Nat} {ex : Nat → Value} {D : va_G} {ca : Nat → ClassId} {σ : zSt} {t : Nat} {p0 : Int32} {z : Int32 × zSt} (h : f_T_take σ t p0 = some z) : zMT l b ex D ca 8 y_T_take c_T_take n_T_take r_ret_T_take [.ref t, .int p0] σ (some (.int z.1)) z.2 0 0 := by
  obtain ⟨_, hg0⟩ := zg_some h
  obtain ⟨z0, hbd, hz⟩ := zbd hg0
  obtain ⟨z1, hz1, hzz⟩ := zbd hz
  obtain ⟨hzb, rfl⟩ := zbool_some hz1
  cases hzz
  have h := hbd
  refine zmt_of (by decide) (Nat.le_of_ble_eq_true rfl) ⟨.boolean, rfl, zb_nar hzb⟩ (fun X o hin hrm _ _ _ _ _ hr => ?_)
  have hr := hr 0 0 (by decide) (by decide)
  have o : zOK X "WantShelves$Teller" c_T_take n_T_take 8 := o
  change zPJ X 0 0 0 [(0, .ref t), (1, .int p0)] [] σ
  refine zj_aload_n o (zdd k_T_take 0 rfl) rfl 0 rfl ?_
  obtain ⟨a1, e_a1, h⟩ := zbd h
  refine zj_gP o (zdd k_T_take 1 rfl) fl_T_18 rfl e_a1 ?_
  obtain ⟨x2, e_x2, h⟩ := zbd h
  refine zj_gI o (zdd k_T_take 2 rfl) fl_T_58 rfl e_x2 ?_
  refine zj_iload_n o (zdd k_T_take 3 rfl) rfl 1 rfl ?_
  refine zj_icmp_eq (tgt := 16) o (zdd k_T_take 4 rfl) (by decide) (fun hc => ?_) (fun hc => ?_)
  · rw [if_pos hc] at h
    refine zj_aload_n o (zdd k_T_take 8 rfl) rfl 0 rfl ?_
    obtain ⟨a3, e_a3, h⟩ := zbd h
    refine zj_gP o (zdd k_T_take 9 rfl) fl_T_18 rfl e_a3 ?_
    obtain ⟨σ4, e_σ4, h⟩ := zbd h
    refine zc_V o (zdd k_T_take 10 rfl) ml_T_102 mv_C_advance ⟨rfl, by decide⟩ (zg_some e_σ4).1 (by decide) [] [] rfl (Nat.le_of_ble_eq_true rfl) rfl (m_C_advance e_σ4) ?_
    change zPJ X 0 0 _ _ [] _
    refine zj_iconst o (zdd k_T_take 11 rfl) zki_1 ?_
    cases h
    exact zr_i o hr (zdd k_T_take 12 rfl)
  · rw [if_neg hc] at h
    refine zj_aload_n o (zdd k_T_take 5 rfl) rfl 0 rfl ?_
    obtain ⟨q5, e_q5, h⟩ := zbd h
    refine zc_V o (zdd k_T_take 6 rfl) ml_T_68 mv_T_refuse ⟨rfl, by decide⟩ (zg_some e_q5).1 (by decide) [] [] rfl (Nat.le_of_ble_eq_true rfl) rfl (m_T_refuse e_q5) ?_
    change zPJ X 0 0 _ _ [.int q5.1] _
    cases h
    exact zr_i o hr (zdd k_T_take 7 rfl)
def f_T_topicLine (σ : zSt) (t : Nat) : Option (Int32 × zSt) :=
zg σ 9 t (
((zgP σ 9 t 2).bind fun a1 =>
(f_C_advance σ a1).bind fun σ2 =>
(zgP σ2 9 t 3).bind fun a3 =>
(zgP σ2 9 t 6).bind fun a4 =>
(zgI σ2 10 a4 0).bind fun x5 =>
(f_T_takeNewName σ2 t a3 x5).bind fun q6 =>
if q6.1 = 0 then (
some (0, q6.2)) else
(zgP q6.2 9 t 6).bind fun a7 =>
(zgI q6.2 10 a7 0).bind fun x8 =>
(zsI q6.2 10 a7 0 (x8 + 1)).bind fun σ9 =>
(f_T_take σ9 t 59).bind fun q10 =>
some (q10.1, q10.2)).bind fun q => (zbool q.1).bind fun x => some (x, q.2))
set_option maxRecDepth 100000 in
set_option maxHeartbeats 4000000 in
theorem m_T_topicLine {l : Launch} {b : Nat} {ex : Nat → Value} {D : va_G} {ca : Nat → ClassId} {σ : zSt} {t : Nat} {z : Int32 × zSt} (h : f_T_topicLine σ t = some z) : zMT l b ex D ca 9 y_T_topicLine c_T_topicLine n_T_topicLine r_ret_T_topicLine [.ref t] σ (some (.int z.1)) z.2 0 0 := by
  obtain ⟨_, hg0⟩ := zg_some h
  obtain ⟨z0, hbd, hz⟩ := zbd hg0
  obtain ⟨z1, hz1, hzz⟩ := zbd hz
  obtain ⟨hzb, rfl⟩ := zbool_some hz1
  cases hzz
  have h := hbd
  refine zmt_of (by decide) (Nat.le_of_ble_eq_true rfl) ⟨.boolean, rfl, zb_nar hzb⟩ (fun X o hin hrm _ _ _ _ _ hr => ?_)
  have hr := hr 0 0 (by decide) (by decide)
  have o : zOK X "WantShelves$Teller" c_T_topicLine n_T_topicLine 9 := o
  change zPJ X 0 0 0 [(0, .ref t)] [] σ
  refine zj_aload_n o (zdd k_T_topicLine 0 rfl) rfl 0 rfl ?_
  obtain ⟨a1, e_a1, h⟩ := zbd h
  refine zj_gP o (zdd k_T_topicLine 1 rfl) fl_T_18 rfl e_a1 ?_
  obtain ⟨σ2, e_σ2, h⟩ := zbd h
  refine zc_V o (zdd k_T_topicLine 2 rfl) ml_T_102 mv_C_advance ⟨rfl, by decide⟩ (zg_some e_σ2).1 (by decide) [] [] rfl (Nat.le_of_ble_eq_true rfl) rfl (m_C_advance e_σ2) ?_
  change zPJ X 0 0 _ _ [] _
  refine zj_aload_n o (zdd k_T_topicLine 3 rfl) rfl 0 rfl ?_
  refine zj_aload_n o (zdd k_T_topicLine 4 rfl) rfl 0 rfl ?_
  obtain ⟨a3, e_a3, h⟩ := zbd h
  refine zj_gP o (zdd k_T_topicLine 5 rfl) fl_T_22 rfl e_a3 ?_
  refine zj_aload_n o (zdd k_T_topicLine 6 rfl) rfl 0 rfl ?_
  obtain ⟨a4, e_a4, h⟩ := zbd h
  refine zj_gP o (zdd k_T_topicLine 7 rfl) fl_T_32 rfl e_a4 ?_
  obtain ⟨x5, e_x5, h⟩ := zbd h
  refine zj_gI o (zdd k_T_topicLine 8 rfl) fl_T_61 rfl e_x5 ?_
  obtain ⟨q6, e_q6, h⟩ := zbd h
  refine zc_V o (zdd k_T_topicLine 9 rfl) ml_T_105 mv_T_takeNewName ⟨rfl, by decide⟩ (zg_some e_q6).1 (by decide) [.ref a3, .int x5] [] rfl (Nat.le_of_ble_eq_true rfl) rfl (m_T_takeNewName e_q6) ?_
  change zPJ X 0 0 _ _ [.int q6.1] _
  refine zj_if_ne (tgt := 27) o (zdd k_T_topicLine 10 rfl) (by decide) (fun hc => ?_) (fun hc => ?_)
  · rw [if_neg hc] at h
    refine zj_aload_n o (zdd k_T_topicLine 13 rfl) rfl 0 rfl ?_
    obtain ⟨a7, e_a7, h⟩ := zbd h
    refine zj_gP o (zdd k_T_topicLine 14 rfl) fl_T_32 rfl e_a7 ?_
    refine zj_dup o (zdd k_T_topicLine 15 rfl) rfl ?_
    obtain ⟨x8, e_x8, h⟩ := zbd h
    refine zj_gI o (zdd k_T_topicLine 16 rfl) fl_T_61 rfl e_x8 ?_
    refine zj_iconst o (zdd k_T_topicLine 17 rfl) zki_1 ?_
    refine zj_iadd o (zdd k_T_topicLine 18 rfl) ?_
    obtain ⟨σ9, e_σ9, h⟩ := zbd h
    refine zj_pI o (zdd k_T_topicLine 19 rfl) fl_T_61 rfl rfl e_σ9 ?_
    refine zj_aload_n o (zdd k_T_topicLine 20 rfl) rfl 0 rfl ?_
    refine zj_bipush o (zdd k_T_topicLine 21 rfl) zkb_59 ?_
    obtain ⟨q10, e_q10, h⟩ := zbd h
    refine zc_V o (zdd k_T_topicLine 22 rfl) ml_T_109 mv_T_take ⟨rfl, by decide⟩ (zg_some e_q10).1 (by decide) [.int 59] [] rfl (Nat.le_of_ble_eq_true rfl) rfl (m_T_take e_q10) ?_
    change zPJ X 0 0 _ _ [.int q10.1] _
    cases h
    exact zr_i o hr (zdd k_T_topicLine 23 rfl)
  · rw [if_pos hc] at h
    refine zj_iconst o (zdd k_T_topicLine 11 rfl) zki_0 ?_
    cases h
    exact zr_i o hr (zdd k_T_topicLine 12 rfl)
def f_T_takeTopic (σ : zSt) (t : Nat) (p0 : Int32) : Option (Int32 × zSt) :=
zg σ 9 t (
(zgP σ 9 t 2).bind fun a1 =>
(zgI σ 7 a1 0).bind fun x2 =>
if x2 = 3 then (
(zgP σ 9 t 3).bind fun a3 =>
(zgP σ 9 t 6).bind fun a4 =>
(zgI σ 10 a4 0).bind fun x5 =>
(f_T_indexOf σ t a3 x5).bind fun x6 =>
if x6 = (-1) then (
(zgP σ 9 t 2).bind fun a12 =>
(zgI σ 7 a12 1).bind fun x13 =>
(f_T_blame σ t 5 x13).bind fun q14 =>
some (x6, q14.2)) else
if (p0 >>> (x6 &&& 31)) &&& 1 = 0 then (
(zgP σ 9 t 2).bind fun a7 =>
(f_C_advance σ a7).bind fun σ8 =>
some (x6, σ8)) else
(zgP σ 9 t 2).bind fun a9 =>
(zgI σ 7 a9 1).bind fun x10 =>
(f_T_blame σ t 3 x10).bind fun q11 =>
some ((-1), q11.2)) else
(f_T_refuse σ t).bind fun q15 =>
some ((-1), q15.2))
set_option maxRecDepth 100000 in
set_option maxHeartbeats 4000000 in
theorem m_T_takeTopic {l : Launch} {b : Nat} {ex : Nat → Value} {D : va_G} {ca : Nat → ClassId} {σ : zSt} {t : Nat} {p0 : Int32} {z : Int32 × zSt} (h : f_T_takeTopic σ t p0 = some z) : zMT l b ex D ca 8 y_T_takeTopic c_T_takeTopic n_T_takeTopic r_ret_T_takeTopic [.ref t, .int p0] σ (some (.int z.1)) z.2 0 0 := by
  obtain ⟨_, hg0⟩ := zg_some h
  have h := hg0
  refine zmt_of (by decide) (Nat.le_of_ble_eq_true rfl) ⟨.int, rfl, rfl⟩ (fun X o hin hrm _ _ _ _ _ hr => ?_)
  have hr := hr 0 0 (by decide) (by decide)
  have o : zOK X "WantShelves$Teller" c_T_takeTopic n_T_takeTopic 8 := o
  change zPJ X 0 0 0 [(0, .ref t), (1, .int p0)] [] σ
  refine zj_aload_n o (zdd k_T_takeTopic 0 rfl) rfl 0 rfl ?_
  obtain ⟨a1, e_a1, h⟩ := zbd h
  refine zj_gP o (zdd k_T_takeTopic 1 rfl) fl_T_18 rfl e_a1 ?_
  obtain ⟨x2, e_x2, h⟩ := zbd h
  refine zj_gI o (zdd k_T_takeTopic 2 rfl) fl_T_58 rfl e_x2 ?_
  refine zj_iconst o (zdd k_T_takeTopic 3 rfl) zki_3 ?_
  refine zj_icmp_eq (tgt := 18) o (zdd k_T_takeTopic 4 rfl) (by decide) (fun hc => ?_) (fun hc => ?_)
  · rw [if_pos hc] at h
    refine zj_aload_n o (zdd k_T_takeTopic 10 rfl) rfl 0 rfl ?_
    refine zj_aload_n o (zdd k_T_takeTopic 11 rfl) rfl 0 rfl ?_
    obtain ⟨a3, e_a3, h⟩ := zbd h
    refine zj_gP o (zdd k_T_takeTopic 12 rfl) fl_T_22 rfl e_a3 ?_
    refine zj_aload_n o (zdd k_T_takeTopic 13 rfl) rfl 0 rfl ?_
    obtain ⟨a4, e_a4, h⟩ := zbd h
    refine zj_gP o (zdd k_T_takeTopic 14 rfl) fl_T_32 rfl e_a4 ?_
    obtain ⟨x5, e_x5, h⟩ := zbd h
    refine zj_gI o (zdd k_T_takeTopic 15 rfl) fl_T_61 rfl e_x5 ?_
    obtain ⟨x6, e_x6, h⟩ := zbd h
    refine zc_V o (zdd k_T_takeTopic 16 rfl) ml_T_189 mv_T_indexOf ⟨rfl, by decide⟩ (zg_some e_x6).1 (by decide) [.ref a3, .int x5] [] rfl (Nat.le_of_ble_eq_true rfl) rfl (m_T_indexOf e_x6) ?_
    change zPJ X 0 0 _ _ [.int x6] _
    refine zj_istore_n (loc' := [(2, .int x6), (0, .ref t), (1, .int p0)]) o (zdd k_T_takeTopic 17 rfl) rfl (by decide) rfl ?_
    refine zj_iload_n o (zdd k_T_takeTopic 18 rfl) rfl 0 rfl ?_
    refine zj_iconst o (zdd k_T_takeTopic 19 rfl) zki_m1 ?_
    refine zj_icmp_ne (tgt := 55) o (zdd k_T_takeTopic 20 rfl) (by decide) (fun hc => ?_) (fun hc => ?_)
    · rw [if_neg hc] at h
      refine zj_iload_n o (zdd k_T_takeTopic 29 rfl) rfl 2 rfl ?_
      refine zj_iload_n o (zdd k_T_takeTopic 30 rfl) rfl 0 rfl ?_
      refine zj_ishr o (zdd k_T_takeTopic 31 rfl) ?_
      refine zj_iconst o (zdd k_T_takeTopic 32 rfl) zki_1 ?_
      refine zj_iand o (zdd k_T_takeTopic 33 rfl) ?_
      refine zj_if_eq (tgt := 81) o (zdd k_T_takeTopic 34 rfl) (by decide) (fun hc => ?_) (fun hc => ?_)
      · rw [if_pos hc] at h
        refine zj_aload_n o (zdd k_T_takeTopic 45 rfl) rfl 1 rfl ?_
        obtain ⟨a7, e_a7, h⟩ := zbd h
        refine zj_gP o (zdd k_T_takeTopic 46 rfl) fl_T_18 rfl e_a7 ?_
        obtain ⟨σ8, e_σ8, h⟩ := zbd h
        refine zc_V o (zdd k_T_takeTopic 47 rfl) ml_T_102 mv_C_advance ⟨rfl, by decide⟩ (zg_some e_σ8).1 (by decide) [] [] rfl (Nat.le_of_ble_eq_true rfl) rfl (m_C_advance e_σ8) ?_
        change zPJ X 0 0 _ _ [] _
        refine zj_iload_n o (zdd k_T_takeTopic 48 rfl) rfl 0 rfl ?_
        cases h
        exact zr_i o hr (zdd k_T_takeTopic 49 rfl)
      · rw [if_neg hc] at h
        refine zj_aload_n o (zdd k_T_takeTopic 35 rfl) rfl 1 rfl ?_
        refine zj_iconst o (zdd k_T_takeTopic 36 rfl) zki_3 ?_
        refine zj_aload_n o (zdd k_T_takeTopic 37 rfl) rfl 1 rfl ?_
        obtain ⟨a9, e_a9, h⟩ := zbd h
        refine zj_gP o (zdd k_T_takeTopic 38 rfl) fl_T_18 rfl e_a9 ?_
        obtain ⟨x10, e_x10, h⟩ := zbd h
        refine zj_gI o (zdd k_T_takeTopic 39 rfl) fl_T_193 rfl e_x10 ?_
        obtain ⟨q11, e_q11, h⟩ := zbd h
        refine zc_V o (zdd k_T_takeTopic 40 rfl) ml_T_194 mv_T_blame ⟨rfl, by decide⟩ (zg_some e_q11).1 (by decide) [.int 3, .int x10] [] rfl (Nat.le_of_ble_eq_true rfl) rfl (m_T_blame e_q11) ?_
        change zPJ X 0 0 _ _ [.int q11.1] _
        refine zj_pop o (zdd k_T_takeTopic 41 rfl) rfl ?_
        refine zj_iconst o (zdd k_T_takeTopic 42 rfl) zki_m1 ?_
        refine zj_istore_n (loc' := [(2, .int (-1)), (0, .ref t), (1, .int p0)]) o (zdd k_T_takeTopic 43 rfl) rfl (by decide) rfl ?_
        refine zj_goto (tgt := 88) o (zdd k_T_takeTopic 44 rfl) (by decide) ?_
        refine zj_iload_n o (zdd k_T_takeTopic 48 rfl) rfl 0 rfl ?_
        cases h
        exact zr_i o hr (zdd k_T_takeTopic 49 rfl)
    · rw [if_pos hc] at h
      refine zj_aload_n o (zdd k_T_takeTopic 21 rfl) rfl 1 rfl ?_
      refine zj_iconst o (zdd k_T_takeTopic 22 rfl) zki_5 ?_
      refine zj_aload_n o (zdd k_T_takeTopic 23 rfl) rfl 1 rfl ?_
      obtain ⟨a12, e_a12, h⟩ := zbd h
      refine zj_gP o (zdd k_T_takeTopic 24 rfl) fl_T_18 rfl e_a12 ?_
      obtain ⟨x13, e_x13, h⟩ := zbd h
      refine zj_gI o (zdd k_T_takeTopic 25 rfl) fl_T_193 rfl e_x13 ?_
      obtain ⟨q14, e_q14, h⟩ := zbd h
      refine zc_V o (zdd k_T_takeTopic 26 rfl) ml_T_194 mv_T_blame ⟨rfl, by decide⟩ (zg_some e_q14).1 (by decide) [.int 5, .int x13] [] rfl (Nat.le_of_ble_eq_true rfl) rfl (m_T_blame e_q14) ?_
      change zPJ X 0 0 _ _ [.int q14.1] _
      refine zj_pop o (zdd k_T_takeTopic 27 rfl) rfl ?_
      refine zj_goto (tgt := 88) o (zdd k_T_takeTopic 28 rfl) (by decide) ?_
      refine zj_iload_n o (zdd k_T_takeTopic 48 rfl) rfl 0 rfl ?_
      cases h
      exact zr_i o hr (zdd k_T_takeTopic 49 rfl)
  · rw [if_neg hc] at h
    refine zj_aload_n o (zdd k_T_takeTopic 5 rfl) rfl 0 rfl ?_
    obtain ⟨q15, e_q15, h⟩ := zbd h
    refine zc_V o (zdd k_T_takeTopic 6 rfl) ml_T_68 mv_T_refuse ⟨rfl, by decide⟩ (zg_some e_q15).1 (by decide) [] [] rfl (Nat.le_of_ble_eq_true rfl) rfl (m_T_refuse e_q15) ?_
    change zPJ X 0 0 _ _ [.int q15.1] _
    refine zj_pop o (zdd k_T_takeTopic 7 rfl) rfl ?_
    refine zj_iconst o (zdd k_T_takeTopic 8 rfl) zki_m1 ?_
    cases h
    exact zr_i o hr (zdd k_T_takeTopic 9 rfl)
def f_T_takeNumber_38 (σ : zSt) (v0 : Nat) : Option (Int32 × zSt) :=
(zgP σ 9 v0 2).bind fun a1 =>
(zgI σ 7 a1 1).bind fun x2 =>
(f_T_blame σ v0 4 x2).bind fun q3 =>
some (q3.1, q3.2)
set_option maxRecDepth 100000 in
set_option maxHeartbeats 4000000 in
theorem r_T_takeNumber_38 {X : zCX} (o : zOK X "WantShelves$Teller" c_T_takeNumber n_T_takeNumber 8) {σ : zSt} {v0 : Nat} {z : Int32 × zSt} (h : f_T_takeNumber_38 σ v0 = some z) (hr : zRX X 0 0 (some (.int z.1)) z.2) : zPJ X 0 0 38 [(0, .ref v0)] [] σ := by
  unfold f_T_takeNumber_38 at h
  refine zj_aload_n o (zdd k_T_takeNumber 18 rfl) rfl 0 rfl ?_
  refine zj_iconst o (zdd k_T_takeNumber 19 rfl) zki_4 ?_
  refine zj_aload_n o (zdd k_T_takeNumber 20 rfl) rfl 0 rfl ?_
  obtain ⟨a1, e_a1, h⟩ := zbd h
  refine zj_gP o (zdd k_T_takeNumber 21 rfl) fl_T_18 rfl e_a1 ?_
  obtain ⟨x2, e_x2, h⟩ := zbd h
  refine zj_gI o (zdd k_T_takeNumber 22 rfl) fl_T_193 rfl e_x2 ?_
  obtain ⟨q3, e_q3, h⟩ := zbd h
  refine zc_V o (zdd k_T_takeNumber 23 rfl) ml_T_194 mv_T_blame ⟨rfl, by decide⟩ (zg_some e_q3).1 (by decide) [.int 4, .int x2] [] rfl (Nat.le_of_ble_eq_true rfl) rfl (m_T_blame e_q3) ?_
  change zPJ X 0 0 _ _ [.int q3.1] _
  cases h
  exact zr_i o hr (zdd k_T_takeNumber 24 rfl)
def f_T_takeNumber (σ : zSt) (t : Nat) (p0 : Int32) (p1 : Int32) : Option (Int32 × zSt) :=
zg σ 9 t (
((zgP σ 9 t 2).bind fun a1 =>
(zgI σ 7 a1 0).bind fun x2 =>
if x2 = 2 then (
(zgP σ 9 t 2).bind fun a3 =>
(zgI σ 7 a3 2).bind fun x4 =>
if x4 < p0 then (
f_T_takeNumber_38 σ t) else
(zgP σ 9 t 2).bind fun a5 =>
(zgI σ 7 a5 2).bind fun x6 =>
if x6 ≤ p1 then (
(zgP σ 9 t 2).bind fun a7 =>
(zgI σ 7 a7 2).bind fun x8 =>
(zsI σ 9 t 10 x8).bind fun σ9 =>
(zgP σ9 9 t 2).bind fun a10 =>
(f_C_advance σ9 a10).bind fun σ11 =>
some (1, σ11)) else
f_T_takeNumber_38 σ t) else
(f_T_refuse σ t).bind fun q12 =>
some (q12.1, q12.2)).bind fun q => (zbool q.1).bind fun x => some (x, q.2))
set_option maxRecDepth 100000 in
set_option maxHeartbeats 4000000 in
theorem m_T_takeNumber {l : Launch} {b : Nat} {ex : Nat → Value} {D : va_G} {ca : Nat → ClassId} {σ : zSt} {t : Nat} {p0 : Int32} {p1 : Int32} {z : Int32 × zSt} (h : f_T_takeNumber σ t p0 p1 = some z) : zMT l b ex D ca 8 y_T_takeNumber c_T_takeNumber n_T_takeNumber r_ret_T_takeNumber [.ref t, .int p0, .int p1] σ (some (.int z.1)) z.2 0 0 := by
  obtain ⟨_, hg0⟩ := zg_some h
  obtain ⟨z0, hbd, hz⟩ := zbd hg0
  obtain ⟨z1, hz1, hzz⟩ := zbd hz
  obtain ⟨hzb, rfl⟩ := zbool_some hz1
  cases hzz
  have h := hbd
  refine zmt_of (by decide) (Nat.le_of_ble_eq_true rfl) ⟨.boolean, rfl, zb_nar hzb⟩ (fun X o hin hrm _ _ _ _ _ hr => ?_)
  have hr := hr 0 0 (by decide) (by decide)
  have o : zOK X "WantShelves$Teller" c_T_takeNumber n_T_takeNumber 8 := o
  change zPJ X 0 0 0 [(0, .ref t), (1, .int p0), (2, .int p1)] [] σ
  refine zj_aload_n o (zdd k_T_takeNumber 0 rfl) rfl 0 rfl ?_
  obtain ⟨a1, e_a1, h⟩ := zbd h
  refine zj_gP o (zdd k_T_takeNumber 1 rfl) fl_T_18 rfl e_a1 ?_
  obtain ⟨x2, e_x2, h⟩ := zbd h
  refine zj_gI o (zdd k_T_takeNumber 2 rfl) fl_T_58 rfl e_x2 ?_
  refine zj_iconst o (zdd k_T_takeNumber 3 rfl) zki_2 ?_
  refine zj_icmp_eq (tgt := 16) o (zdd k_T_takeNumber 4 rfl) (by decide) (fun hc => ?_) (fun hc => ?_)
  · rw [if_pos hc] at h
    refine zj_aload_n o (zdd k_T_takeNumber 8 rfl) rfl 0 rfl ?_
    obtain ⟨a3, e_a3, h⟩ := zbd h
    refine zj_gP o (zdd k_T_takeNumber 9 rfl) fl_T_18 rfl e_a3 ?_
    obtain ⟨x4, e_x4, h⟩ := zbd h
    refine zj_gI o (zdd k_T_takeNumber 10 rfl) fl_T_183 rfl e_x4 ?_
    refine zj_iload_n o (zdd k_T_takeNumber 11 rfl) rfl 1 rfl ?_
    refine zj_icmp_lt (tgt := 38) o (zdd k_T_takeNumber 12 rfl) (by decide) (fun hc => ?_) (fun hc => ?_)
    · rw [if_pos hc] at h
      exact zj_sub [0] rfl (r_T_takeNumber_38 o  h hr)
    · rw [if_neg hc] at h
      refine zj_aload_n o (zdd k_T_takeNumber 13 rfl) rfl 0 rfl ?_
      obtain ⟨a5, e_a5, h⟩ := zbd h
      refine zj_gP o (zdd k_T_takeNumber 14 rfl) fl_T_18 rfl e_a5 ?_
      obtain ⟨x6, e_x6, h⟩ := zbd h
      refine zj_gI o (zdd k_T_takeNumber 15 rfl) fl_T_183 rfl e_x6 ?_
      refine zj_iload_n o (zdd k_T_takeNumber 16 rfl) rfl 2 rfl ?_
      refine zj_icmp_le (tgt := 51) o (zdd k_T_takeNumber 17 rfl) (by decide) (fun hc => ?_) (fun hc => ?_)
      · rw [if_pos hc] at h
        refine zj_aload_n o (zdd k_T_takeNumber 25 rfl) rfl 0 rfl ?_
        refine zj_aload_n o (zdd k_T_takeNumber 26 rfl) rfl 0 rfl ?_
        obtain ⟨a7, e_a7, h⟩ := zbd h
        refine zj_gP o (zdd k_T_takeNumber 27 rfl) fl_T_18 rfl e_a7 ?_
        obtain ⟨x8, e_x8, h⟩ := zbd h
        refine zj_gI o (zdd k_T_takeNumber 28 rfl) fl_T_183 rfl e_x8 ?_
        obtain ⟨σ9, e_σ9, h⟩ := zbd h
        refine zj_pI o (zdd k_T_takeNumber 29 rfl) fl_T_125 rfl rfl e_σ9 ?_
        refine zj_aload_n o (zdd k_T_takeNumber 30 rfl) rfl 0 rfl ?_
        obtain ⟨a10, e_a10, h⟩ := zbd h
        refine zj_gP o (zdd k_T_takeNumber 31 rfl) fl_T_18 rfl e_a10 ?_
        obtain ⟨σ11, e_σ11, h⟩ := zbd h
        refine zc_V o (zdd k_T_takeNumber 32 rfl) ml_T_102 mv_C_advance ⟨rfl, by decide⟩ (zg_some e_σ11).1 (by decide) [] [] rfl (Nat.le_of_ble_eq_true rfl) rfl (m_C_advance e_σ11) ?_
        change zPJ X 0 0 _ _ [] _
        refine zj_iconst o (zdd k_T_takeNumber 33 rfl) zki_1 ?_
        cases h
        exact zr_i o hr (zdd k_T_takeNumber 34 rfl)
      · rw [if_neg hc] at h
        exact zj_sub [0] rfl (r_T_takeNumber_38 o  h hr)
  · rw [if_neg hc] at h
    refine zj_aload_n o (zdd k_T_takeNumber 5 rfl) rfl 0 rfl ?_
    obtain ⟨q12, e_q12, h⟩ := zbd h
    refine zc_V o (zdd k_T_takeNumber 6 rfl) ml_T_68 mv_T_refuse ⟨rfl, by decide⟩ (zg_some e_q12).1 (by decide) [] [] rfl (Nat.le_of_ble_eq_true rfl) rfl (m_T_refuse e_q12) ?_
    change zPJ X 0 0 _ _ [.int q12.1] _
    cases h
    exact zr_i o hr (zdd k_T_takeNumber 7 rfl)
def f_T_bookLine_118 (σ : zSt) (v0 : Nat) : Option (Int32 × zSt) :=
(f_T_take σ v0 59).bind fun q1 =>
some (q1.1, q1.2)
set_option maxRecDepth 100000 in
set_option maxHeartbeats 4000000 in
theorem r_T_bookLine_118 {X : zCX} (o : zOK X "WantShelves$Teller" c_T_bookLine n_T_bookLine 9) {σ : zSt} {v0 : Nat} {z : Int32 × zSt} (h : f_T_bookLine_118 σ v0 = some z) (hr : zRX X 0 0 (some (.int z.1)) z.2) : zPJ X 0 0 118 [(0, .ref v0)] [] σ := by
  unfold f_T_bookLine_118 at h
  refine zj_aload_n o (zdd k_T_bookLine 67 rfl) rfl 0 rfl ?_
  refine zj_bipush o (zdd k_T_bookLine 68 rfl) zkb_59 ?_
  obtain ⟨q1, e_q1, h⟩ := zbd h
  refine zc_V o (zdd k_T_bookLine 69 rfl) ml_T_109 mv_T_take ⟨rfl, by decide⟩ (zg_some e_q1).1 (by decide) [.int 59] [] rfl (Nat.le_of_ble_eq_true rfl) rfl (m_T_take e_q1) ?_
  change zPJ X 0 0 _ _ [.int q1.1] _
  cases h
  exact zr_i o hr (zdd k_T_bookLine 70 rfl)
def f_T_bookLine_46 (k46 : zSt → Nat → Int32 → Int32 → Int32 → Option (Int32 × zSt)) (σ : zSt) (v0 : Nat) (v1 : Int32) (v2 : Int32) (v3 : Int32) : Option (Int32 × zSt) :=
if 4 < v3 then (
f_T_bookLine_118 σ v0) else
(zgP σ 9 v0 2).bind fun a1 =>
(zgI σ 7 a1 0).bind fun x2 =>
if x2 = 3 then (
(f_T_takeTopic σ v0 v2).bind fun q3 =>
if q3.1 = (-1) then (
some (0, q3.2)) else
(f_T_takeNumber q3.2 v0 0 9).bind fun q4 =>
if q4.1 = 0 then (
some (0, q4.2)) else
(zgP q4.2 9 v0 6).bind fun a5 =>
(zgP q4.2 10 a5 7).bind fun a6 =>
(zgI q4.2 9 v0 10).bind fun x7 =>
(zwI q4.2 1 a6 ((v1 * 4) + q3.1) x7).bind fun σ8 =>
k46 σ8 v0 v1 (v2 ||| (1 <<< (q3.1 &&& 31))) (v3 + 1)) else
f_T_bookLine_118 σ v0
set_option maxRecDepth 100000 in
set_option maxHeartbeats 4000000 in
theorem r_T_bookLine_46 {X : zCX} (o : zOK X "WantShelves$Teller" c_T_bookLine n_T_bookLine 9) {k46 : zSt → Nat → Int32 → Int32 → Int32 → Option (Int32 × zSt)} (hk46 : ∀ {σ : zSt} {v0 : Nat} {v1 : Int32} {v2 : Int32} {v3 : Int32} {z : Int32 × zSt}, k46 σ v0 v1 v2 v3 = some z → zRX X 0 0 (some (.int z.1)) z.2 → zPJ X 0 0 46 [(0, .ref v0), (1, .int v1), (2, .int v2), (3, .int v3)] [] σ) {σ : zSt} {v0 : Nat} {v1 : Int32} {v2 : Int32} {v3 : Int32} {z : Int32 × zSt} (h : f_T_bookLine_46 k46 σ v0 v1 v2 v3 = some z) (hr : zRX X 0 0 (some (.int z.1)) z.2) : zPJ X 0 0 46 [(0, .ref v0), (1, .int v1), (2, .int v2), (3, .int v3)] [] σ := by
  unfold f_T_bookLine_46 at h
  refine zj_iload_n o (zdd k_T_bookLine 26 rfl) rfl 3 rfl ?_
  refine zj_iconst o (zdd k_T_bookLine 27 rfl) zki_4 ?_
  refine zj_icmp_gt (tgt := 118) o (zdd k_T_bookLine 28 rfl) (by decide) (fun hc => ?_) (fun hc => ?_)
  · rw [if_pos hc] at h
    exact zj_sub [0] rfl (r_T_bookLine_118 o  h hr)
  · rw [if_neg hc] at h
    refine zj_aload_n o (zdd k_T_bookLine 29 rfl) rfl 0 rfl ?_
    obtain ⟨a1, e_a1, h⟩ := zbd h
    refine zj_gP o (zdd k_T_bookLine 30 rfl) fl_T_18 rfl e_a1 ?_
    obtain ⟨x2, e_x2, h⟩ := zbd h
    refine zj_gI o (zdd k_T_bookLine 31 rfl) fl_T_58 rfl e_x2 ?_
    refine zj_iconst o (zdd k_T_bookLine 32 rfl) zki_3 ?_
    refine zj_icmp_ne (tgt := 118) o (zdd k_T_bookLine 33 rfl) (by decide) (fun hc => ?_) (fun hc => ?_)
    · rw [if_neg hc] at h
      exact zj_sub [0] rfl (r_T_bookLine_118 o  h hr)
    · rw [if_pos hc] at h
      refine zj_aload_n o (zdd k_T_bookLine 34 rfl) rfl 0 rfl ?_
      refine zj_iload_n o (zdd k_T_bookLine 35 rfl) rfl 2 rfl ?_
      obtain ⟨q3, e_q3, h⟩ := zbd h
      refine zc_V o (zdd k_T_bookLine 36 rfl) ml_T_113 mv_T_takeTopic ⟨rfl, by decide⟩ (zg_some e_q3).1 (by decide) [.int v2] [] rfl (Nat.le_of_ble_eq_true rfl) rfl (m_T_takeTopic e_q3) ?_
      change zPJ X 0 0 _ _ [.int q3.1] _
      refine zj_istore (loc' := [(4, .int q3.1), (0, .ref v0), (1, .int v1), (2, .int v2), (3, .int v3)]) o (zdd k_T_bookLine 37 rfl) (by decide) rfl ?_
      refine zj_iload o (zdd k_T_bookLine 38 rfl) 0 rfl ?_
      refine zj_iconst o (zdd k_T_bookLine 39 rfl) zki_m1 ?_
      refine zj_icmp_eq (tgt := 85) o (zdd k_T_bookLine 40 rfl) (by decide) (fun hc => ?_) (fun hc => ?_)
      · rw [if_pos hc] at h
        refine zj_iconst o (zdd k_T_bookLine 46 rfl) zki_0 ?_
        cases h
        exact zr_i o hr (zdd k_T_bookLine 47 rfl)
      · rw [if_neg hc] at h
        refine zj_aload_n o (zdd k_T_bookLine 41 rfl) rfl 1 rfl ?_
        refine zj_iconst o (zdd k_T_bookLine 42 rfl) zki_0 ?_
        refine zj_bipush o (zdd k_T_bookLine 43 rfl) zkb_9 ?_
        obtain ⟨q4, e_q4, h⟩ := zbd h
        refine zc_V o (zdd k_T_bookLine 44 rfl) ml_T_117 mv_T_takeNumber ⟨rfl, by decide⟩ (zg_some e_q4).1 (by decide) [.int 0, .int 9] [] rfl (Nat.le_of_ble_eq_true rfl) rfl (m_T_takeNumber e_q4) ?_
        change zPJ X 0 0 _ _ [.int q4.1] _
        refine zj_if_ne (tgt := 87) o (zdd k_T_bookLine 45 rfl) (by decide) (fun hc => ?_) (fun hc => ?_)
        · rw [if_neg hc] at h
          refine zj_iload_n o (zdd k_T_bookLine 48 rfl) rfl 3 rfl ?_
          refine zj_iconst o (zdd k_T_bookLine 49 rfl) zki_1 ?_
          refine zj_iload o (zdd k_T_bookLine 50 rfl) 0 rfl ?_
          refine zj_ishl o (zdd k_T_bookLine 51 rfl) ?_
          refine zj_ior o (zdd k_T_bookLine 52 rfl) ?_
          refine zj_istore_n (loc' := [(2, .int (v2 ||| (1 <<< (q3.1 &&& 31)))), (4, .int q3.1), (0, .ref v0), (1, .int v1), (3, .int v3)]) o (zdd k_T_bookLine 53 rfl) rfl (by decide) rfl ?_
          refine zj_aload_n o (zdd k_T_bookLine 54 rfl) rfl 2 rfl ?_
          obtain ⟨a5, e_a5, h⟩ := zbd h
          refine zj_gP o (zdd k_T_bookLine 55 rfl) fl_T_32 rfl e_a5 ?_
          obtain ⟨a6, e_a6, h⟩ := zbd h
          refine zj_gP o (zdd k_T_bookLine 56 rfl) fl_T_121 rfl e_a6 ?_
          refine zj_iload_n o (zdd k_T_bookLine 57 rfl) rfl 3 rfl ?_
          refine zj_iconst o (zdd k_T_bookLine 58 rfl) zki_4 ?_
          refine zj_imul o (zdd k_T_bookLine 59 rfl) ?_
          refine zj_iload o (zdd k_T_bookLine 60 rfl) 1 rfl ?_
          refine zj_iadd o (zdd k_T_bookLine 61 rfl) ?_
          refine zj_aload_n o (zdd k_T_bookLine 62 rfl) rfl 2 rfl ?_
          obtain ⟨x7, e_x7, h⟩ := zbd h
          refine zj_gI o (zdd k_T_bookLine 63 rfl) fl_T_125 rfl e_x7 ?_
          obtain ⟨σ8, e_σ8, h⟩ := zbd h
          refine zj_iast o (zdd k_T_bookLine 64 rfl) e_σ8 ?_
          refine zj_iinc (v := v3 + 1) (loc' := [(3, .int (v3 + 1)), (2, .int (v2 ||| (1 <<< (q3.1 &&& 31)))), (4, .int q3.1), (0, .ref v0), (1, .int v1)]) o (zdd k_T_bookLine 65 rfl) 4 rfl (by rw [zki_1]) (by decide) rfl ?_
          refine zj_goto (tgt := 46) o (zdd k_T_bookLine 66 rfl) (by decide) ?_
          exact zj_sub [3, 4, 1, 0] rfl (hk46 h hr)
        · rw [if_pos hc] at h
          refine zj_iconst o (zdd k_T_bookLine 46 rfl) zki_0 ?_
          cases h
          exact zr_i o hr (zdd k_T_bookLine 47 rfl)
def f_T_bookLine_46L : Nat → zSt → Nat → Int32 → Int32 → Int32 → Option (Int32 × zSt)
  | 0 => fun _ _ _ _ _ => none
  | n + 1 => f_T_bookLine_46  (f_T_bookLine_46L  n)
theorem r_T_bookLine_46L {X : zCX} (o : zOK X "WantShelves$Teller" c_T_bookLine n_T_bookLine 9) : ∀ (n : Nat) {σ : zSt} {v0 : Nat} {v1 : Int32} {v2 : Int32} {v3 : Int32} {z : Int32 × zSt}, f_T_bookLine_46L n σ v0 v1 v2 v3 = some z → zRX X 0 0 (some (.int z.1)) z.2 → zPJ X 0 0 46 [(0, .ref v0), (1, .int v1), (2, .int v2), (3, .int v3)] [] σ
  | 0 => fun h _ => by cases h
  | n + 1 => fun h hr => r_T_bookLine_46 o (r_T_bookLine_46L o  n) h hr
def f_T_bookLine (σ : zSt) (t : Nat) : Option (Int32 × zSt) :=
zg σ 9 t (
((zgP σ 9 t 6).bind fun a1 =>
(zgI σ 10 a1 1).bind fun x2 =>
(zgP σ 9 t 2).bind fun a3 =>
(f_C_advance σ a3).bind fun σ4 =>
(zgP σ4 9 t 4).bind fun a5 =>
(f_T_takeNewName σ4 t a5 x2).bind fun q6 =>
if q6.1 = 0 then (
some (0, q6.2)) else
(zgP q6.2 9 t 6).bind fun a7 =>
(zgI q6.2 10 a7 1).bind fun x8 =>
(zsI q6.2 10 a7 1 (x8 + 1)).bind fun σ9 =>
f_T_bookLine_46L zfu σ9 t x2 0 0).bind fun q => (zbool q.1).bind fun x => some (x, q.2))
set_option maxRecDepth 100000 in
set_option maxHeartbeats 4000000 in
theorem m_T_bookLine {l : Launch} {b : Nat} {ex : Nat → Value} {D : va_G} {ca : Nat → ClassId} {σ : zSt} {t : Nat} {z : Int32 × zSt} (h : f_T_bookLine σ t = some z) : zMT l b ex D ca 9 y_T_bookLine c_T_bookLine n_T_bookLine r_ret_T_bookLine [.ref t] σ (some (.int z.1)) z.2 0 0 := by
  obtain ⟨_, hg0⟩ := zg_some h
  obtain ⟨z0, hbd, hz⟩ := zbd hg0
  obtain ⟨z1, hz1, hzz⟩ := zbd hz
  obtain ⟨hzb, rfl⟩ := zbool_some hz1
  cases hzz
  have h := hbd
  refine zmt_of (by decide) (Nat.le_of_ble_eq_true rfl) ⟨.boolean, rfl, zb_nar hzb⟩ (fun X o hin hrm _ _ _ _ _ hr => ?_)
  have hr := hr 0 0 (by decide) (by decide)
  have o : zOK X "WantShelves$Teller" c_T_bookLine n_T_bookLine 9 := o
  change zPJ X 0 0 0 [(0, .ref t)] [] σ
  refine zj_aload_n o (zdd k_T_bookLine 0 rfl) rfl 0 rfl ?_
  obtain ⟨a1, e_a1, h⟩ := zbd h
  refine zj_gP o (zdd k_T_bookLine 1 rfl) fl_T_32 rfl e_a1 ?_
  obtain ⟨x2, e_x2, h⟩ := zbd h
  refine zj_gI o (zdd k_T_bookLine 2 rfl) fl_T_71 rfl e_x2 ?_
  refine zj_istore_n (loc' := [(1, .int x2), (0, .ref t)]) o (zdd k_T_bookLine 3 rfl) rfl (by decide) rfl ?_
  refine zj_aload_n o (zdd k_T_bookLine 4 rfl) rfl 1 rfl ?_
  obtain ⟨a3, e_a3, h⟩ := zbd h
  refine zj_gP o (zdd k_T_bookLine 5 rfl) fl_T_18 rfl e_a3 ?_
  obtain ⟨σ4, e_σ4, h⟩ := zbd h
  refine zc_V o (zdd k_T_bookLine 6 rfl) ml_T_102 mv_C_advance ⟨rfl, by decide⟩ (zg_some e_σ4).1 (by decide) [] [] rfl (Nat.le_of_ble_eq_true rfl) rfl (m_C_advance e_σ4) ?_
  change zPJ X 0 0 _ _ [] _
  refine zj_aload_n o (zdd k_T_bookLine 7 rfl) rfl 1 rfl ?_
  refine zj_aload_n o (zdd k_T_bookLine 8 rfl) rfl 1 rfl ?_
  obtain ⟨a5, e_a5, h⟩ := zbd h
  refine zj_gP o (zdd k_T_bookLine 9 rfl) fl_T_26 rfl e_a5 ?_
  refine zj_iload_n o (zdd k_T_bookLine 10 rfl) rfl 0 rfl ?_
  obtain ⟨q6, e_q6, h⟩ := zbd h
  refine zc_V o (zdd k_T_bookLine 11 rfl) ml_T_105 mv_T_takeNewName ⟨rfl, by decide⟩ (zg_some e_q6).1 (by decide) [.ref a5, .int x2] [] rfl (Nat.le_of_ble_eq_true rfl) rfl (m_T_takeNewName e_q6) ?_
  change zPJ X 0 0 _ _ [.int q6.1] _
  refine zj_if_ne (tgt := 29) o (zdd k_T_bookLine 12 rfl) (by decide) (fun hc => ?_) (fun hc => ?_)
  · rw [if_neg hc] at h
    refine zj_aload_n o (zdd k_T_bookLine 15 rfl) rfl 1 rfl ?_
    obtain ⟨a7, e_a7, h⟩ := zbd h
    refine zj_gP o (zdd k_T_bookLine 16 rfl) fl_T_32 rfl e_a7 ?_
    refine zj_dup o (zdd k_T_bookLine 17 rfl) rfl ?_
    obtain ⟨x8, e_x8, h⟩ := zbd h
    refine zj_gI o (zdd k_T_bookLine 18 rfl) fl_T_71 rfl e_x8 ?_
    refine zj_iconst o (zdd k_T_bookLine 19 rfl) zki_1 ?_
    refine zj_iadd o (zdd k_T_bookLine 20 rfl) ?_
    obtain ⟨σ9, e_σ9, h⟩ := zbd h
    refine zj_pI o (zdd k_T_bookLine 21 rfl) fl_T_71 rfl rfl e_σ9 ?_
    refine zj_iconst o (zdd k_T_bookLine 22 rfl) zki_0 ?_
    refine zj_istore_n (loc' := [(2, .int 0), (1, .int x2), (0, .ref t)]) o (zdd k_T_bookLine 23 rfl) rfl (by decide) rfl ?_
    refine zj_iconst o (zdd k_T_bookLine 24 rfl) zki_0 ?_
    refine zj_istore_n (loc' := [(3, .int 0), (2, .int 0), (1, .int x2), (0, .ref t)]) o (zdd k_T_bookLine 25 rfl) rfl (by decide) rfl ?_
    exact zj_sub [3, 2, 1, 0] rfl (r_T_bookLine_46L o  zfu h hr)
  · rw [if_pos hc] at h
    refine zj_iconst o (zdd k_T_bookLine 13 rfl) zki_0 ?_
    cases h
    exact zr_i o hr (zdd k_T_bookLine 14 rfl)
def f_T_takeSigned_95 (σ : zSt) (v0 : Nat) (s0 : Int32) (s1 : Nat) : Option (Int32 × zSt) :=
(zsI σ 9 s1 10 s0).bind fun σ1 =>
(zgP σ1 9 v0 2).bind fun a2 =>
(f_C_advance σ1 a2).bind fun σ3 =>
some (1, σ3)
set_option maxRecDepth 100000 in
set_option maxHeartbeats 4000000 in
theorem r_T_takeSigned_95 {X : zCX} (o : zOK X "WantShelves$Teller" c_T_takeSigned n_T_takeSigned 8) {σ : zSt} {v0 : Nat} {s0 : Int32} {s1 : Nat} {z : Int32 × zSt} (h : f_T_takeSigned_95 σ v0 s0 s1 = some z) (hr : zRX X 0 0 (some (.int z.1)) z.2) : zPJ X 0 0 95 [(0, .ref v0)] [.int s0, .ref s1] σ := by
  unfold f_T_takeSigned_95 at h
  obtain ⟨σ1, e_σ1, h⟩ := zbd h
  refine zj_pI o (zdd k_T_takeSigned 47 rfl) fl_T_125 rfl rfl e_σ1 ?_
  refine zj_aload_n o (zdd k_T_takeSigned 48 rfl) rfl 0 rfl ?_
  obtain ⟨a2, e_a2, h⟩ := zbd h
  refine zj_gP o (zdd k_T_takeSigned 49 rfl) fl_T_18 rfl e_a2 ?_
  obtain ⟨σ3, e_σ3, h⟩ := zbd h
  refine zc_V o (zdd k_T_takeSigned 50 rfl) ml_T_102 mv_C_advance ⟨rfl, by decide⟩ (zg_some e_σ3).1 (by decide) [] [] rfl (Nat.le_of_ble_eq_true rfl) rfl (m_C_advance e_σ3) ?_
  change zPJ X 0 0 _ _ [] _
  refine zj_iconst o (zdd k_T_takeSigned 51 rfl) zki_1 ?_
  cases h
  exact zr_i o hr (zdd k_T_takeSigned 52 rfl)
def f_T_takeSigned_37 (σ : zSt) (v0 : Nat) (v1 : Int32) (v2 : Int32) : Option (Int32 × zSt) :=
(zgP σ 9 v0 2).bind fun a1 =>
(zgI σ 7 a1 0).bind fun x2 =>
if x2 = 2 then (
(zgP σ 9 v0 2).bind fun a3 =>
(zgI σ 7 a3 2).bind fun x4 =>
if x4 ≤ 9 then (
if v2 = 0 then (
(zgP σ 9 v0 2).bind fun a5 =>
(zgI σ 7 a5 2).bind fun x6 =>
f_T_takeSigned_95 σ v0 x6 v0) else
(zgP σ 9 v0 2).bind fun a7 =>
(zgI σ 7 a7 2).bind fun x8 =>
f_T_takeSigned_95 σ v0 (-x8) v0) else
(f_T_blame σ v0 4 v1).bind fun q9 =>
some (q9.1, q9.2)) else
(f_T_refuse σ v0).bind fun q10 =>
some (q10.1, q10.2)
set_option maxRecDepth 100000 in
set_option maxHeartbeats 4000000 in
theorem r_T_takeSigned_37 {X : zCX} (o : zOK X "WantShelves$Teller" c_T_takeSigned n_T_takeSigned 8) {σ : zSt} {v0 : Nat} {v1 : Int32} {v2 : Int32} {z : Int32 × zSt} (h : f_T_takeSigned_37 σ v0 v1 v2 = some z) (hr : zRX X 0 0 (some (.int z.1)) z.2) : zPJ X 0 0 37 [(0, .ref v0), (1, .int v1), (2, .int v2)] [] σ := by
  unfold f_T_takeSigned_37 at h
  refine zj_aload_n o (zdd k_T_takeSigned 18 rfl) rfl 0 rfl ?_
  obtain ⟨a1, e_a1, h⟩ := zbd h
  refine zj_gP o (zdd k_T_takeSigned 19 rfl) fl_T_18 rfl e_a1 ?_
  obtain ⟨x2, e_x2, h⟩ := zbd h
  refine zj_gI o (zdd k_T_takeSigned 20 rfl) fl_T_58 rfl e_x2 ?_
  refine zj_iconst o (zdd k_T_takeSigned 21 rfl) zki_2 ?_
  refine zj_icmp_eq (tgt := 53) o (zdd k_T_takeSigned 22 rfl) (by decide) (fun hc => ?_) (fun hc => ?_)
  · rw [if_pos hc] at h
    refine zj_aload_n o (zdd k_T_takeSigned 26 rfl) rfl 0 rfl ?_
    obtain ⟨a3, e_a3, h⟩ := zbd h
    refine zj_gP o (zdd k_T_takeSigned 27 rfl) fl_T_18 rfl e_a3 ?_
    obtain ⟨x4, e_x4, h⟩ := zbd h
    refine zj_gI o (zdd k_T_takeSigned 28 rfl) fl_T_183 rfl e_x4 ?_
    refine zj_bipush o (zdd k_T_takeSigned 29 rfl) zkb_9 ?_
    refine zj_icmp_le (tgt := 72) o (zdd k_T_takeSigned 30 rfl) (by decide) (fun hc => ?_) (fun hc => ?_)
    · rw [if_pos hc] at h
      refine zj_aload_n o (zdd k_T_takeSigned 36 rfl) rfl 0 rfl ?_
      refine zj_iload_n o (zdd k_T_takeSigned 37 rfl) rfl 2 rfl ?_
      refine zj_if_eq (tgt := 88) o (zdd k_T_takeSigned 38 rfl) (by decide) (fun hc => ?_) (fun hc => ?_)
      · rw [if_pos hc] at h
        refine zj_aload_n o (zdd k_T_takeSigned 44 rfl) rfl 0 rfl ?_
        obtain ⟨a5, e_a5, h⟩ := zbd h
        refine zj_gP o (zdd k_T_takeSigned 45 rfl) fl_T_18 rfl e_a5 ?_
        obtain ⟨x6, e_x6, h⟩ := zbd h
        refine zj_gI o (zdd k_T_takeSigned 46 rfl) fl_T_183 rfl e_x6 ?_
        exact zj_sub [0] rfl (r_T_takeSigned_95 o  h hr)
      · rw [if_neg hc] at h
        refine zj_aload_n o (zdd k_T_takeSigned 39 rfl) rfl 0 rfl ?_
        obtain ⟨a7, e_a7, h⟩ := zbd h
        refine zj_gP o (zdd k_T_takeSigned 40 rfl) fl_T_18 rfl e_a7 ?_
        obtain ⟨x8, e_x8, h⟩ := zbd h
        refine zj_gI o (zdd k_T_takeSigned 41 rfl) fl_T_183 rfl e_x8 ?_
        refine zj_ineg o (zdd k_T_takeSigned 42 rfl) ?_
        refine zj_goto (tgt := 95) o (zdd k_T_takeSigned 43 rfl) (by decide) ?_
        exact zj_sub [0] rfl (r_T_takeSigned_95 o  h hr)
    · rw [if_neg hc] at h
      refine zj_aload_n o (zdd k_T_takeSigned 31 rfl) rfl 0 rfl ?_
      refine zj_iconst o (zdd k_T_takeSigned 32 rfl) zki_4 ?_
      refine zj_iload_n o (zdd k_T_takeSigned 33 rfl) rfl 1 rfl ?_
      obtain ⟨q9, e_q9, h⟩ := zbd h
      refine zc_V o (zdd k_T_takeSigned 34 rfl) ml_T_194 mv_T_blame ⟨rfl, by decide⟩ (zg_some e_q9).1 (by decide) [.int 4, .int v1] [] rfl (Nat.le_of_ble_eq_true rfl) rfl (m_T_blame e_q9) ?_
      change zPJ X 0 0 _ _ [.int q9.1] _
      cases h
      exact zr_i o hr (zdd k_T_takeSigned 35 rfl)
  · rw [if_neg hc] at h
    refine zj_aload_n o (zdd k_T_takeSigned 23 rfl) rfl 0 rfl ?_
    obtain ⟨q10, e_q10, h⟩ := zbd h
    refine zc_V o (zdd k_T_takeSigned 24 rfl) ml_T_68 mv_T_refuse ⟨rfl, by decide⟩ (zg_some e_q10).1 (by decide) [] [] rfl (Nat.le_of_ble_eq_true rfl) rfl (m_T_refuse e_q10) ?_
    change zPJ X 0 0 _ _ [.int q10.1] _
    cases h
    exact zr_i o hr (zdd k_T_takeSigned 25 rfl)
def f_T_takeSigned_25 (σ : zSt) (v0 : Nat) (v1 : Int32) (s0 : Int32) : Option (Int32 × zSt) :=
if s0 = 0 then (
f_T_takeSigned_37 σ v0 v1 s0) else
(zgP σ 9 v0 2).bind fun a1 =>
(f_C_advance σ a1).bind fun σ2 =>
f_T_takeSigned_37 σ2 v0 v1 s0
set_option maxRecDepth 100000 in
set_option maxHeartbeats 4000000 in
theorem r_T_takeSigned_25 {X : zCX} (o : zOK X "WantShelves$Teller" c_T_takeSigned n_T_takeSigned 8) {σ : zSt} {v0 : Nat} {v1 : Int32} {s0 : Int32} {z : Int32 × zSt} (h : f_T_takeSigned_25 σ v0 v1 s0 = some z) (hr : zRX X 0 0 (some (.int z.1)) z.2) : zPJ X 0 0 25 [(0, .ref v0), (1, .int v1)] [.int s0] σ := by
  unfold f_T_takeSigned_25 at h
  refine zj_istore_n (loc' := [(2, .int s0), (0, .ref v0), (1, .int v1)]) o (zdd k_T_takeSigned 12 rfl) rfl (by decide) rfl ?_
  refine zj_iload_n o (zdd k_T_takeSigned 13 rfl) rfl 0 rfl ?_
  refine zj_if_eq (tgt := 37) o (zdd k_T_takeSigned 14 rfl) (by decide) (fun hc => ?_) (fun hc => ?_)
  · rw [if_pos hc] at h
    exact zj_sub [1, 2, 0] rfl (r_T_takeSigned_37 o  h hr)
  · rw [if_neg hc] at h
    refine zj_aload_n o (zdd k_T_takeSigned 15 rfl) rfl 1 rfl ?_
    obtain ⟨a1, e_a1, h⟩ := zbd h
    refine zj_gP o (zdd k_T_takeSigned 16 rfl) fl_T_18 rfl e_a1 ?_
    obtain ⟨σ2, e_σ2, h⟩ := zbd h
    refine zc_V o (zdd k_T_takeSigned 17 rfl) ml_T_102 mv_C_advance ⟨rfl, by decide⟩ (zg_some e_σ2).1 (by decide) [] [] rfl (Nat.le_of_ble_eq_true rfl) rfl (m_C_advance e_σ2) ?_
    change zPJ X 0 0 _ _ [] _
    exact zj_sub [1, 2, 0] rfl (r_T_takeSigned_37 o  h hr)
def f_T_takeSigned (σ : zSt) (t : Nat) : Option (Int32 × zSt) :=
zg σ 9 t (
((zgP σ 9 t 2).bind fun a1 =>
(zgI σ 7 a1 1).bind fun x2 =>
(zgP σ 9 t 2).bind fun a3 =>
(zgI σ 7 a3 0).bind fun x4 =>
if x4 = 45 then (
f_T_takeSigned_25 σ t x2 1) else
f_T_takeSigned_25 σ t x2 0).bind fun q => (zbool q.1).bind fun x => some (x, q.2))
set_option maxRecDepth 100000 in
set_option maxHeartbeats 4000000 in
theorem m_T_takeSigned {l : Launch} {b : Nat} {ex : Nat → Value} {D : va_G} {ca : Nat → ClassId} {σ : zSt} {t : Nat} {z : Int32 × zSt} (h : f_T_takeSigned σ t = some z) : zMT l b ex D ca 8 y_T_takeSigned c_T_takeSigned n_T_takeSigned r_ret_T_takeSigned [.ref t] σ (some (.int z.1)) z.2 0 0 := by
  obtain ⟨_, hg0⟩ := zg_some h
  obtain ⟨z0, hbd, hz⟩ := zbd hg0
  obtain ⟨z1, hz1, hzz⟩ := zbd hz
  obtain ⟨hzb, rfl⟩ := zbool_some hz1
  cases hzz
  have h := hbd
  refine zmt_of (by decide) (Nat.le_of_ble_eq_true rfl) ⟨.boolean, rfl, zb_nar hzb⟩ (fun X o hin hrm _ _ _ _ _ hr => ?_)
  have hr := hr 0 0 (by decide) (by decide)
  have o : zOK X "WantShelves$Teller" c_T_takeSigned n_T_takeSigned 8 := o
  change zPJ X 0 0 0 [(0, .ref t)] [] σ
  refine zj_aload_n o (zdd k_T_takeSigned 0 rfl) rfl 0 rfl ?_
  obtain ⟨a1, e_a1, h⟩ := zbd h
  refine zj_gP o (zdd k_T_takeSigned 1 rfl) fl_T_18 rfl e_a1 ?_
  obtain ⟨x2, e_x2, h⟩ := zbd h
  refine zj_gI o (zdd k_T_takeSigned 2 rfl) fl_T_193 rfl e_x2 ?_
  refine zj_istore_n (loc' := [(1, .int x2), (0, .ref t)]) o (zdd k_T_takeSigned 3 rfl) rfl (by decide) rfl ?_
  refine zj_aload_n o (zdd k_T_takeSigned 4 rfl) rfl 1 rfl ?_
  obtain ⟨a3, e_a3, h⟩ := zbd h
  refine zj_gP o (zdd k_T_takeSigned 5 rfl) fl_T_18 rfl e_a3 ?_
  obtain ⟨x4, e_x4, h⟩ := zbd h
  refine zj_gI o (zdd k_T_takeSigned 6 rfl) fl_T_58 rfl e_x4 ?_
  refine zj_bipush o (zdd k_T_takeSigned 7 rfl) zkb_45 ?_
  refine zj_icmp_ne (tgt := 24) o (zdd k_T_takeSigned 8 rfl) (by decide) (fun hc => ?_) (fun hc => ?_)
  · rw [if_neg hc] at h
    refine zj_iconst o (zdd k_T_takeSigned 11 rfl) zki_0 ?_
    exact zj_sub [1, 0] rfl (r_T_takeSigned_25 o  h hr)
  · rw [if_pos hc] at h
    refine zj_iconst o (zdd k_T_takeSigned 9 rfl) zki_1 ?_
    refine zj_goto (tgt := 25) o (zdd k_T_takeSigned 10 rfl) (by decide) ?_
    exact zj_sub [1, 0] rfl (r_T_takeSigned_25 o  h hr)
def f_T_readerLine_187 (k81 : zSt → Nat → Int32 → Int32 → Int32 → Int32 → Option (Int32 × zSt)) (σ : zSt) (v0 : Nat) (v1 : Int32) (v2 : Int32) (v3 : Int32) (v4 : Int32) (v5 : Int32) (v6 : Int32) : Option (Int32 × zSt) :=
if v5 = 0 then (
(zgP σ 9 v0 6).bind fun a1 =>
(zgP σ 10 a1 9).bind fun a2 =>
(zgI σ 9 v0 10).bind fun x3 =>
(zwI σ 1 a2 ((v1 * 4) + v6) x3).bind fun σ4 =>
k81 σ4 v0 v1 v2 (v3 ||| (1 <<< (v6 &&& 31))) (v4 + 1)) else
(zgP σ 9 v0 6).bind fun a5 =>
(zgP σ 10 a5 8).bind fun a6 =>
(zgI σ 9 v0 10).bind fun x7 =>
(zwI σ 1 a6 ((v1 * 4) + v6) x7).bind fun σ8 =>
k81 σ8 v0 v1 (v2 ||| (1 <<< (v6 &&& 31))) v3 (v4 + 1)
set_option maxRecDepth 100000 in
set_option maxHeartbeats 4000000 in
theorem r_T_readerLine_187 {X : zCX} (o : zOK X "WantShelves$Teller" c_T_readerLine n_T_readerLine 9) {k81 : zSt → Nat → Int32 → Int32 → Int32 → Int32 → Option (Int32 × zSt)} (hk81 : ∀ {σ : zSt} {v0 : Nat} {v1 : Int32} {v2 : Int32} {v3 : Int32} {v4 : Int32} {z : Int32 × zSt}, k81 σ v0 v1 v2 v3 v4 = some z → zRX X 0 0 (some (.int z.1)) z.2 → zPJ X 0 0 81 [(0, .ref v0), (1, .int v1), (2, .int v2), (3, .int v3), (4, .int v4)] [] σ) {σ : zSt} {v0 : Nat} {v1 : Int32} {v2 : Int32} {v3 : Int32} {v4 : Int32} {v5 : Int32} {v6 : Int32} {z : Int32 × zSt} (h : f_T_readerLine_187 k81 σ v0 v1 v2 v3 v4 v5 v6 = some z) (hr : zRX X 0 0 (some (.int z.1)) z.2) : zPJ X 0 0 187 [(0, .ref v0), (1, .int v1), (2, .int v2), (3, .int v3), (4, .int v4), (5, .int v5), (6, .int v6)] [] σ := by
  unfold f_T_readerLine_187 at h
  refine zj_iload o (zdd k_T_readerLine_1 43 rfl) 5 rfl ?_
  refine zj_if_eq (tgt := 220) o (zdd k_T_readerLine_1 44 rfl) (by decide) (fun hc => ?_) (fun hc => ?_)
  · rw [if_pos hc] at h
    refine zj_iload_n o (zdd k_T_readerLine_2 13 rfl) rfl 3 rfl ?_
    refine zj_iconst o (zdd k_T_readerLine_2 14 rfl) zki_1 ?_
    refine zj_iload o (zdd k_T_readerLine_2 15 rfl) 6 rfl ?_
    refine zj_ishl o (zdd k_T_readerLine_2 16 rfl) ?_
    refine zj_ior o (zdd k_T_readerLine_2 17 rfl) ?_
    refine zj_istore_n (loc' := [(3, .int (v3 ||| (1 <<< (v6 &&& 31)))), (0, .ref v0), (1, .int v1), (2, .int v2), (4, .int v4), (5, .int v5), (6, .int v6)]) o (zdd k_T_readerLine_2 18 rfl) rfl (by decide) rfl ?_
    refine zj_aload_n o (zdd k_T_readerLine_2 19 rfl) rfl 1 rfl ?_
    obtain ⟨a1, e_a1, h⟩ := zbd h
    refine zj_gP o (zdd k_T_readerLine_2 20 rfl) fl_T_32 rfl e_a1 ?_
    obtain ⟨a2, e_a2, h⟩ := zbd h
    refine zj_gP o (zdd k_T_readerLine_2 21 rfl) fl_T_137 rfl e_a2 ?_
    refine zj_iload_n o (zdd k_T_readerLine_2 22 rfl) rfl 2 rfl ?_
    refine zj_iconst o (zdd k_T_readerLine_2 23 rfl) zki_4 ?_
    refine zj_imul o (zdd k_T_readerLine_2 24 rfl) ?_
    refine zj_iload o (zdd k_T_readerLine_2 25 rfl) 6 rfl ?_
    refine zj_iadd o (zdd k_T_readerLine_2 26 rfl) ?_
    refine zj_aload_n o (zdd k_T_readerLine_2 27 rfl) rfl 1 rfl ?_
    obtain ⟨x3, e_x3, h⟩ := zbd h
    refine zj_gI o (zdd k_T_readerLine_2 28 rfl) fl_T_125 rfl e_x3 ?_
    obtain ⟨σ4, e_σ4, h⟩ := zbd h
    refine zj_iast o (zdd k_T_readerLine_2 29 rfl) e_σ4 ?_
    refine zj_iinc (v := v4 + 1) (loc' := [(4, .int (v4 + 1)), (3, .int (v3 ||| (1 <<< (v6 &&& 31)))), (0, .ref v0), (1, .int v1), (2, .int v2), (5, .int v5), (6, .int v6)]) o (zdd k_T_readerLine_2 30 rfl) 4 rfl (by rw [zki_1]) (by decide) rfl ?_
    refine zj_goto (tgt := 81) o (zdd k_T_readerLine_2 31 rfl) (by decide) ?_
    exact zj_sub [2, 3, 4, 1, 0] rfl (hk81 h hr)
  · rw [if_neg hc] at h
    refine zj_iload_n o (zdd k_T_readerLine_1 45 rfl) rfl 2 rfl ?_
    refine zj_iconst o (zdd k_T_readerLine_1 46 rfl) zki_1 ?_
    refine zj_iload o (zdd k_T_readerLine_1 47 rfl) 6 rfl ?_
    refine zj_ishl o (zdd k_T_readerLine_1 48 rfl) ?_
    refine zj_ior o (zdd k_T_readerLine_1 49 rfl) ?_
    refine zj_istore_n (loc' := [(2, .int (v2 ||| (1 <<< (v6 &&& 31)))), (0, .ref v0), (1, .int v1), (3, .int v3), (4, .int v4), (5, .int v5), (6, .int v6)]) o (zdd k_T_readerLine_2 0 rfl) rfl (by decide) rfl ?_
    refine zj_aload_n o (zdd k_T_readerLine_2 1 rfl) rfl 1 rfl ?_
    obtain ⟨a5, e_a5, h⟩ := zbd h
    refine zj_gP o (zdd k_T_readerLine_2 2 rfl) fl_T_32 rfl e_a5 ?_
    obtain ⟨a6, e_a6, h⟩ := zbd h
    refine zj_gP o (zdd k_T_readerLine_2 3 rfl) fl_T_134 rfl e_a6 ?_
    refine zj_iload_n o (zdd k_T_readerLine_2 4 rfl) rfl 2 rfl ?_
    refine zj_iconst o (zdd k_T_readerLine_2 5 rfl) zki_4 ?_
    refine zj_imul o (zdd k_T_readerLine_2 6 rfl) ?_
    refine zj_iload o (zdd k_T_readerLine_2 7 rfl) 6 rfl ?_
    refine zj_iadd o (zdd k_T_readerLine_2 8 rfl) ?_
    refine zj_aload_n o (zdd k_T_readerLine_2 9 rfl) rfl 1 rfl ?_
    obtain ⟨x7, e_x7, h⟩ := zbd h
    refine zj_gI o (zdd k_T_readerLine_2 10 rfl) fl_T_125 rfl e_x7 ?_
    obtain ⟨σ8, e_σ8, h⟩ := zbd h
    refine zj_iast o (zdd k_T_readerLine_2 11 rfl) e_σ8 ?_
    refine zj_goto (tgt := 245) o (zdd k_T_readerLine_2 12 rfl) (by decide) ?_
    refine zj_iinc (v := v4 + 1) (loc' := [(4, .int (v4 + 1)), (2, .int (v2 ||| (1 <<< (v6 &&& 31)))), (0, .ref v0), (1, .int v1), (3, .int v3), (5, .int v5), (6, .int v6)]) o (zdd k_T_readerLine_2 30 rfl) 4 rfl (by rw [zki_1]) (by decide) rfl ?_
    refine zj_goto (tgt := 81) o (zdd k_T_readerLine_2 31 rfl) (by decide) ?_
    exact zj_sub [2, 3, 1, 4, 0] rfl (hk81 h hr)
def f_T_readerLine_149 (k81 : zSt → Nat → Int32 → Int32 → Int32 → Int32 → Option (Int32 × zSt)) (σ : zSt) (v0 : Nat) (v1 : Int32) (v2 : Int32) (v3 : Int32) (v4 : Int32) (v5 : Int32) (s0 : Int32) (s1 : Nat) : Option (Int32 × zSt) :=
(f_T_takeTopic σ s1 s0).bind fun q1 =>
if q1.1 = (-1) then (
some (0, q1.2)) else
if v5 = 0 then (
(f_T_takeNumber q1.2 v0 0 9).bind fun q2 =>
if q2.1 = 0 then (
some (0, q2.2)) else
f_T_readerLine_187 k81 q2.2 v0 v1 v2 v3 v4 v5 q1.1) else
(f_T_takeSigned q1.2 v0).bind fun q3 =>
if q3.1 = 0 then (
some (0, q3.2)) else
f_T_readerLine_187 k81 q3.2 v0 v1 v2 v3 v4 v5 q1.1
set_option maxRecDepth 100000 in
set_option maxHeartbeats 4000000 in
theorem r_T_readerLine_149 {X : zCX} (o : zOK X "WantShelves$Teller" c_T_readerLine n_T_readerLine 9) {k81 : zSt → Nat → Int32 → Int32 → Int32 → Int32 → Option (Int32 × zSt)} (hk81 : ∀ {σ : zSt} {v0 : Nat} {v1 : Int32} {v2 : Int32} {v3 : Int32} {v4 : Int32} {z : Int32 × zSt}, k81 σ v0 v1 v2 v3 v4 = some z → zRX X 0 0 (some (.int z.1)) z.2 → zPJ X 0 0 81 [(0, .ref v0), (1, .int v1), (2, .int v2), (3, .int v3), (4, .int v4)] [] σ) {σ : zSt} {v0 : Nat} {v1 : Int32} {v2 : Int32} {v3 : Int32} {v4 : Int32} {v5 : Int32} {s0 : Int32} {s1 : Nat} {z : Int32 × zSt} (h : f_T_readerLine_149 k81 σ v0 v1 v2 v3 v4 v5 s0 s1 = some z) (hr : zRX X 0 0 (some (.int z.1)) z.2) : zPJ X 0 0 149 [(0, .ref v0), (1, .int v1), (2, .int v2), (3, .int v3), (4, .int v4), (5, .int v5)] [.int s0, .ref s1] σ := by
  unfold f_T_readerLine_149 at h
  obtain ⟨q1, e_q1, h⟩ := zbd h
  refine zc_V o (zdd k_T_readerLine_1 25 rfl) ml_T_113 mv_T_takeTopic ⟨rfl, by decide⟩ (zg_some e_q1).1 (by decide) [.int s0] [] rfl (Nat.le_of_ble_eq_true rfl) rfl (m_T_takeTopic e_q1) ?_
  change zPJ X 0 0 _ _ [.int q1.1] _
  refine zj_istore (loc' := [(6, .int q1.1), (0, .ref v0), (1, .int v1), (2, .int v2), (3, .int v3), (4, .int v4), (5, .int v5)]) o (zdd k_T_readerLine_1 26 rfl) (by decide) rfl ?_
  refine zj_iload o (zdd k_T_readerLine_1 27 rfl) 0 rfl ?_
  refine zj_iconst o (zdd k_T_readerLine_1 28 rfl) zki_m1 ?_
  refine zj_icmp_eq (tgt := 185) o (zdd k_T_readerLine_1 29 rfl) (by decide) (fun hc => ?_) (fun hc => ?_)
  · rw [if_pos hc] at h
    refine zj_iconst o (zdd k_T_readerLine_1 41 rfl) zki_0 ?_
    cases h
    exact zr_i o hr (zdd k_T_readerLine_1 42 rfl)
  · rw [if_neg hc] at h
    refine zj_iload o (zdd k_T_readerLine_1 30 rfl) 6 rfl ?_
    refine zj_if_eq (tgt := 175) o (zdd k_T_readerLine_1 31 rfl) (by decide) (fun hc => ?_) (fun hc => ?_)
    · rw [if_pos hc] at h
      refine zj_aload_n o (zdd k_T_readerLine_1 36 rfl) rfl 1 rfl ?_
      refine zj_iconst o (zdd k_T_readerLine_1 37 rfl) zki_0 ?_
      refine zj_bipush o (zdd k_T_readerLine_1 38 rfl) zkb_9 ?_
      obtain ⟨q2, e_q2, h⟩ := zbd h
      refine zc_V o (zdd k_T_readerLine_1 39 rfl) ml_T_117 mv_T_takeNumber ⟨rfl, by decide⟩ (zg_some e_q2).1 (by decide) [.int 0, .int 9] [] rfl (Nat.le_of_ble_eq_true rfl) rfl (m_T_takeNumber e_q2) ?_
      change zPJ X 0 0 _ _ [.int q2.1] _
      refine zj_if_ne (tgt := 187) o (zdd k_T_readerLine_1 40 rfl) (by decide) (fun hc => ?_) (fun hc => ?_)
      · rw [if_neg hc] at h
        exact zj_sub [1, 2, 3, 4, 5, 6, 0] rfl (r_T_readerLine_187 o hk81 h hr)
      · rw [if_pos hc] at h
        refine zj_iconst o (zdd k_T_readerLine_1 41 rfl) zki_0 ?_
        cases h
        exact zr_i o hr (zdd k_T_readerLine_1 42 rfl)
    · rw [if_neg hc] at h
      refine zj_aload_n o (zdd k_T_readerLine_1 32 rfl) rfl 1 rfl ?_
      obtain ⟨q3, e_q3, h⟩ := zbd h
      refine zc_V o (zdd k_T_readerLine_1 33 rfl) ml_T_131 mv_T_takeSigned ⟨rfl, by decide⟩ (zg_some e_q3).1 (by decide) [] [] rfl (Nat.le_of_ble_eq_true rfl) rfl (m_T_takeSigned e_q3) ?_
      change zPJ X 0 0 _ _ [.int q3.1] _
      refine zj_if_eq (tgt := 185) o (zdd k_T_readerLine_1 34 rfl) (by decide) (fun hc => ?_) (fun hc => ?_)
      · rw [if_pos hc] at h
        refine zj_iconst o (zdd k_T_readerLine_1 41 rfl) zki_0 ?_
        cases h
        exact zr_i o hr (zdd k_T_readerLine_1 42 rfl)
      · rw [if_neg hc] at h
        refine zj_goto (tgt := 187) o (zdd k_T_readerLine_1 35 rfl) (by decide) ?_
        exact zj_sub [1, 2, 3, 4, 5, 6, 0] rfl (r_T_readerLine_187 o hk81 h hr)
def f_T_readerLine_129 (k81 : zSt → Nat → Int32 → Int32 → Int32 → Int32 → Option (Int32 × zSt)) (σ : zSt) (v0 : Nat) (v1 : Int32) (v2 : Int32) (v3 : Int32) (v4 : Int32) (s0 : Int32) : Option (Int32 × zSt) :=
(zgP σ 9 v0 2).bind fun a1 =>
(f_C_advance σ a1).bind fun σ2 =>
if s0 = 0 then (
f_T_readerLine_149 k81 σ2 v0 v1 v2 v3 v4 s0 v3 v0) else
f_T_readerLine_149 k81 σ2 v0 v1 v2 v3 v4 s0 v2 v0
set_option maxRecDepth 100000 in
set_option maxHeartbeats 4000000 in
theorem r_T_readerLine_129 {X : zCX} (o : zOK X "WantShelves$Teller" c_T_readerLine n_T_readerLine 9) {k81 : zSt → Nat → Int32 → Int32 → Int32 → Int32 → Option (Int32 × zSt)} (hk81 : ∀ {σ : zSt} {v0 : Nat} {v1 : Int32} {v2 : Int32} {v3 : Int32} {v4 : Int32} {z : Int32 × zSt}, k81 σ v0 v1 v2 v3 v4 = some z → zRX X 0 0 (some (.int z.1)) z.2 → zPJ X 0 0 81 [(0, .ref v0), (1, .int v1), (2, .int v2), (3, .int v3), (4, .int v4)] [] σ) {σ : zSt} {v0 : Nat} {v1 : Int32} {v2 : Int32} {v3 : Int32} {v4 : Int32} {s0 : Int32} {z : Int32 × zSt} (h : f_T_readerLine_129 k81 σ v0 v1 v2 v3 v4 s0 = some z) (hr : zRX X 0 0 (some (.int z.1)) z.2) : zPJ X 0 0 129 [(0, .ref v0), (1, .int v1), (2, .int v2), (3, .int v3), (4, .int v4)] [.int s0] σ := by
  unfold f_T_readerLine_129 at h
  refine zj_istore (loc' := [(5, .int s0), (0, .ref v0), (1, .int v1), (2, .int v2), (3, .int v3), (4, .int v4)]) o (zdd k_T_readerLine_1 15 rfl) (by decide) rfl ?_
  refine zj_aload_n o (zdd k_T_readerLine_1 16 rfl) rfl 1 rfl ?_
  obtain ⟨a1, e_a1, h⟩ := zbd h
  refine zj_gP o (zdd k_T_readerLine_1 17 rfl) fl_T_18 rfl e_a1 ?_
  obtain ⟨σ2, e_σ2, h⟩ := zbd h
  refine zc_V o (zdd k_T_readerLine_1 18 rfl) ml_T_102 mv_C_advance ⟨rfl, by decide⟩ (zg_some e_σ2).1 (by decide) [] [] rfl (Nat.le_of_ble_eq_true rfl) rfl (m_C_advance e_σ2) ?_
  change zPJ X 0 0 _ _ [] _
  refine zj_aload_n o (zdd k_T_readerLine_1 19 rfl) rfl 1 rfl ?_
  refine zj_iload o (zdd k_T_readerLine_1 20 rfl) 0 rfl ?_
  refine zj_if_eq (tgt := 148) o (zdd k_T_readerLine_1 21 rfl) (by decide) (fun hc => ?_) (fun hc => ?_)
  · rw [if_pos hc] at h
    refine zj_iload_n o (zdd k_T_readerLine_1 24 rfl) rfl 4 rfl ?_
    exact zj_sub [1, 2, 3, 4, 5, 0] rfl (r_T_readerLine_149 o hk81 h hr)
  · rw [if_neg hc] at h
    refine zj_iload_n o (zdd k_T_readerLine_1 22 rfl) rfl 3 rfl ?_
    refine zj_goto (tgt := 149) o (zdd k_T_readerLine_1 23 rfl) (by decide) ?_
    exact zj_sub [1, 2, 3, 4, 5, 0] rfl (r_T_readerLine_149 o hk81 h hr)
def f_T_readerLine_112 (k81 : zSt → Nat → Int32 → Int32 → Int32 → Int32 → Option (Int32 × zSt)) (σ : zSt) (v0 : Nat) (v1 : Int32) (v2 : Int32) (v3 : Int32) (v4 : Int32) : Option (Int32 × zSt) :=
(zgP σ 9 v0 2).bind fun a1 =>
(zgI σ 7 a1 0).bind fun x2 =>
if x2 = 13 then (
f_T_readerLine_129 k81 σ v0 v1 v2 v3 v4 1) else
f_T_readerLine_129 k81 σ v0 v1 v2 v3 v4 0
set_option maxRecDepth 100000 in
set_option maxHeartbeats 4000000 in
theorem r_T_readerLine_112 {X : zCX} (o : zOK X "WantShelves$Teller" c_T_readerLine n_T_readerLine 9) {k81 : zSt → Nat → Int32 → Int32 → Int32 → Int32 → Option (Int32 × zSt)} (hk81 : ∀ {σ : zSt} {v0 : Nat} {v1 : Int32} {v2 : Int32} {v3 : Int32} {v4 : Int32} {z : Int32 × zSt}, k81 σ v0 v1 v2 v3 v4 = some z → zRX X 0 0 (some (.int z.1)) z.2 → zPJ X 0 0 81 [(0, .ref v0), (1, .int v1), (2, .int v2), (3, .int v3), (4, .int v4)] [] σ) {σ : zSt} {v0 : Nat} {v1 : Int32} {v2 : Int32} {v3 : Int32} {v4 : Int32} {z : Int32 × zSt} (h : f_T_readerLine_112 k81 σ v0 v1 v2 v3 v4 = some z) (hr : zRX X 0 0 (some (.int z.1)) z.2) : zPJ X 0 0 112 [(0, .ref v0), (1, .int v1), (2, .int v2), (3, .int v3), (4, .int v4)] [] σ := by
  unfold f_T_readerLine_112 at h
  refine zj_aload_n o (zdd k_T_readerLine_1 7 rfl) rfl 0 rfl ?_
  obtain ⟨a1, e_a1, h⟩ := zbd h
  refine zj_gP o (zdd k_T_readerLine_1 8 rfl) fl_T_18 rfl e_a1 ?_
  obtain ⟨x2, e_x2, h⟩ := zbd h
  refine zj_gI o (zdd k_T_readerLine_1 9 rfl) fl_T_58 rfl e_x2 ?_
  refine zj_bipush o (zdd k_T_readerLine_1 10 rfl) zkb_13 ?_
  refine zj_icmp_ne (tgt := 128) o (zdd k_T_readerLine_1 11 rfl) (by decide) (fun hc => ?_) (fun hc => ?_)
  · rw [if_neg hc] at h
    refine zj_iconst o (zdd k_T_readerLine_1 14 rfl) zki_0 ?_
    exact zj_sub [0, 1, 2, 3, 4] rfl (r_T_readerLine_129 o hk81 h hr)
  · rw [if_pos hc] at h
    refine zj_iconst o (zdd k_T_readerLine_1 12 rfl) zki_1 ?_
    refine zj_goto (tgt := 129) o (zdd k_T_readerLine_1 13 rfl) (by decide) ?_
    exact zj_sub [0, 1, 2, 3, 4] rfl (r_T_readerLine_129 o hk81 h hr)
def f_T_readerLine_251 (σ : zSt) (v0 : Nat) : Option (Int32 × zSt) :=
(f_T_take σ v0 59).bind fun q1 =>
some (q1.1, q1.2)
set_option maxRecDepth 100000 in
set_option maxHeartbeats 4000000 in
theorem r_T_readerLine_251 {X : zCX} (o : zOK X "WantShelves$Teller" c_T_readerLine n_T_readerLine 9) {σ : zSt} {v0 : Nat} {z : Int32 × zSt} (h : f_T_readerLine_251 σ v0 = some z) (hr : zRX X 0 0 (some (.int z.1)) z.2) : zPJ X 0 0 251 [(0, .ref v0)] [] σ := by
  unfold f_T_readerLine_251 at h
  refine zj_aload_n o (zdd k_T_readerLine_2 32 rfl) rfl 0 rfl ?_
  refine zj_bipush o (zdd k_T_readerLine_2 33 rfl) zkb_59 ?_
  obtain ⟨q1, e_q1, h⟩ := zbd h
  refine zc_V o (zdd k_T_readerLine_2 34 rfl) ml_T_109 mv_T_take ⟨rfl, by decide⟩ (zg_some e_q1).1 (by decide) [.int 59] [] rfl (Nat.le_of_ble_eq_true rfl) rfl (m_T_take e_q1) ?_
  change zPJ X 0 0 _ _ [.int q1.1] _
  cases h
  exact zr_i o hr (zdd k_T_readerLine_2 35 rfl)
def f_T_readerLine_81 (k81 : zSt → Nat → Int32 → Int32 → Int32 → Int32 → Option (Int32 × zSt)) (σ : zSt) (v0 : Nat) (v1 : Int32) (v2 : Int32) (v3 : Int32) (v4 : Int32) : Option (Int32 × zSt) :=
if 8 < v4 then (
f_T_readerLine_251 σ v0) else
(zgP σ 9 v0 2).bind fun a1 =>
(zgI σ 7 a1 0).bind fun x2 =>
if x2 = 13 then (
f_T_readerLine_112 k81 σ v0 v1 v2 v3 v4) else
(zgP σ 9 v0 2).bind fun a3 =>
(zgI σ 7 a3 0).bind fun x4 =>
if x4 = 22 then (
f_T_readerLine_112 k81 σ v0 v1 v2 v3 v4) else
f_T_readerLine_251 σ v0
set_option maxRecDepth 100000 in
set_option maxHeartbeats 4000000 in
theorem r_T_readerLine_81 {X : zCX} (o : zOK X "WantShelves$Teller" c_T_readerLine n_T_readerLine 9) {k81 : zSt → Nat → Int32 → Int32 → Int32 → Int32 → Option (Int32 × zSt)} (hk81 : ∀ {σ : zSt} {v0 : Nat} {v1 : Int32} {v2 : Int32} {v3 : Int32} {v4 : Int32} {z : Int32 × zSt}, k81 σ v0 v1 v2 v3 v4 = some z → zRX X 0 0 (some (.int z.1)) z.2 → zPJ X 0 0 81 [(0, .ref v0), (1, .int v1), (2, .int v2), (3, .int v3), (4, .int v4)] [] σ) {σ : zSt} {v0 : Nat} {v1 : Int32} {v2 : Int32} {v3 : Int32} {v4 : Int32} {z : Int32 × zSt} (h : f_T_readerLine_81 k81 σ v0 v1 v2 v3 v4 = some z) (hr : zRX X 0 0 (some (.int z.1)) z.2) : zPJ X 0 0 81 [(0, .ref v0), (1, .int v1), (2, .int v2), (3, .int v3), (4, .int v4)] [] σ := by
  unfold f_T_readerLine_81 at h
  refine zj_iload o (zdd k_T_readerLine_0 44 rfl) 4 rfl ?_
  refine zj_bipush o (zdd k_T_readerLine_0 45 rfl) zkb_8 ?_
  refine zj_icmp_gt (tgt := 251) o (zdd k_T_readerLine_0 46 rfl) (by decide) (fun hc => ?_) (fun hc => ?_)
  · rw [if_pos hc] at h
    exact zj_sub [0] rfl (r_T_readerLine_251 o  h hr)
  · rw [if_neg hc] at h
    refine zj_aload_n o (zdd k_T_readerLine_0 47 rfl) rfl 0 rfl ?_
    obtain ⟨a1, e_a1, h⟩ := zbd h
    refine zj_gP o (zdd k_T_readerLine_0 48 rfl) fl_T_18 rfl e_a1 ?_
    obtain ⟨x2, e_x2, h⟩ := zbd h
    refine zj_gI o (zdd k_T_readerLine_0 49 rfl) fl_T_58 rfl e_x2 ?_
    refine zj_bipush o (zdd k_T_readerLine_1 0 rfl) zkb_13 ?_
    refine zj_icmp_eq (tgt := 112) o (zdd k_T_readerLine_1 1 rfl) (by decide) (fun hc => ?_) (fun hc => ?_)
    · rw [if_pos hc] at h
      exact zj_sub [0, 1, 2, 3, 4] rfl (r_T_readerLine_112 o hk81 h hr)
    · rw [if_neg hc] at h
      refine zj_aload_n o (zdd k_T_readerLine_1 2 rfl) rfl 0 rfl ?_
      obtain ⟨a3, e_a3, h⟩ := zbd h
      refine zj_gP o (zdd k_T_readerLine_1 3 rfl) fl_T_18 rfl e_a3 ?_
      obtain ⟨x4, e_x4, h⟩ := zbd h
      refine zj_gI o (zdd k_T_readerLine_1 4 rfl) fl_T_58 rfl e_x4 ?_
      refine zj_bipush o (zdd k_T_readerLine_1 5 rfl) zkb_22 ?_
      refine zj_icmp_ne (tgt := 251) o (zdd k_T_readerLine_1 6 rfl) (by decide) (fun hc => ?_) (fun hc => ?_)
      · rw [if_neg hc] at h
        exact zj_sub [0] rfl (r_T_readerLine_251 o  h hr)
      · rw [if_pos hc] at h
        exact zj_sub [0, 1, 2, 3, 4] rfl (r_T_readerLine_112 o hk81 h hr)
def f_T_readerLine_81L : Nat → zSt → Nat → Int32 → Int32 → Int32 → Int32 → Option (Int32 × zSt)
  | 0 => fun _ _ _ _ _ _ => none
  | n + 1 => f_T_readerLine_81  (f_T_readerLine_81L  n)
theorem r_T_readerLine_81L {X : zCX} (o : zOK X "WantShelves$Teller" c_T_readerLine n_T_readerLine 9) : ∀ (n : Nat) {σ : zSt} {v0 : Nat} {v1 : Int32} {v2 : Int32} {v3 : Int32} {v4 : Int32} {z : Int32 × zSt}, f_T_readerLine_81L n σ v0 v1 v2 v3 v4 = some z → zRX X 0 0 (some (.int z.1)) z.2 → zPJ X 0 0 81 [(0, .ref v0), (1, .int v1), (2, .int v2), (3, .int v3), (4, .int v4)] [] σ
  | 0 => fun h _ => by cases h
  | n + 1 => fun h hr => r_T_readerLine_81 o (r_T_readerLine_81L o  n) h hr
def f_T_readerLine (σ : zSt) (t : Nat) : Option (Int32 × zSt) :=
zg σ 9 t (
((zgP σ 9 t 6).bind fun a1 =>
(zgI σ 10 a1 2).bind fun x2 =>
(zgP σ 9 t 2).bind fun a3 =>
(f_C_advance σ a3).bind fun σ4 =>
(zgP σ4 9 t 5).bind fun a5 =>
(f_T_takeNewName σ4 t a5 x2).bind fun q6 =>
if q6.1 = 0 then (
some (0, q6.2)) else
(f_T_take q6.2 t 12).bind fun q7 =>
if q7.1 = 0 then (
some (0, q7.2)) else
(f_T_takeNumber q7.2 t 0 100).bind fun q8 =>
if q8.1 = 0 then (
some (0, q8.2)) else
(zgP q8.2 9 t 6).bind fun a9 =>
(zgP q8.2 10 a9 10).bind fun a10 =>
(zgI q8.2 9 t 10).bind fun x11 =>
(zwI q8.2 1 a10 x2 x11).bind fun σ12 =>
(zgP σ12 9 t 6).bind fun a13 =>
(zgI σ12 10 a13 2).bind fun x14 =>
(zsI σ12 10 a13 2 (x14 + 1)).bind fun σ15 =>
f_T_readerLine_81L zfu σ15 t x2 0 0 0).bind fun q => (zbool q.1).bind fun x => some (x, q.2))
set_option maxRecDepth 100000 in
set_option maxHeartbeats 4000000 in
theorem m_T_readerLine {l : Launch} {b : Nat} {ex : Nat → Value} {D : va_G} {ca : Nat → ClassId} {σ : zSt} {t : Nat} {z : Int32 × zSt} (h : f_T_readerLine σ t = some z) : zMT l b ex D ca 9 y_T_readerLine c_T_readerLine n_T_readerLine r_ret_T_readerLine [.ref t] σ (some (.int z.1)) z.2 0 0 := by
  obtain ⟨_, hg0⟩ := zg_some h
  obtain ⟨z0, hbd, hz⟩ := zbd hg0
  obtain ⟨z1, hz1, hzz⟩ := zbd hz
  obtain ⟨hzb, rfl⟩ := zbool_some hz1
  cases hzz
  have h := hbd
  refine zmt_of (by decide) (Nat.le_of_ble_eq_true rfl) ⟨.boolean, rfl, zb_nar hzb⟩ (fun X o hin hrm _ _ _ _ _ hr => ?_)
  have hr := hr 0 0 (by decide) (by decide)
  have o : zOK X "WantShelves$Teller" c_T_readerLine n_T_readerLine 9 := o
  change zPJ X 0 0 0 [(0, .ref t)] [] σ
  refine zj_aload_n o (zdd k_T_readerLine_0 0 rfl) rfl 0 rfl ?_
  obtain ⟨a1, e_a1, h⟩ := zbd h
  refine zj_gP o (zdd k_T_readerLine_0 1 rfl) fl_T_32 rfl e_a1 ?_
  obtain ⟨x2, e_x2, h⟩ := zbd h
  refine zj_gI o (zdd k_T_readerLine_0 2 rfl) fl_T_77 rfl e_x2 ?_
  refine zj_istore_n (loc' := [(1, .int x2), (0, .ref t)]) o (zdd k_T_readerLine_0 3 rfl) rfl (by decide) rfl ?_
  refine zj_aload_n o (zdd k_T_readerLine_0 4 rfl) rfl 1 rfl ?_
  obtain ⟨a3, e_a3, h⟩ := zbd h
  refine zj_gP o (zdd k_T_readerLine_0 5 rfl) fl_T_18 rfl e_a3 ?_
  obtain ⟨σ4, e_σ4, h⟩ := zbd h
  refine zc_V o (zdd k_T_readerLine_0 6 rfl) ml_T_102 mv_C_advance ⟨rfl, by decide⟩ (zg_some e_σ4).1 (by decide) [] [] rfl (Nat.le_of_ble_eq_true rfl) rfl (m_C_advance e_σ4) ?_
  change zPJ X 0 0 _ _ [] _
  refine zj_aload_n o (zdd k_T_readerLine_0 7 rfl) rfl 1 rfl ?_
  refine zj_aload_n o (zdd k_T_readerLine_0 8 rfl) rfl 1 rfl ?_
  obtain ⟨a5, e_a5, h⟩ := zbd h
  refine zj_gP o (zdd k_T_readerLine_0 9 rfl) fl_T_29 rfl e_a5 ?_
  refine zj_iload_n o (zdd k_T_readerLine_0 10 rfl) rfl 0 rfl ?_
  obtain ⟨q6, e_q6, h⟩ := zbd h
  refine zc_V o (zdd k_T_readerLine_0 11 rfl) ml_T_105 mv_T_takeNewName ⟨rfl, by decide⟩ (zg_some e_q6).1 (by decide) [.ref a5, .int x2] [] rfl (Nat.le_of_ble_eq_true rfl) rfl (m_T_takeNewName e_q6) ?_
  change zPJ X 0 0 _ _ [.int q6.1] _
  refine zj_if_eq (tgt := 46) o (zdd k_T_readerLine_0 12 rfl) (by decide) (fun hc => ?_) (fun hc => ?_)
  · rw [if_pos hc] at h
    refine zj_iconst o (zdd k_T_readerLine_0 22 rfl) zki_0 ?_
    cases h
    exact zr_i o hr (zdd k_T_readerLine_0 23 rfl)
  · rw [if_neg hc] at h
    refine zj_aload_n o (zdd k_T_readerLine_0 13 rfl) rfl 1 rfl ?_
    refine zj_bipush o (zdd k_T_readerLine_0 14 rfl) zkb_12 ?_
    obtain ⟨q7, e_q7, h⟩ := zbd h
    refine zc_V o (zdd k_T_readerLine_0 15 rfl) ml_T_109 mv_T_take ⟨rfl, by decide⟩ (zg_some e_q7).1 (by decide) [.int 12] [] rfl (Nat.le_of_ble_eq_true rfl) rfl (m_T_take e_q7) ?_
    change zPJ X 0 0 _ _ [.int q7.1] _
    refine zj_if_eq (tgt := 46) o (zdd k_T_readerLine_0 16 rfl) (by decide) (fun hc => ?_) (fun hc => ?_)
    · rw [if_pos hc] at h
      refine zj_iconst o (zdd k_T_readerLine_0 22 rfl) zki_0 ?_
      cases h
      exact zr_i o hr (zdd k_T_readerLine_0 23 rfl)
    · rw [if_neg hc] at h
      refine zj_aload_n o (zdd k_T_readerLine_0 17 rfl) rfl 1 rfl ?_
      refine zj_iconst o (zdd k_T_readerLine_0 18 rfl) zki_0 ?_
      refine zj_bipush o (zdd k_T_readerLine_0 19 rfl) zkb_100 ?_
      obtain ⟨q8, e_q8, h⟩ := zbd h
      refine zc_V o (zdd k_T_readerLine_0 20 rfl) ml_T_117 mv_T_takeNumber ⟨rfl, by decide⟩ (zg_some e_q8).1 (by decide) [.int 0, .int 100] [] rfl (Nat.le_of_ble_eq_true rfl) rfl (m_T_takeNumber e_q8) ?_
      change zPJ X 0 0 _ _ [.int q8.1] _
      refine zj_if_ne (tgt := 48) o (zdd k_T_readerLine_0 21 rfl) (by decide) (fun hc => ?_) (fun hc => ?_)
      · rw [if_neg hc] at h
        refine zj_aload_n o (zdd k_T_readerLine_0 24 rfl) rfl 1 rfl ?_
        obtain ⟨a9, e_a9, h⟩ := zbd h
        refine zj_gP o (zdd k_T_readerLine_0 25 rfl) fl_T_32 rfl e_a9 ?_
        obtain ⟨a10, e_a10, h⟩ := zbd h
        refine zj_gP o (zdd k_T_readerLine_0 26 rfl) fl_T_128 rfl e_a10 ?_
        refine zj_iload_n o (zdd k_T_readerLine_0 27 rfl) rfl 0 rfl ?_
        refine zj_aload_n o (zdd k_T_readerLine_0 28 rfl) rfl 1 rfl ?_
        obtain ⟨x11, e_x11, h⟩ := zbd h
        refine zj_gI o (zdd k_T_readerLine_0 29 rfl) fl_T_125 rfl e_x11 ?_
        obtain ⟨σ12, e_σ12, h⟩ := zbd h
        refine zj_iast o (zdd k_T_readerLine_0 30 rfl) e_σ12 ?_
        refine zj_aload_n o (zdd k_T_readerLine_0 31 rfl) rfl 1 rfl ?_
        obtain ⟨a13, e_a13, h⟩ := zbd h
        refine zj_gP o (zdd k_T_readerLine_0 32 rfl) fl_T_32 rfl e_a13 ?_
        refine zj_dup o (zdd k_T_readerLine_0 33 rfl) rfl ?_
        obtain ⟨x14, e_x14, h⟩ := zbd h
        refine zj_gI o (zdd k_T_readerLine_0 34 rfl) fl_T_77 rfl e_x14 ?_
        refine zj_iconst o (zdd k_T_readerLine_0 35 rfl) zki_1 ?_
        refine zj_iadd o (zdd k_T_readerLine_0 36 rfl) ?_
        obtain ⟨σ15, e_σ15, h⟩ := zbd h
        refine zj_pI o (zdd k_T_readerLine_0 37 rfl) fl_T_77 rfl rfl e_σ15 ?_
        refine zj_iconst o (zdd k_T_readerLine_0 38 rfl) zki_0 ?_
        refine zj_istore_n (loc' := [(2, .int 0), (1, .int x2), (0, .ref t)]) o (zdd k_T_readerLine_0 39 rfl) rfl (by decide) rfl ?_
        refine zj_iconst o (zdd k_T_readerLine_0 40 rfl) zki_0 ?_
        refine zj_istore_n (loc' := [(3, .int 0), (2, .int 0), (1, .int x2), (0, .ref t)]) o (zdd k_T_readerLine_0 41 rfl) rfl (by decide) rfl ?_
        refine zj_iconst o (zdd k_T_readerLine_0 42 rfl) zki_0 ?_
        refine zj_istore (loc' := [(4, .int 0), (3, .int 0), (2, .int 0), (1, .int x2), (0, .ref t)]) o (zdd k_T_readerLine_0 43 rfl) (by decide) rfl ?_
        exact zj_sub [4, 3, 2, 1, 0] rfl (r_T_readerLine_81L o  zfu h hr)
      · rw [if_pos hc] at h
        refine zj_iconst o (zdd k_T_readerLine_0 22 rfl) zki_0 ?_
        cases h
        exact zr_i o hr (zdd k_T_readerLine_0 23 rfl)
def f_T_isFirst_24 (σ : zSt) (v0 : Nat) (v1 : Int32) (s0 : Int32) : Option (Int32 × zSt) :=
(zgI σ 9 v0 9).bind fun x1 =>
(zsI σ 9 v0 9 (x1 ||| v1)).bind fun σ2 =>
some (s0, σ2)
set_option maxRecDepth 100000 in
set_option maxHeartbeats 4000000 in
theorem r_T_isFirst_24 {X : zCX} (o : zOK X "WantShelves$Teller" c_T_isFirst n_T_isFirst 1) {σ : zSt} {v0 : Nat} {v1 : Int32} {s0 : Int32} {z : Int32 × zSt} (h : f_T_isFirst_24 σ v0 v1 s0 = some z) (hr : zRX X 0 0 (some (.int z.1)) z.2) : zPJ X 0 0 24 [(0, .ref v0), (1, .int v1)] [.int s0] σ := by
  unfold f_T_isFirst_24 at h
  refine zj_istore_n (loc' := [(2, .int s0), (0, .ref v0), (1, .int v1)]) o (zdd k_T_isFirst 14 rfl) rfl (by decide) rfl ?_
  refine zj_aload_n o (zdd k_T_isFirst 15 rfl) rfl 1 rfl ?_
  refine zj_dup o (zdd k_T_isFirst 16 rfl) rfl ?_
  obtain ⟨x1, e_x1, h⟩ := zbd h
  refine zj_gI o (zdd k_T_isFirst 17 rfl) fl_T_48 rfl e_x1 ?_
  refine zj_iload_n o (zdd k_T_isFirst 18 rfl) rfl 2 rfl ?_
  refine zj_ior o (zdd k_T_isFirst 19 rfl) ?_
  obtain ⟨σ2, e_σ2, h⟩ := zbd h
  refine zj_pI o (zdd k_T_isFirst 20 rfl) fl_T_48 rfl rfl e_σ2 ?_
  refine zj_iload_n o (zdd k_T_isFirst 21 rfl) rfl 0 rfl ?_
  cases h
  exact zr_i o hr (zdd k_T_isFirst 22 rfl)
def f_T_isFirst (σ : zSt) (t : Nat) : Option (Int32 × zSt) :=
zg σ 9 t (
((zgP σ 9 t 2).bind fun a1 =>
(zgI σ 7 a1 0).bind fun x2 =>
(zgI σ 9 t 9).bind fun x3 =>
if x3 &&& (1 <<< (x2 &&& 31)) = 0 then (
f_T_isFirst_24 σ t (1 <<< (x2 &&& 31)) 1) else
f_T_isFirst_24 σ t (1 <<< (x2 &&& 31)) 0).bind fun q => (zbool q.1).bind fun x => some (x, q.2))
set_option maxRecDepth 100000 in
set_option maxHeartbeats 4000000 in
theorem m_T_isFirst {l : Launch} {b : Nat} {ex : Nat → Value} {D : va_G} {ca : Nat → ClassId} {σ : zSt} {t : Nat} {z : Int32 × zSt} (h : f_T_isFirst σ t = some z) : zMT l b ex D ca 1 y_T_isFirst c_T_isFirst n_T_isFirst r_ret_T_isFirst [.ref t] σ (some (.int z.1)) z.2 0 0 := by
  obtain ⟨_, hg0⟩ := zg_some h
  obtain ⟨z0, hbd, hz⟩ := zbd hg0
  obtain ⟨z1, hz1, hzz⟩ := zbd hz
  obtain ⟨hzb, rfl⟩ := zbool_some hz1
  cases hzz
  have h := hbd
  refine zmt_of (by decide) (Nat.le_of_ble_eq_true rfl) ⟨.boolean, rfl, zb_nar hzb⟩ (fun X o hin hrm _ _ _ _ _ hr => ?_)
  have hr := hr 0 0 (by decide) (by decide)
  have o : zOK X "WantShelves$Teller" c_T_isFirst n_T_isFirst 1 := o
  change zPJ X 0 0 0 [(0, .ref t)] [] σ
  refine zj_iconst o (zdd k_T_isFirst 0 rfl) zki_1 ?_
  refine zj_aload_n o (zdd k_T_isFirst 1 rfl) rfl 0 rfl ?_
  obtain ⟨a1, e_a1, h⟩ := zbd h
  refine zj_gP o (zdd k_T_isFirst 2 rfl) fl_T_18 rfl e_a1 ?_
  obtain ⟨x2, e_x2, h⟩ := zbd h
  refine zj_gI o (zdd k_T_isFirst 3 rfl) fl_T_58 rfl e_x2 ?_
  refine zj_ishl o (zdd k_T_isFirst 4 rfl) ?_
  refine zj_istore_n (loc' := [(1, .int (1 <<< (x2 &&& 31))), (0, .ref t)]) o (zdd k_T_isFirst 5 rfl) rfl (by decide) rfl ?_
  refine zj_aload_n o (zdd k_T_isFirst 6 rfl) rfl 1 rfl ?_
  obtain ⟨x3, e_x3, h⟩ := zbd h
  refine zj_gI o (zdd k_T_isFirst 7 rfl) fl_T_48 rfl e_x3 ?_
  refine zj_iload_n o (zdd k_T_isFirst 8 rfl) rfl 0 rfl ?_
  refine zj_iand o (zdd k_T_isFirst 9 rfl) ?_
  refine zj_if_ne (tgt := 23) o (zdd k_T_isFirst 10 rfl) (by decide) (fun hc => ?_) (fun hc => ?_)
  · rw [if_neg hc] at h
    refine zj_iconst o (zdd k_T_isFirst 13 rfl) zki_0 ?_
    exact zj_sub [1, 0] rfl (r_T_isFirst_24 o  h hr)
  · rw [if_pos hc] at h
    refine zj_iconst o (zdd k_T_isFirst 11 rfl) zki_1 ?_
    refine zj_goto (tgt := 24) o (zdd k_T_isFirst 12 rfl) (by decide) ?_
    exact zj_sub [1, 0] rfl (r_T_isFirst_24 o  h hr)
def f_T_unit_156 (re rs : zSt → Nat → Int32 → Option (Int32 × zSt)) (σ : zSt) (v0 : Nat) : Option (Int32 × zSt) :=
(zgP σ 9 v0 2).bind fun a1 =>
(f_C_advance σ a1).bind fun σ2 =>
some (1, σ2)
set_option maxRecDepth 100000 in
set_option maxHeartbeats 4000000 in
theorem r_T_unit_156 {X : zCX} {e0 e1 : Nat} (o : zOK X "WantShelves$Teller" c_T_unit n_T_unit (e0 + 1)) {re rs : zSt → Nat → Int32 → Option (Int32 × zSt)} (he : 9 ≤ e0) (he1 : e1 ≤ e0) (hre : ∀ {l : Launch} {b : Nat} {ex : Nat → Value} {D : va_G} {ca : Nat → ClassId} {σ : zSt} {a : Nat} {w : Int32} {z : Int32 × zSt}, re σ a w = some z → zMT l b ex D ca e0 y_T_either c_T_either n_T_either r_ret_T_either [.ref a, .int w] σ (some (.int z.1)) z.2 0 0) (hrec : ∀ {σ : zSt} {a : Nat} {w : Int32} {z : Int32 × zSt}, re σ a w = some z → σ.1[a]? = some (0, 9)) (hrs : ∀ {l : Launch} {b : Nat} {ex : Nat → Value} {D : va_G} {ca : Nat → ClassId} {σ : zSt} {a : Nat} {w : Int32} {z : Int32 × zSt}, rs σ a w = some z → zMT l b ex D ca e1 y_T_single c_T_single n_T_single r_ret_T_single [.ref a, .int w] σ (some (.int z.1)) z.2 0 0) (hrsc : ∀ {σ : zSt} {a : Nat} {w : Int32} {z : Int32 × zSt}, rs σ a w = some z → σ.1[a]? = some (0, 9)) {σ : zSt} {v0 : Nat} {z : Int32 × zSt} (h : f_T_unit_156 re rs σ v0 = some z) (hr : zRX X 0 0 (some (.int z.1)) z.2) : zPJ X 0 0 156 [(0, .ref v0)] [] σ := by
  unfold f_T_unit_156 at h
  refine zj_aload_n o (zdd k_T_unit 75 rfl) rfl 0 rfl ?_
  obtain ⟨a1, e_a1, h⟩ := zbd h
  refine zj_gP o (zdd k_T_unit 76 rfl) fl_T_18 rfl e_a1 ?_
  obtain ⟨σ2, e_σ2, h⟩ := zbd h
  refine zc_V o (zdd k_T_unit 77 rfl) ml_T_102 mv_C_advance ⟨rfl, by decide⟩ (zg_some e_σ2).1 (by omega) [] [] rfl (Nat.le_of_ble_eq_true rfl) rfl (m_C_advance e_σ2) ?_
  change zPJ X 0 0 _ _ [] _
  refine zj_iconst o (zdd k_T_unit 78 rfl) zki_1 ?_
  cases h
  exact zr_i o hr (zdd k_T_unit 79 rfl)
def f_T_unit_151 (re rs : zSt → Nat → Int32 → Option (Int32 × zSt)) (σ : zSt) (v0 : Nat) : Option (Int32 × zSt) :=
(f_T_refuse σ v0).bind fun q1 =>
some (q1.1, q1.2)
set_option maxRecDepth 100000 in
set_option maxHeartbeats 4000000 in
theorem r_T_unit_151 {X : zCX} {e0 e1 : Nat} (o : zOK X "WantShelves$Teller" c_T_unit n_T_unit (e0 + 1)) {re rs : zSt → Nat → Int32 → Option (Int32 × zSt)} (he : 9 ≤ e0) (he1 : e1 ≤ e0) (hre : ∀ {l : Launch} {b : Nat} {ex : Nat → Value} {D : va_G} {ca : Nat → ClassId} {σ : zSt} {a : Nat} {w : Int32} {z : Int32 × zSt}, re σ a w = some z → zMT l b ex D ca e0 y_T_either c_T_either n_T_either r_ret_T_either [.ref a, .int w] σ (some (.int z.1)) z.2 0 0) (hrec : ∀ {σ : zSt} {a : Nat} {w : Int32} {z : Int32 × zSt}, re σ a w = some z → σ.1[a]? = some (0, 9)) (hrs : ∀ {l : Launch} {b : Nat} {ex : Nat → Value} {D : va_G} {ca : Nat → ClassId} {σ : zSt} {a : Nat} {w : Int32} {z : Int32 × zSt}, rs σ a w = some z → zMT l b ex D ca e1 y_T_single c_T_single n_T_single r_ret_T_single [.ref a, .int w] σ (some (.int z.1)) z.2 0 0) (hrsc : ∀ {σ : zSt} {a : Nat} {w : Int32} {z : Int32 × zSt}, rs σ a w = some z → σ.1[a]? = some (0, 9)) {σ : zSt} {v0 : Nat} {z : Int32 × zSt} (h : f_T_unit_151 re rs σ v0 = some z) (hr : zRX X 0 0 (some (.int z.1)) z.2) : zPJ X 0 0 151 [(0, .ref v0)] [] σ := by
  unfold f_T_unit_151 at h
  refine zj_aload_n o (zdd k_T_unit 72 rfl) rfl 0 rfl ?_
  obtain ⟨q1, e_q1, h⟩ := zbd h
  refine zc_V o (zdd k_T_unit 73 rfl) ml_T_68 mv_T_refuse ⟨rfl, by decide⟩ (zg_some e_q1).1 (by omega) [] [] rfl (Nat.le_of_ble_eq_true rfl) rfl (m_T_refuse e_q1) ?_
  change zPJ X 0 0 _ _ [.int q1.1] _
  cases h
  exact zr_i o hr (zdd k_T_unit 74 rfl)
def f_T_unit (re rs : zSt → Nat → Int32 → Option (Int32 × zSt)) (σ : zSt) (t : Nat) (p0 : Int32) : Option (Int32 × zSt) :=
zg σ 9 t (
((zgI σ 9 t 8).bind fun x1 =>
if x1 < 30 then (
(zgI σ 9 t 8).bind fun x2 =>
(zsI σ 9 t 8 (x2 + 1)).bind fun σ3 =>
(zgP σ3 9 t 2).bind fun a4 =>
(zgI σ3 7 a4 0).bind fun x5 =>
if x5 = 40 then (
if p0 ≤ 6 then (
(zgP σ3 9 t 2).bind fun a20 =>
(f_C_advance σ3 a20).bind fun σ21 =>
(re σ21 t (p0 + 1)).bind fun q22 =>
if q22.1 = 0 then (
some (0, q22.2)) else
(f_T_take q22.2 t 41).bind fun q23 =>
if q23.1 = 0 then (
some (0, q23.2)) else
some (1, q23.2)) else
(f_T_refuse σ3 t).bind fun q24 =>
some (q24.1, q24.2)) else
(zgP σ3 9 t 2).bind fun a6 =>
(zgI σ3 7 a6 0).bind fun x7 =>
if x7 = 2 then (
(zgP σ3 9 t 7).bind fun a16 =>
(zgP σ3 9 t 2).bind fun a17 =>
(zgI σ3 7 a17 2).bind fun x18 =>
(f_F_add σ3 a16 x18).bind fun σ19 =>
f_T_unit_156 re rs σ19 t) else
(zgP σ3 9 t 2).bind fun a8 =>
(zgI σ3 7 a8 0).bind fun x9 =>
if x9 < 21 then (
f_T_unit_151 re rs σ3 t) else
(zgP σ3 9 t 2).bind fun a10 =>
(zgI σ3 7 a10 0).bind fun x11 =>
if 26 < x11 then (
f_T_unit_151 re rs σ3 t) else
(zgP σ3 9 t 7).bind fun a12 =>
(zgP σ3 9 t 2).bind fun a13 =>
(zgI σ3 7 a13 0).bind fun x14 =>
(f_F_addWord σ3 a12 (x14 - 21)).bind fun σ15 =>
f_T_unit_156 re rs σ15 t) else
(f_T_refuse σ t).bind fun q25 =>
some (q25.1, q25.2)).bind fun q => (zbool q.1).bind fun x => some (x, q.2))
set_option maxRecDepth 100000 in
set_option maxHeartbeats 4000000 in
theorem m_T_unit {re rs : zSt → Nat → Int32 → Option (Int32 × zSt)} {e0 e1 : Nat} (he : 9 ≤ e0) (he1 : e1 ≤ e0) (hre : ∀ {l : Launch} {b : Nat} {ex : Nat → Value} {D : va_G} {ca : Nat → ClassId} {σ : zSt} {a : Nat} {w : Int32} {z : Int32 × zSt}, re σ a w = some z → zMT l b ex D ca e0 y_T_either c_T_either n_T_either r_ret_T_either [.ref a, .int w] σ (some (.int z.1)) z.2 0 0) (hrec : ∀ {σ : zSt} {a : Nat} {w : Int32} {z : Int32 × zSt}, re σ a w = some z → σ.1[a]? = some (0, 9)) (hrs : ∀ {l : Launch} {b : Nat} {ex : Nat → Value} {D : va_G} {ca : Nat → ClassId} {σ : zSt} {a : Nat} {w : Int32} {z : Int32 × zSt}, rs σ a w = some z → zMT l b ex D ca e1 y_T_single c_T_single n_T_single r_ret_T_single [.ref a, .int w] σ (some (.int z.1)) z.2 0 0) (hrsc : ∀ {σ : zSt} {a : Nat} {w : Int32} {z : Int32 × zSt}, rs σ a w = some z → σ.1[a]? = some (0, 9)) {l : Launch} {b : Nat} {ex : Nat → Value} {D : va_G} {ca : Nat → ClassId} {σ : zSt} {t : Nat} {p0 : Int32} {z : Int32 × zSt} (h : f_T_unit re rs σ t p0 = some z) : zMT l b ex D ca (e0 + 1) y_T_unit c_T_unit n_T_unit r_ret_T_unit [.ref t, .int p0] σ (some (.int z.1)) z.2 0 0 := by
  obtain ⟨_, hg0⟩ := zg_some h
  obtain ⟨z0, hbd, hz⟩ := zbd hg0
  obtain ⟨z1, hz1, hzz⟩ := zbd hz
  obtain ⟨hzb, rfl⟩ := zbool_some hz1
  cases hzz
  have h := hbd
  refine zmt_of (by decide) (Nat.le_of_ble_eq_true rfl) ⟨.boolean, rfl, zb_nar hzb⟩ (fun X o hin hrm _ _ _ _ _ hr => ?_)
  have hr := hr 0 0 (by decide) (by decide)
  have o : zOK X "WantShelves$Teller" c_T_unit n_T_unit (e0 + 1) := o
  change zPJ X 0 0 0 [(0, .ref t), (1, .int p0)] [] σ
  refine zj_aload_n o (zdd k_T_unit 0 rfl) rfl 0 rfl ?_
  obtain ⟨x1, e_x1, h⟩ := zbd h
  refine zj_gI o (zdd k_T_unit 1 rfl) fl_T_145 rfl e_x1 ?_
  refine zj_bipush o (zdd k_T_unit 2 rfl) zkb_30 ?_
  refine zj_icmp_lt (tgt := 14) o (zdd k_T_unit 3 rfl) (by decide) (fun hc => ?_) (fun hc => ?_)
  · rw [if_pos hc] at h
    refine zj_aload_n o (zdd k_T_unit 7 rfl) rfl 0 rfl ?_
    refine zj_dup o (zdd k_T_unit 8 rfl) rfl ?_
    obtain ⟨x2, e_x2, h⟩ := zbd h
    refine zj_gI o (zdd k_T_unit 9 rfl) fl_T_145 rfl e_x2 ?_
    refine zj_iconst o (zdd k_T_unit 10 rfl) zki_1 ?_
    refine zj_iadd o (zdd k_T_unit 11 rfl) ?_
    obtain ⟨σ3, e_σ3, h⟩ := zbd h
    refine zj_pI o (zdd k_T_unit 12 rfl) fl_T_145 rfl rfl e_σ3 ?_
    refine zj_aload_n o (zdd k_T_unit 13 rfl) rfl 0 rfl ?_
    obtain ⟨a4, e_a4, h⟩ := zbd h
    refine zj_gP o (zdd k_T_unit 14 rfl) fl_T_18 rfl e_a4 ?_
    obtain ⟨x5, e_x5, h⟩ := zbd h
    refine zj_gI o (zdd k_T_unit 15 rfl) fl_T_58 rfl e_x5 ?_
    refine zj_bipush o (zdd k_T_unit 16 rfl) zkb_40 ?_
    refine zj_icmp_ne (tgt := 79) o (zdd k_T_unit 17 rfl) (by decide) (fun hc => ?_) (fun hc => ?_)
    · rw [if_neg hc] at h
      refine zj_aload_n o (zdd k_T_unit 41 rfl) rfl 0 rfl ?_
      obtain ⟨a6, e_a6, h⟩ := zbd h
      refine zj_gP o (zdd k_T_unit 42 rfl) fl_T_18 rfl e_a6 ?_
      obtain ⟨x7, e_x7, h⟩ := zbd h
      refine zj_gI o (zdd k_T_unit 43 rfl) fl_T_58 rfl e_x7 ?_
      refine zj_iconst o (zdd k_T_unit 44 rfl) zki_2 ?_
      refine zj_icmp_ne (tgt := 107) o (zdd k_T_unit 45 rfl) (by decide) (fun hc => ?_) (fun hc => ?_)
      · rw [if_neg hc] at h
        refine zj_aload_n o (zdd k_T_unit 53 rfl) rfl 0 rfl ?_
        obtain ⟨a8, e_a8, h⟩ := zbd h
        refine zj_gP o (zdd k_T_unit 54 rfl) fl_T_18 rfl e_a8 ?_
        obtain ⟨x9, e_x9, h⟩ := zbd h
        refine zj_gI o (zdd k_T_unit 55 rfl) fl_T_58 rfl e_x9 ?_
        refine zj_bipush o (zdd k_T_unit 56 rfl) zkb_21 ?_
        refine zj_icmp_lt (tgt := 151) o (zdd k_T_unit 57 rfl) (by decide) (fun hc => ?_) (fun hc => ?_)
        · rw [if_pos hc] at h
          exact zj_sub [0] rfl (r_T_unit_151 o he he1 hre hrec hrs hrsc  h hr)
        · rw [if_neg hc] at h
          refine zj_aload_n o (zdd k_T_unit 58 rfl) rfl 0 rfl ?_
          obtain ⟨a10, e_a10, h⟩ := zbd h
          refine zj_gP o (zdd k_T_unit 59 rfl) fl_T_18 rfl e_a10 ?_
          obtain ⟨x11, e_x11, h⟩ := zbd h
          refine zj_gI o (zdd k_T_unit 60 rfl) fl_T_58 rfl e_x11 ?_
          refine zj_bipush o (zdd k_T_unit 61 rfl) zkb_26 ?_
          refine zj_icmp_gt (tgt := 151) o (zdd k_T_unit 62 rfl) (by decide) (fun hc => ?_) (fun hc => ?_)
          · rw [if_pos hc] at h
            exact zj_sub [0] rfl (r_T_unit_151 o he he1 hre hrec hrs hrsc  h hr)
          · rw [if_neg hc] at h
            refine zj_aload_n o (zdd k_T_unit 63 rfl) rfl 0 rfl ?_
            obtain ⟨a12, e_a12, h⟩ := zbd h
            refine zj_gP o (zdd k_T_unit 64 rfl) fl_T_42 rfl e_a12 ?_
            refine zj_aload_n o (zdd k_T_unit 65 rfl) rfl 0 rfl ?_
            obtain ⟨a13, e_a13, h⟩ := zbd h
            refine zj_gP o (zdd k_T_unit 66 rfl) fl_T_18 rfl e_a13 ?_
            obtain ⟨x14, e_x14, h⟩ := zbd h
            refine zj_gI o (zdd k_T_unit 67 rfl) fl_T_58 rfl e_x14 ?_
            refine zj_bipush o (zdd k_T_unit 68 rfl) zkb_21 ?_
            refine zj_isub o (zdd k_T_unit 69 rfl) ?_
            obtain ⟨σ15, e_σ15, h⟩ := zbd h
            refine zc_V o (zdd k_T_unit 70 rfl) ml_T_186 mv_F_addWord ⟨rfl, by decide⟩ (zg_some e_σ15).1 (by omega) [.int (x14 - 21)] [] rfl (Nat.le_of_ble_eq_true rfl) rfl (m_F_addWord e_σ15) ?_
            change zPJ X 0 0 _ _ [] _
            refine zj_goto (tgt := 156) o (zdd k_T_unit 71 rfl) (by decide) ?_
            exact zj_sub [0] rfl (r_T_unit_156 o he he1 hre hrec hrs hrsc  h hr)
      · rw [if_pos hc] at h
        refine zj_aload_n o (zdd k_T_unit 46 rfl) rfl 0 rfl ?_
        obtain ⟨a16, e_a16, h⟩ := zbd h
        refine zj_gP o (zdd k_T_unit 47 rfl) fl_T_42 rfl e_a16 ?_
        refine zj_aload_n o (zdd k_T_unit 48 rfl) rfl 0 rfl ?_
        obtain ⟨a17, e_a17, h⟩ := zbd h
        refine zj_gP o (zdd k_T_unit 49 rfl) fl_T_18 rfl e_a17 ?_
        obtain ⟨x18, e_x18, h⟩ := zbd h
        refine zj_gI o (zdd k_T_unit 50 rfl) fl_T_183 rfl e_x18 ?_
        obtain ⟨σ19, e_σ19, h⟩ := zbd h
        refine zc_V o (zdd k_T_unit 51 rfl) ml_T_164 mv_F_add ⟨rfl, by decide⟩ (zg_some e_σ19).1 (by omega) [.int x18] [] rfl (Nat.le_of_ble_eq_true rfl) rfl (m_F_add e_σ19) ?_
        change zPJ X 0 0 _ _ [] _
        refine zj_goto (tgt := 156) o (zdd k_T_unit 52 rfl) (by decide) ?_
        exact zj_sub [0] rfl (r_T_unit_156 o he he1 hre hrec hrs hrsc  h hr)
    · rw [if_pos hc] at h
      refine zj_iload_n o (zdd k_T_unit 18 rfl) rfl 1 rfl ?_
      refine zj_bipush o (zdd k_T_unit 19 rfl) zkb_6 ?_
      refine zj_icmp_le (tgt := 47) o (zdd k_T_unit 20 rfl) (by decide) (fun hc => ?_) (fun hc => ?_)
      · rw [if_pos hc] at h
        refine zj_aload_n o (zdd k_T_unit 24 rfl) rfl 0 rfl ?_
        obtain ⟨a20, e_a20, h⟩ := zbd h
        refine zj_gP o (zdd k_T_unit 25 rfl) fl_T_18 rfl e_a20 ?_
        obtain ⟨σ21, e_σ21, h⟩ := zbd h
        refine zc_V o (zdd k_T_unit 26 rfl) ml_T_102 mv_C_advance ⟨rfl, by decide⟩ (zg_some e_σ21).1 (by omega) [] [] rfl (Nat.le_of_ble_eq_true rfl) rfl (m_C_advance e_σ21) ?_
        change zPJ X 0 0 _ _ [] _
        refine zj_aload_n o (zdd k_T_unit 27 rfl) rfl 0 rfl ?_
        refine zj_iload_n o (zdd k_T_unit 28 rfl) rfl 1 rfl ?_
        refine zj_iconst o (zdd k_T_unit 29 rfl) zki_1 ?_
        refine zj_iadd o (zdd k_T_unit 30 rfl) ?_
        obtain ⟨q22, e_q22, h⟩ := zbd h
        refine zc_V o (zdd k_T_unit 31 rfl) ml_T_148 mv_T_either ⟨rfl, by decide⟩ (hrec e_q22) (by omega) [.int (p0 + 1)] [] rfl (Nat.le_of_ble_eq_true rfl) rfl (hre e_q22) ?_
        change zPJ X 0 0 _ _ [.int q22.1] _
        refine zj_if_eq (tgt := 77) o (zdd k_T_unit 32 rfl) (by decide) (fun hc => ?_) (fun hc => ?_)
        · rw [if_pos hc] at h
          refine zj_iconst o (zdd k_T_unit 39 rfl) zki_0 ?_
          cases h
          exact zr_i o hr (zdd k_T_unit 40 rfl)
        · rw [if_neg hc] at h
          refine zj_aload_n o (zdd k_T_unit 33 rfl) rfl 0 rfl ?_
          refine zj_bipush o (zdd k_T_unit 34 rfl) zkb_41 ?_
          obtain ⟨q23, e_q23, h⟩ := zbd h
          refine zc_V o (zdd k_T_unit 35 rfl) ml_T_109 mv_T_take ⟨rfl, by decide⟩ (zg_some e_q23).1 (by omega) [.int 41] [] rfl (Nat.le_of_ble_eq_true rfl) rfl (m_T_take e_q23) ?_
          change zPJ X 0 0 _ _ [.int q23.1] _
          refine zj_if_eq (tgt := 77) o (zdd k_T_unit 36 rfl) (by decide) (fun hc => ?_) (fun hc => ?_)
          · rw [if_pos hc] at h
            refine zj_iconst o (zdd k_T_unit 39 rfl) zki_0 ?_
            cases h
            exact zr_i o hr (zdd k_T_unit 40 rfl)
          · rw [if_neg hc] at h
            refine zj_iconst o (zdd k_T_unit 37 rfl) zki_1 ?_
            refine zj_goto (tgt := 78) o (zdd k_T_unit 38 rfl) (by decide) ?_
            cases h
            exact zr_i o hr (zdd k_T_unit 40 rfl)
      · rw [if_neg hc] at h
        refine zj_aload_n o (zdd k_T_unit 21 rfl) rfl 0 rfl ?_
        obtain ⟨q24, e_q24, h⟩ := zbd h
        refine zc_V o (zdd k_T_unit 22 rfl) ml_T_68 mv_T_refuse ⟨rfl, by decide⟩ (zg_some e_q24).1 (by omega) [] [] rfl (Nat.le_of_ble_eq_true rfl) rfl (m_T_refuse e_q24) ?_
        change zPJ X 0 0 _ _ [.int q24.1] _
        cases h
        exact zr_i o hr (zdd k_T_unit 23 rfl)
  · rw [if_neg hc] at h
    refine zj_aload_n o (zdd k_T_unit 4 rfl) rfl 0 rfl ?_
    obtain ⟨q25, e_q25, h⟩ := zbd h
    refine zc_V o (zdd k_T_unit 5 rfl) ml_T_68 mv_T_refuse ⟨rfl, by decide⟩ (zg_some e_q25).1 (by omega) [] [] rfl (Nat.le_of_ble_eq_true rfl) rfl (m_T_refuse e_q25) ?_
    change zPJ X 0 0 _ _ [.int q25.1] _
    cases h
    exact zr_i o hr (zdd k_T_unit 6 rfl)
def f_T_isProductSign (p0 : Int32) : Option (Int32) :=
(if p0 = 42 then (
some 1) else
if p0 = 47 then (
some 1) else
if p0 = 37 then (
some 1) else
some 0).bind zbool
set_option maxRecDepth 100000 in
set_option maxHeartbeats 4000000 in
theorem m_T_isProductSign {l : Launch} {b : Nat} {ex : Nat → Value} {D : va_G} {ca : Nat → ClassId} {σ : zSt} {p0 : Int32} {z : Int32} (h : f_T_isProductSign p0 = some z) : zMT l b ex D ca 1 y_T_isProductSign c_T_isProductSign n_T_isProductSign r_ret_T_isProductSign [.int p0] σ (some (.int z)) σ 0 0 := by
  obtain ⟨z0, hbd, hz⟩ := zbd h
  obtain ⟨hzb, rfl⟩ := zbool_some hz
  have h := hbd
  refine zmt_of (by decide) (Nat.le_of_ble_eq_true rfl) ⟨.boolean, rfl, zb_nar hzb⟩ (fun X o hin hrm _ _ _ _ _ hr => ?_)
  have hr := hr 0 0 (by decide) (by decide)
  have o : zOK X "WantShelves$Teller" c_T_isProductSign n_T_isProductSign 1 := o
  change zPJ X 0 0 0 [(0, .int p0)] [] σ
  refine zj_iload_n o (zdd k_T_isProductSign 0 rfl) rfl 0 rfl ?_
  refine zj_bipush o (zdd k_T_isProductSign 1 rfl) zkb_42 ?_
  refine zj_icmp_eq (tgt := 18) o (zdd k_T_isProductSign 2 rfl) (by decide) (fun hc => ?_) (fun hc => ?_)
  · rw [if_pos hc] at h
    refine zj_iconst o (zdd k_T_isProductSign 9 rfl) zki_1 ?_
    refine zj_goto (tgt := 23) o (zdd k_T_isProductSign 10 rfl) (by decide) ?_
    cases h
    exact zr_i o hr (zdd k_T_isProductSign 12 rfl)
  · rw [if_neg hc] at h
    refine zj_iload_n o (zdd k_T_isProductSign 3 rfl) rfl 0 rfl ?_
    refine zj_bipush o (zdd k_T_isProductSign 4 rfl) zkb_47 ?_
    refine zj_icmp_eq (tgt := 18) o (zdd k_T_isProductSign 5 rfl) (by decide) (fun hc => ?_) (fun hc => ?_)
    · rw [if_pos hc] at h
      refine zj_iconst o (zdd k_T_isProductSign 9 rfl) zki_1 ?_
      refine zj_goto (tgt := 23) o (zdd k_T_isProductSign 10 rfl) (by decide) ?_
      cases h
      exact zr_i o hr (zdd k_T_isProductSign 12 rfl)
    · rw [if_neg hc] at h
      refine zj_iload_n o (zdd k_T_isProductSign 6 rfl) rfl 0 rfl ?_
      refine zj_bipush o (zdd k_T_isProductSign 7 rfl) zkb_37 ?_
      refine zj_icmp_ne (tgt := 22) o (zdd k_T_isProductSign 8 rfl) (by decide) (fun hc => ?_) (fun hc => ?_)
      · rw [if_neg hc] at h
        refine zj_iconst o (zdd k_T_isProductSign 11 rfl) zki_0 ?_
        cases h
        exact zr_i o hr (zdd k_T_isProductSign 12 rfl)
      · rw [if_pos hc] at h
        refine zj_iconst o (zdd k_T_isProductSign 9 rfl) zki_1 ?_
        refine zj_goto (tgt := 23) o (zdd k_T_isProductSign 10 rfl) (by decide) ?_
        cases h
        exact zr_i o hr (zdd k_T_isProductSign 12 rfl)
def f_T_product_12 (re rs : zSt → Nat → Int32 → Option (Int32 × zSt)) (k12 : zSt → Nat → Int32 → Int32 → Option (Int32 × zSt)) (σ : zSt) (v0 : Nat) (v1 : Int32) (v2 : Int32) : Option (Int32 × zSt) :=
if 30 ≤ v2 then (
some (1, σ)) else
(zgP σ 9 v0 2).bind fun a1 =>
(zgI σ 7 a1 0).bind fun x2 =>
(f_T_isProductSign x2).bind fun x3 =>
if x3 = 0 then (
some (1, σ)) else
(zgP σ 9 v0 2).bind fun a4 =>
(zgI σ 7 a4 0).bind fun x5 =>
(zgP σ 9 v0 2).bind fun a6 =>
(f_C_advance σ a6).bind fun σ7 =>
(f_T_unit re rs σ7 v0 v1).bind fun q8 =>
if q8.1 = 0 then (
some (0, q8.2)) else
(zgP q8.2 9 v0 7).bind fun a9 =>
(f_F_add q8.2 a9 (-x5)).bind fun σ10 =>
k12 σ10 v0 v1 (v2 + 1)
set_option maxRecDepth 100000 in
set_option maxHeartbeats 4000000 in
theorem r_T_product_12 {X : zCX} {e0 e1 : Nat} (o : zOK X "WantShelves$Teller" c_T_product n_T_product (e0 + 2)) {re rs : zSt → Nat → Int32 → Option (Int32 × zSt)} (he : 9 ≤ e0) (he1 : e1 ≤ e0) (hre : ∀ {l : Launch} {b : Nat} {ex : Nat → Value} {D : va_G} {ca : Nat → ClassId} {σ : zSt} {a : Nat} {w : Int32} {z : Int32 × zSt}, re σ a w = some z → zMT l b ex D ca e0 y_T_either c_T_either n_T_either r_ret_T_either [.ref a, .int w] σ (some (.int z.1)) z.2 0 0) (hrec : ∀ {σ : zSt} {a : Nat} {w : Int32} {z : Int32 × zSt}, re σ a w = some z → σ.1[a]? = some (0, 9)) (hrs : ∀ {l : Launch} {b : Nat} {ex : Nat → Value} {D : va_G} {ca : Nat → ClassId} {σ : zSt} {a : Nat} {w : Int32} {z : Int32 × zSt}, rs σ a w = some z → zMT l b ex D ca e1 y_T_single c_T_single n_T_single r_ret_T_single [.ref a, .int w] σ (some (.int z.1)) z.2 0 0) (hrsc : ∀ {σ : zSt} {a : Nat} {w : Int32} {z : Int32 × zSt}, rs σ a w = some z → σ.1[a]? = some (0, 9)) {k12 : zSt → Nat → Int32 → Int32 → Option (Int32 × zSt)} (hk12 : ∀ {σ : zSt} {v0 : Nat} {v1 : Int32} {v2 : Int32} {z : Int32 × zSt}, k12 σ v0 v1 v2 = some z → zRX X 0 0 (some (.int z.1)) z.2 → zPJ X 0 0 12 [(0, .ref v0), (1, .int v1), (2, .int v2)] [] σ) {σ : zSt} {v0 : Nat} {v1 : Int32} {v2 : Int32} {z : Int32 × zSt} (h : f_T_product_12 re rs k12 σ v0 v1 v2 = some z) (hr : zRX X 0 0 (some (.int z.1)) z.2) : zPJ X 0 0 12 [(0, .ref v0), (1, .int v1), (2, .int v2)] [] σ := by
  unfold f_T_product_12 at h
  refine zj_iload_n o (zdd k_T_product 8 rfl) rfl 2 rfl ?_
  refine zj_bipush o (zdd k_T_product 9 rfl) zkb_30 ?_
  refine zj_icmp_ge (tgt := 71) o (zdd k_T_product 10 rfl) (by decide) (fun hc => ?_) (fun hc => ?_)
  · rw [if_pos hc] at h
    refine zj_iconst o (zdd k_T_product 36 rfl) zki_1 ?_
    cases h
    exact zr_i o hr (zdd k_T_product 37 rfl)
  · rw [if_neg hc] at h
    refine zj_aload_n o (zdd k_T_product 11 rfl) rfl 0 rfl ?_
    obtain ⟨a1, e_a1, h⟩ := zbd h
    refine zj_gP o (zdd k_T_product 12 rfl) fl_T_18 rfl e_a1 ?_
    obtain ⟨x2, e_x2, h⟩ := zbd h
    refine zj_gI o (zdd k_T_product 13 rfl) fl_T_58 rfl e_x2 ?_
    obtain ⟨x3, e_x3, h⟩ := zbd h
    refine zc_S o (zdd k_T_product 14 rfl) ml_T_180 ms_T_isProductSign (by omega) [.int x2] [] rfl (Nat.le_of_ble_eq_true rfl) rfl (m_T_isProductSign e_x3) ?_
    change zPJ X 0 0 _ _ [.int x3] _
    refine zj_if_eq (tgt := 71) o (zdd k_T_product 15 rfl) (by decide) (fun hc => ?_) (fun hc => ?_)
    · rw [if_pos hc] at h
      refine zj_iconst o (zdd k_T_product 36 rfl) zki_1 ?_
      cases h
      exact zr_i o hr (zdd k_T_product 37 rfl)
    · rw [if_neg hc] at h
      refine zj_aload_n o (zdd k_T_product 16 rfl) rfl 0 rfl ?_
      obtain ⟨a4, e_a4, h⟩ := zbd h
      refine zj_gP o (zdd k_T_product 17 rfl) fl_T_18 rfl e_a4 ?_
      obtain ⟨x5, e_x5, h⟩ := zbd h
      refine zj_gI o (zdd k_T_product 18 rfl) fl_T_58 rfl e_x5 ?_
      refine zj_istore_n (loc' := [(3, .int x5), (0, .ref v0), (1, .int v1), (2, .int v2)]) o (zdd k_T_product 19 rfl) rfl (by decide) rfl ?_
      refine zj_aload_n o (zdd k_T_product 20 rfl) rfl 1 rfl ?_
      obtain ⟨a6, e_a6, h⟩ := zbd h
      refine zj_gP o (zdd k_T_product 21 rfl) fl_T_18 rfl e_a6 ?_
      obtain ⟨σ7, e_σ7, h⟩ := zbd h
      refine zc_V o (zdd k_T_product 22 rfl) ml_T_102 mv_C_advance ⟨rfl, by decide⟩ (zg_some e_σ7).1 (by omega) [] [] rfl (Nat.le_of_ble_eq_true rfl) rfl (m_C_advance e_σ7) ?_
      change zPJ X 0 0 _ _ [] _
      refine zj_aload_n o (zdd k_T_product 23 rfl) rfl 1 rfl ?_
      refine zj_iload_n o (zdd k_T_product 24 rfl) rfl 2 rfl ?_
      obtain ⟨q8, e_q8, h⟩ := zbd h
      refine zc_V o (zdd k_T_product 25 rfl) ml_T_177 mv_T_unit ⟨rfl, by decide⟩ (zg_some e_q8).1 (by omega) [.int v1] [] rfl (Nat.le_of_ble_eq_true rfl) rfl (m_T_unit he he1 hre hrec hrs hrsc e_q8) ?_
      change zPJ X 0 0 _ _ [.int q8.1] _
      refine zj_if_ne (tgt := 56) o (zdd k_T_product 26 rfl) (by decide) (fun hc => ?_) (fun hc => ?_)
      · rw [if_neg hc] at h
        refine zj_aload_n o (zdd k_T_product 29 rfl) rfl 1 rfl ?_
        obtain ⟨a9, e_a9, h⟩ := zbd h
        refine zj_gP o (zdd k_T_product 30 rfl) fl_T_42 rfl e_a9 ?_
        refine zj_iload_n o (zdd k_T_product 31 rfl) rfl 0 rfl ?_
        refine zj_ineg o (zdd k_T_product 32 rfl) ?_
        obtain ⟨σ10, e_σ10, h⟩ := zbd h
        refine zc_V o (zdd k_T_product 33 rfl) ml_T_164 mv_F_add ⟨rfl, by decide⟩ (zg_some e_σ10).1 (by omega) [.int (-x5)] [] rfl (Nat.le_of_ble_eq_true rfl) rfl (m_F_add e_σ10) ?_
        change zPJ X 0 0 _ _ [] _
        refine zj_iinc (v := v2 + 1) (loc' := [(2, .int (v2 + 1)), (3, .int x5), (0, .ref v0), (1, .int v1)]) o (zdd k_T_product 34 rfl) 3 rfl (by rw [zki_1]) (by decide) rfl ?_
        refine zj_goto (tgt := 12) o (zdd k_T_product 35 rfl) (by decide) ?_
        exact zj_sub [2, 3, 0] rfl (hk12 h hr)
      · rw [if_pos hc] at h
        refine zj_iconst o (zdd k_T_product 27 rfl) zki_0 ?_
        cases h
        exact zr_i o hr (zdd k_T_product 28 rfl)
def f_T_product_12L (re rs : zSt → Nat → Int32 → Option (Int32 × zSt)) : Nat → zSt → Nat → Int32 → Int32 → Option (Int32 × zSt)
  | 0 => fun _ _ _ _ => none
  | n + 1 => f_T_product_12 re rs (f_T_product_12L re rs n)
theorem r_T_product_12L {X : zCX} {e0 e1 : Nat} (o : zOK X "WantShelves$Teller" c_T_product n_T_product (e0 + 2)) {re rs : zSt → Nat → Int32 → Option (Int32 × zSt)} (he : 9 ≤ e0) (he1 : e1 ≤ e0) (hre : ∀ {l : Launch} {b : Nat} {ex : Nat → Value} {D : va_G} {ca : Nat → ClassId} {σ : zSt} {a : Nat} {w : Int32} {z : Int32 × zSt}, re σ a w = some z → zMT l b ex D ca e0 y_T_either c_T_either n_T_either r_ret_T_either [.ref a, .int w] σ (some (.int z.1)) z.2 0 0) (hrec : ∀ {σ : zSt} {a : Nat} {w : Int32} {z : Int32 × zSt}, re σ a w = some z → σ.1[a]? = some (0, 9)) (hrs : ∀ {l : Launch} {b : Nat} {ex : Nat → Value} {D : va_G} {ca : Nat → ClassId} {σ : zSt} {a : Nat} {w : Int32} {z : Int32 × zSt}, rs σ a w = some z → zMT l b ex D ca e1 y_T_single c_T_single n_T_single r_ret_T_single [.ref a, .int w] σ (some (.int z.1)) z.2 0 0) (hrsc : ∀ {σ : zSt} {a : Nat} {w : Int32} {z : Int32 × zSt}, rs σ a w = some z → σ.1[a]? = some (0, 9)) : ∀ (n : Nat) {σ : zSt} {v0 : Nat} {v1 : Int32} {v2 : Int32} {z : Int32 × zSt}, f_T_product_12L re rs n σ v0 v1 v2 = some z → zRX X 0 0 (some (.int z.1)) z.2 → zPJ X 0 0 12 [(0, .ref v0), (1, .int v1), (2, .int v2)] [] σ
  | 0 => fun h _ => by cases h
  | n + 1 => fun h hr => r_T_product_12 o he he1 hre hrec hrs hrsc (r_T_product_12L o he he1 hre hrec hrs hrsc  n) h hr
def f_T_product (re rs : zSt → Nat → Int32 → Option (Int32 × zSt)) (σ : zSt) (t : Nat) (p0 : Int32) : Option (Int32 × zSt) :=
zg σ 9 t (
((f_T_unit re rs σ t p0).bind fun q1 =>
if q1.1 = 0 then (
some (0, q1.2)) else
f_T_product_12L re rs zfu q1.2 t p0 0).bind fun q => (zbool q.1).bind fun x => some (x, q.2))
set_option maxRecDepth 100000 in
set_option maxHeartbeats 4000000 in
theorem m_T_product {re rs : zSt → Nat → Int32 → Option (Int32 × zSt)} {e0 e1 : Nat} (he : 9 ≤ e0) (he1 : e1 ≤ e0) (hre : ∀ {l : Launch} {b : Nat} {ex : Nat → Value} {D : va_G} {ca : Nat → ClassId} {σ : zSt} {a : Nat} {w : Int32} {z : Int32 × zSt}, re σ a w = some z → zMT l b ex D ca e0 y_T_either c_T_either n_T_either r_ret_T_either [.ref a, .int w] σ (some (.int z.1)) z.2 0 0) (hrec : ∀ {σ : zSt} {a : Nat} {w : Int32} {z : Int32 × zSt}, re σ a w = some z → σ.1[a]? = some (0, 9)) (hrs : ∀ {l : Launch} {b : Nat} {ex : Nat → Value} {D : va_G} {ca : Nat → ClassId} {σ : zSt} {a : Nat} {w : Int32} {z : Int32 × zSt}, rs σ a w = some z → zMT l b ex D ca e1 y_T_single c_T_single n_T_single r_ret_T_single [.ref a, .int w] σ (some (.int z.1)) z.2 0 0) (hrsc : ∀ {σ : zSt} {a : Nat} {w : Int32} {z : Int32 × zSt}, rs σ a w = some z → σ.1[a]? = some (0, 9)) {l : Launch} {b : Nat} {ex : Nat → Value} {D : va_G} {ca : Nat → ClassId} {σ : zSt} {t : Nat} {p0 : Int32} {z : Int32 × zSt} (h : f_T_product re rs σ t p0 = some z) : zMT l b ex D ca (e0 + 2) y_T_product c_T_product n_T_product r_ret_T_product [.ref t, .int p0] σ (some (.int z.1)) z.2 0 0 := by
  obtain ⟨_, hg0⟩ := zg_some h
  obtain ⟨z0, hbd, hz⟩ := zbd hg0
  obtain ⟨z1, hz1, hzz⟩ := zbd hz
  obtain ⟨hzb, rfl⟩ := zbool_some hz1
  cases hzz
  have h := hbd
  refine zmt_of (by decide) (Nat.le_of_ble_eq_true rfl) ⟨.boolean, rfl, zb_nar hzb⟩ (fun X o hin hrm _ _ _ _ _ hr => ?_)
  have hr := hr 0 0 (by decide) (by decide)
  have o : zOK X "WantShelves$Teller" c_T_product n_T_product (e0 + 2) := o
  change zPJ X 0 0 0 [(0, .ref t), (1, .int p0)] [] σ
  refine zj_aload_n o (zdd k_T_product 0 rfl) rfl 0 rfl ?_
  refine zj_iload_n o (zdd k_T_product 1 rfl) rfl 1 rfl ?_
  obtain ⟨q1, e_q1, h⟩ := zbd h
  refine zc_V o (zdd k_T_product 2 rfl) ml_T_177 mv_T_unit ⟨rfl, by decide⟩ (zg_some e_q1).1 (by omega) [.int p0] [] rfl (Nat.le_of_ble_eq_true rfl) rfl (m_T_unit he he1 hre hrec hrs hrsc e_q1) ?_
  change zPJ X 0 0 _ _ [.int q1.1] _
  refine zj_if_ne (tgt := 10) o (zdd k_T_product 3 rfl) (by decide) (fun hc => ?_) (fun hc => ?_)
  · rw [if_neg hc] at h
    refine zj_iconst o (zdd k_T_product 6 rfl) zki_0 ?_
    refine zj_istore_n (loc' := [(2, .int 0), (0, .ref t), (1, .int p0)]) o (zdd k_T_product 7 rfl) rfl (by decide) rfl ?_
    exact zj_sub [1, 2, 0] rfl (r_T_product_12L o he he1 hre hrec hrs hrsc  zfu h hr)
  · rw [if_pos hc] at h
    refine zj_iconst o (zdd k_T_product 4 rfl) zki_0 ?_
    cases h
    exact zr_i o hr (zdd k_T_product 5 rfl)
def f_T_sum_42 (re rs : zSt → Nat → Int32 → Option (Int32 × zSt)) (k12 : zSt → Nat → Int32 → Int32 → Option (Int32 × zSt)) (σ : zSt) (v0 : Nat) (v1 : Int32) (v2 : Int32) : Option (Int32 × zSt) :=
(zgP σ 9 v0 2).bind fun a1 =>
(zgI σ 7 a1 0).bind fun x2 =>
(zgP σ 9 v0 2).bind fun a3 =>
(f_C_advance σ a3).bind fun σ4 =>
(f_T_product re rs σ4 v0 v1).bind fun q5 =>
if q5.1 = 0 then (
some (0, q5.2)) else
(zgP q5.2 9 v0 7).bind fun a6 =>
(f_F_add q5.2 a6 (-x2)).bind fun σ7 =>
k12 σ7 v0 v1 (v2 + 1)
set_option maxRecDepth 100000 in
set_option maxHeartbeats 4000000 in
theorem r_T_sum_42 {X : zCX} {e0 e1 : Nat} (o : zOK X "WantShelves$Teller" c_T_sum n_T_sum (e0 + 3)) {re rs : zSt → Nat → Int32 → Option (Int32 × zSt)} (he : 9 ≤ e0) (he1 : e1 ≤ e0) (hre : ∀ {l : Launch} {b : Nat} {ex : Nat → Value} {D : va_G} {ca : Nat → ClassId} {σ : zSt} {a : Nat} {w : Int32} {z : Int32 × zSt}, re σ a w = some z → zMT l b ex D ca e0 y_T_either c_T_either n_T_either r_ret_T_either [.ref a, .int w] σ (some (.int z.1)) z.2 0 0) (hrec : ∀ {σ : zSt} {a : Nat} {w : Int32} {z : Int32 × zSt}, re σ a w = some z → σ.1[a]? = some (0, 9)) (hrs : ∀ {l : Launch} {b : Nat} {ex : Nat → Value} {D : va_G} {ca : Nat → ClassId} {σ : zSt} {a : Nat} {w : Int32} {z : Int32 × zSt}, rs σ a w = some z → zMT l b ex D ca e1 y_T_single c_T_single n_T_single r_ret_T_single [.ref a, .int w] σ (some (.int z.1)) z.2 0 0) (hrsc : ∀ {σ : zSt} {a : Nat} {w : Int32} {z : Int32 × zSt}, rs σ a w = some z → σ.1[a]? = some (0, 9)) {k12 : zSt → Nat → Int32 → Int32 → Option (Int32 × zSt)} (hk12 : ∀ {σ : zSt} {v0 : Nat} {v1 : Int32} {v2 : Int32} {z : Int32 × zSt}, k12 σ v0 v1 v2 = some z → zRX X 0 0 (some (.int z.1)) z.2 → zPJ X 0 0 12 [(0, .ref v0), (1, .int v1), (2, .int v2)] [] σ) {σ : zSt} {v0 : Nat} {v1 : Int32} {v2 : Int32} {z : Int32 × zSt} (h : f_T_sum_42 re rs k12 σ v0 v1 v2 = some z) (hr : zRX X 0 0 (some (.int z.1)) z.2) : zPJ X 0 0 42 [(0, .ref v0), (1, .int v1), (2, .int v2)] [] σ := by
  unfold f_T_sum_42 at h
  refine zj_aload_n o (zdd k_T_sum 21 rfl) rfl 0 rfl ?_
  obtain ⟨a1, e_a1, h⟩ := zbd h
  refine zj_gP o (zdd k_T_sum 22 rfl) fl_T_18 rfl e_a1 ?_
  obtain ⟨x2, e_x2, h⟩ := zbd h
  refine zj_gI o (zdd k_T_sum 23 rfl) fl_T_58 rfl e_x2 ?_
  refine zj_istore_n (loc' := [(3, .int x2), (0, .ref v0), (1, .int v1), (2, .int v2)]) o (zdd k_T_sum 24 rfl) rfl (by decide) rfl ?_
  refine zj_aload_n o (zdd k_T_sum 25 rfl) rfl 1 rfl ?_
  obtain ⟨a3, e_a3, h⟩ := zbd h
  refine zj_gP o (zdd k_T_sum 26 rfl) fl_T_18 rfl e_a3 ?_
  obtain ⟨σ4, e_σ4, h⟩ := zbd h
  refine zc_V o (zdd k_T_sum 27 rfl) ml_T_102 mv_C_advance ⟨rfl, by decide⟩ (zg_some e_σ4).1 (by omega) [] [] rfl (Nat.le_of_ble_eq_true rfl) rfl (m_C_advance e_σ4) ?_
  change zPJ X 0 0 _ _ [] _
  refine zj_aload_n o (zdd k_T_sum 28 rfl) rfl 1 rfl ?_
  refine zj_iload_n o (zdd k_T_sum 29 rfl) rfl 2 rfl ?_
  obtain ⟨q5, e_q5, h⟩ := zbd h
  refine zc_V o (zdd k_T_sum 30 rfl) ml_T_174 mv_T_product ⟨rfl, by decide⟩ (zg_some e_q5).1 (by omega) [.int v1] [] rfl (Nat.le_of_ble_eq_true rfl) rfl (m_T_product he he1 hre hrec hrs hrsc e_q5) ?_
  change zPJ X 0 0 _ _ [.int q5.1] _
  refine zj_if_ne (tgt := 67) o (zdd k_T_sum 31 rfl) (by decide) (fun hc => ?_) (fun hc => ?_)
  · rw [if_neg hc] at h
    refine zj_aload_n o (zdd k_T_sum 34 rfl) rfl 1 rfl ?_
    obtain ⟨a6, e_a6, h⟩ := zbd h
    refine zj_gP o (zdd k_T_sum 35 rfl) fl_T_42 rfl e_a6 ?_
    refine zj_iload_n o (zdd k_T_sum 36 rfl) rfl 0 rfl ?_
    refine zj_ineg o (zdd k_T_sum 37 rfl) ?_
    obtain ⟨σ7, e_σ7, h⟩ := zbd h
    refine zc_V o (zdd k_T_sum 38 rfl) ml_T_164 mv_F_add ⟨rfl, by decide⟩ (zg_some e_σ7).1 (by omega) [.int (-x2)] [] rfl (Nat.le_of_ble_eq_true rfl) rfl (m_F_add e_σ7) ?_
    change zPJ X 0 0 _ _ [] _
    refine zj_iinc (v := v2 + 1) (loc' := [(2, .int (v2 + 1)), (3, .int x2), (0, .ref v0), (1, .int v1)]) o (zdd k_T_sum 39 rfl) 3 rfl (by rw [zki_1]) (by decide) rfl ?_
    refine zj_goto (tgt := 12) o (zdd k_T_sum 40 rfl) (by decide) ?_
    exact zj_sub [2, 3, 0] rfl (hk12 h hr)
  · rw [if_pos hc] at h
    refine zj_iconst o (zdd k_T_sum 32 rfl) zki_0 ?_
    cases h
    exact zr_i o hr (zdd k_T_sum 33 rfl)
def f_T_sum_12 (re rs : zSt → Nat → Int32 → Option (Int32 × zSt)) (k12 : zSt → Nat → Int32 → Int32 → Option (Int32 × zSt)) (σ : zSt) (v0 : Nat) (v1 : Int32) (v2 : Int32) : Option (Int32 × zSt) :=
if 30 ≤ v2 then (
some (1, σ)) else
(zgP σ 9 v0 2).bind fun a1 =>
(zgI σ 7 a1 0).bind fun x2 =>
if x2 = 43 then (
f_T_sum_42 re rs k12 σ v0 v1 v2) else
(zgP σ 9 v0 2).bind fun a3 =>
(zgI σ 7 a3 0).bind fun x4 =>
if x4 = 45 then (
f_T_sum_42 re rs k12 σ v0 v1 v2) else
some (1, σ)
set_option maxRecDepth 100000 in
set_option maxHeartbeats 4000000 in
theorem r_T_sum_12 {X : zCX} {e0 e1 : Nat} (o : zOK X "WantShelves$Teller" c_T_sum n_T_sum (e0 + 3)) {re rs : zSt → Nat → Int32 → Option (Int32 × zSt)} (he : 9 ≤ e0) (he1 : e1 ≤ e0) (hre : ∀ {l : Launch} {b : Nat} {ex : Nat → Value} {D : va_G} {ca : Nat → ClassId} {σ : zSt} {a : Nat} {w : Int32} {z : Int32 × zSt}, re σ a w = some z → zMT l b ex D ca e0 y_T_either c_T_either n_T_either r_ret_T_either [.ref a, .int w] σ (some (.int z.1)) z.2 0 0) (hrec : ∀ {σ : zSt} {a : Nat} {w : Int32} {z : Int32 × zSt}, re σ a w = some z → σ.1[a]? = some (0, 9)) (hrs : ∀ {l : Launch} {b : Nat} {ex : Nat → Value} {D : va_G} {ca : Nat → ClassId} {σ : zSt} {a : Nat} {w : Int32} {z : Int32 × zSt}, rs σ a w = some z → zMT l b ex D ca e1 y_T_single c_T_single n_T_single r_ret_T_single [.ref a, .int w] σ (some (.int z.1)) z.2 0 0) (hrsc : ∀ {σ : zSt} {a : Nat} {w : Int32} {z : Int32 × zSt}, rs σ a w = some z → σ.1[a]? = some (0, 9)) {k12 : zSt → Nat → Int32 → Int32 → Option (Int32 × zSt)} (hk12 : ∀ {σ : zSt} {v0 : Nat} {v1 : Int32} {v2 : Int32} {z : Int32 × zSt}, k12 σ v0 v1 v2 = some z → zRX X 0 0 (some (.int z.1)) z.2 → zPJ X 0 0 12 [(0, .ref v0), (1, .int v1), (2, .int v2)] [] σ) {σ : zSt} {v0 : Nat} {v1 : Int32} {v2 : Int32} {z : Int32 × zSt} (h : f_T_sum_12 re rs k12 σ v0 v1 v2 = some z) (hr : zRX X 0 0 (some (.int z.1)) z.2) : zPJ X 0 0 12 [(0, .ref v0), (1, .int v1), (2, .int v2)] [] σ := by
  unfold f_T_sum_12 at h
  refine zj_iload_n o (zdd k_T_sum 8 rfl) rfl 2 rfl ?_
  refine zj_bipush o (zdd k_T_sum 9 rfl) zkb_30 ?_
  refine zj_icmp_ge (tgt := 82) o (zdd k_T_sum 10 rfl) (by decide) (fun hc => ?_) (fun hc => ?_)
  · rw [if_pos hc] at h
    refine zj_iconst o (zdd k_T_sum 41 rfl) zki_1 ?_
    cases h
    exact zr_i o hr (zdd k_T_sum 42 rfl)
  · rw [if_neg hc] at h
    refine zj_aload_n o (zdd k_T_sum 11 rfl) rfl 0 rfl ?_
    obtain ⟨a1, e_a1, h⟩ := zbd h
    refine zj_gP o (zdd k_T_sum 12 rfl) fl_T_18 rfl e_a1 ?_
    obtain ⟨x2, e_x2, h⟩ := zbd h
    refine zj_gI o (zdd k_T_sum 13 rfl) fl_T_58 rfl e_x2 ?_
    refine zj_bipush o (zdd k_T_sum 14 rfl) zkb_43 ?_
    refine zj_icmp_eq (tgt := 42) o (zdd k_T_sum 15 rfl) (by decide) (fun hc => ?_) (fun hc => ?_)
    · rw [if_pos hc] at h
      exact zj_sub [0, 1, 2] rfl (r_T_sum_42 o he he1 hre hrec hrs hrsc hk12 h hr)
    · rw [if_neg hc] at h
      refine zj_aload_n o (zdd k_T_sum 16 rfl) rfl 0 rfl ?_
      obtain ⟨a3, e_a3, h⟩ := zbd h
      refine zj_gP o (zdd k_T_sum 17 rfl) fl_T_18 rfl e_a3 ?_
      obtain ⟨x4, e_x4, h⟩ := zbd h
      refine zj_gI o (zdd k_T_sum 18 rfl) fl_T_58 rfl e_x4 ?_
      refine zj_bipush o (zdd k_T_sum 19 rfl) zkb_45 ?_
      refine zj_icmp_ne (tgt := 82) o (zdd k_T_sum 20 rfl) (by decide) (fun hc => ?_) (fun hc => ?_)
      · rw [if_neg hc] at h
        refine zj_iconst o (zdd k_T_sum 41 rfl) zki_1 ?_
        cases h
        exact zr_i o hr (zdd k_T_sum 42 rfl)
      · rw [if_pos hc] at h
        exact zj_sub [0, 1, 2] rfl (r_T_sum_42 o he he1 hre hrec hrs hrsc hk12 h hr)
def f_T_sum_12L (re rs : zSt → Nat → Int32 → Option (Int32 × zSt)) : Nat → zSt → Nat → Int32 → Int32 → Option (Int32 × zSt)
  | 0 => fun _ _ _ _ => none
  | n + 1 => f_T_sum_12 re rs (f_T_sum_12L re rs n)
theorem r_T_sum_12L {X : zCX} {e0 e1 : Nat} (o : zOK X "WantShelves$Teller" c_T_sum n_T_sum (e0 + 3)) {re rs : zSt → Nat → Int32 → Option (Int32 × zSt)} (he : 9 ≤ e0) (he1 : e1 ≤ e0) (hre : ∀ {l : Launch} {b : Nat} {ex : Nat → Value} {D : va_G} {ca : Nat → ClassId} {σ : zSt} {a : Nat} {w : Int32} {z : Int32 × zSt}, re σ a w = some z → zMT l b ex D ca e0 y_T_either c_T_either n_T_either r_ret_T_either [.ref a, .int w] σ (some (.int z.1)) z.2 0 0) (hrec : ∀ {σ : zSt} {a : Nat} {w : Int32} {z : Int32 × zSt}, re σ a w = some z → σ.1[a]? = some (0, 9)) (hrs : ∀ {l : Launch} {b : Nat} {ex : Nat → Value} {D : va_G} {ca : Nat → ClassId} {σ : zSt} {a : Nat} {w : Int32} {z : Int32 × zSt}, rs σ a w = some z → zMT l b ex D ca e1 y_T_single c_T_single n_T_single r_ret_T_single [.ref a, .int w] σ (some (.int z.1)) z.2 0 0) (hrsc : ∀ {σ : zSt} {a : Nat} {w : Int32} {z : Int32 × zSt}, rs σ a w = some z → σ.1[a]? = some (0, 9)) : ∀ (n : Nat) {σ : zSt} {v0 : Nat} {v1 : Int32} {v2 : Int32} {z : Int32 × zSt}, f_T_sum_12L re rs n σ v0 v1 v2 = some z → zRX X 0 0 (some (.int z.1)) z.2 → zPJ X 0 0 12 [(0, .ref v0), (1, .int v1), (2, .int v2)] [] σ
  | 0 => fun h _ => by cases h
  | n + 1 => fun h hr => r_T_sum_12 o he he1 hre hrec hrs hrsc (r_T_sum_12L o he he1 hre hrec hrs hrsc  n) h hr
def f_T_sum (re rs : zSt → Nat → Int32 → Option (Int32 × zSt)) (σ : zSt) (t : Nat) (p0 : Int32) : Option (Int32 × zSt) :=
zg σ 9 t (
((f_T_product re rs σ t p0).bind fun q1 =>
if q1.1 = 0 then (
some (0, q1.2)) else
f_T_sum_12L re rs zfu q1.2 t p0 0).bind fun q => (zbool q.1).bind fun x => some (x, q.2))
set_option maxRecDepth 100000 in
set_option maxHeartbeats 4000000 in
theorem m_T_sum {re rs : zSt → Nat → Int32 → Option (Int32 × zSt)} {e0 e1 : Nat} (he : 9 ≤ e0) (he1 : e1 ≤ e0) (hre : ∀ {l : Launch} {b : Nat} {ex : Nat → Value} {D : va_G} {ca : Nat → ClassId} {σ : zSt} {a : Nat} {w : Int32} {z : Int32 × zSt}, re σ a w = some z → zMT l b ex D ca e0 y_T_either c_T_either n_T_either r_ret_T_either [.ref a, .int w] σ (some (.int z.1)) z.2 0 0) (hrec : ∀ {σ : zSt} {a : Nat} {w : Int32} {z : Int32 × zSt}, re σ a w = some z → σ.1[a]? = some (0, 9)) (hrs : ∀ {l : Launch} {b : Nat} {ex : Nat → Value} {D : va_G} {ca : Nat → ClassId} {σ : zSt} {a : Nat} {w : Int32} {z : Int32 × zSt}, rs σ a w = some z → zMT l b ex D ca e1 y_T_single c_T_single n_T_single r_ret_T_single [.ref a, .int w] σ (some (.int z.1)) z.2 0 0) (hrsc : ∀ {σ : zSt} {a : Nat} {w : Int32} {z : Int32 × zSt}, rs σ a w = some z → σ.1[a]? = some (0, 9)) {l : Launch} {b : Nat} {ex : Nat → Value} {D : va_G} {ca : Nat → ClassId} {σ : zSt} {t : Nat} {p0 : Int32} {z : Int32 × zSt} (h : f_T_sum re rs σ t p0 = some z) : zMT l b ex D ca (e0 + 3) y_T_sum c_T_sum n_T_sum r_ret_T_sum [.ref t, .int p0] σ (some (.int z.1)) z.2 0 0 := by
  obtain ⟨_, hg0⟩ := zg_some h
  obtain ⟨z0, hbd, hz⟩ := zbd hg0
  obtain ⟨z1, hz1, hzz⟩ := zbd hz
  obtain ⟨hzb, rfl⟩ := zbool_some hz1
  cases hzz
  have h := hbd
  refine zmt_of (by decide) (Nat.le_of_ble_eq_true rfl) ⟨.boolean, rfl, zb_nar hzb⟩ (fun X o hin hrm _ _ _ _ _ hr => ?_)
  have hr := hr 0 0 (by decide) (by decide)
  have o : zOK X "WantShelves$Teller" c_T_sum n_T_sum (e0 + 3) := o
  change zPJ X 0 0 0 [(0, .ref t), (1, .int p0)] [] σ
  refine zj_aload_n o (zdd k_T_sum 0 rfl) rfl 0 rfl ?_
  refine zj_iload_n o (zdd k_T_sum 1 rfl) rfl 1 rfl ?_
  obtain ⟨q1, e_q1, h⟩ := zbd h
  refine zc_V o (zdd k_T_sum 2 rfl) ml_T_174 mv_T_product ⟨rfl, by decide⟩ (zg_some e_q1).1 (by omega) [.int p0] [] rfl (Nat.le_of_ble_eq_true rfl) rfl (m_T_product he he1 hre hrec hrs hrsc e_q1) ?_
  change zPJ X 0 0 _ _ [.int q1.1] _
  refine zj_if_ne (tgt := 10) o (zdd k_T_sum 3 rfl) (by decide) (fun hc => ?_) (fun hc => ?_)
  · rw [if_neg hc] at h
    refine zj_iconst o (zdd k_T_sum 6 rfl) zki_0 ?_
    refine zj_istore_n (loc' := [(2, .int 0), (0, .ref t), (1, .int p0)]) o (zdd k_T_sum 7 rfl) rfl (by decide) rfl ?_
    exact zj_sub [1, 2, 0] rfl (r_T_sum_12L o he he1 hre hrec hrs hrsc  zfu h hr)
  · rw [if_pos hc] at h
    refine zj_iconst o (zdd k_T_sum 4 rfl) zki_0 ?_
    cases h
    exact zr_i o hr (zdd k_T_sum 5 rfl)
def f_T_single_91 (re rs : zSt → Nat → Int32 → Option (Int32 × zSt)) (σ : zSt) (v0 : Nat) (v1 : Int32) (v2 : Int32) : Option (Int32 × zSt) :=
(zgP σ 9 v0 2).bind fun a1 =>
(f_C_advance σ a1).bind fun σ2 =>
(f_T_sum re rs σ2 v0 v1).bind fun q3 =>
if q3.1 = 0 then (
some (0, q3.2)) else
(zgP q3.2 9 v0 7).bind fun a4 =>
(f_F_add q3.2 a4 (-v2)).bind fun σ5 =>
some (1, σ5)
set_option maxRecDepth 100000 in
set_option maxHeartbeats 4000000 in
theorem r_T_single_91 {X : zCX} {e0 e1 : Nat} (o : zOK X "WantShelves$Teller" c_T_single n_T_single (e0 + 4)) {re rs : zSt → Nat → Int32 → Option (Int32 × zSt)} (he : 9 ≤ e0) (he1 : e1 ≤ e0) (hre : ∀ {l : Launch} {b : Nat} {ex : Nat → Value} {D : va_G} {ca : Nat → ClassId} {σ : zSt} {a : Nat} {w : Int32} {z : Int32 × zSt}, re σ a w = some z → zMT l b ex D ca e0 y_T_either c_T_either n_T_either r_ret_T_either [.ref a, .int w] σ (some (.int z.1)) z.2 0 0) (hrec : ∀ {σ : zSt} {a : Nat} {w : Int32} {z : Int32 × zSt}, re σ a w = some z → σ.1[a]? = some (0, 9)) (hrs : ∀ {l : Launch} {b : Nat} {ex : Nat → Value} {D : va_G} {ca : Nat → ClassId} {σ : zSt} {a : Nat} {w : Int32} {z : Int32 × zSt}, rs σ a w = some z → zMT l b ex D ca e1 y_T_single c_T_single n_T_single r_ret_T_single [.ref a, .int w] σ (some (.int z.1)) z.2 0 0) (hrsc : ∀ {σ : zSt} {a : Nat} {w : Int32} {z : Int32 × zSt}, rs σ a w = some z → σ.1[a]? = some (0, 9)) {σ : zSt} {v0 : Nat} {v1 : Int32} {v2 : Int32} {z : Int32 × zSt} (h : f_T_single_91 re rs σ v0 v1 v2 = some z) (hr : zRX X 0 0 (some (.int z.1)) z.2) : zPJ X 0 0 91 [(0, .ref v0), (1, .int v1), (2, .int v2)] [] σ := by
  unfold f_T_single_91 at h
  refine zj_aload_n o (zdd k_T_single 49 rfl) rfl 0 rfl ?_
  obtain ⟨a1, e_a1, h⟩ := zbd h
  refine zj_gP o (zdd k_T_single 50 rfl) fl_T_18 rfl e_a1 ?_
  obtain ⟨σ2, e_σ2, h⟩ := zbd h
  refine zc_V o (zdd k_T_single 51 rfl) ml_T_102 mv_C_advance ⟨rfl, by decide⟩ (zg_some e_σ2).1 (by omega) [] [] rfl (Nat.le_of_ble_eq_true rfl) rfl (m_C_advance e_σ2) ?_
  change zPJ X 0 0 _ _ [] _
  refine zj_aload_n o (zdd k_T_single 52 rfl) rfl 0 rfl ?_
  refine zj_iload_n o (zdd k_T_single 53 rfl) rfl 1 rfl ?_
  obtain ⟨q3, e_q3, h⟩ := zbd h
  refine zc_V o (zdd k_T_single 54 rfl) ml_T_171 mv_T_sum ⟨rfl, by decide⟩ (zg_some e_q3).1 (by omega) [.int v1] [] rfl (Nat.le_of_ble_eq_true rfl) rfl (m_T_sum he he1 hre hrec hrs hrsc e_q3) ?_
  change zPJ X 0 0 _ _ [.int q3.1] _
  refine zj_if_ne (tgt := 108) o (zdd k_T_single 55 rfl) (by decide) (fun hc => ?_) (fun hc => ?_)
  · rw [if_neg hc] at h
    refine zj_aload_n o (zdd k_T_single 58 rfl) rfl 0 rfl ?_
    obtain ⟨a4, e_a4, h⟩ := zbd h
    refine zj_gP o (zdd k_T_single 59 rfl) fl_T_42 rfl e_a4 ?_
    refine zj_iload_n o (zdd k_T_single 60 rfl) rfl 2 rfl ?_
    refine zj_ineg o (zdd k_T_single 61 rfl) ?_
    obtain ⟨σ5, e_σ5, h⟩ := zbd h
    refine zc_V o (zdd k_T_single 62 rfl) ml_T_164 mv_F_add ⟨rfl, by decide⟩ (zg_some e_σ5).1 (by omega) [.int (-v2)] [] rfl (Nat.le_of_ble_eq_true rfl) rfl (m_F_add e_σ5) ?_
    change zPJ X 0 0 _ _ [] _
    refine zj_iconst o (zdd k_T_single 63 rfl) zki_1 ?_
    cases h
    exact zr_i o hr (zdd k_T_single 64 rfl)
  · rw [if_pos hc] at h
    refine zj_iconst o (zdd k_T_single 56 rfl) zki_0 ?_
    cases h
    exact zr_i o hr (zdd k_T_single 57 rfl)
def f_T_single (re rs : zSt → Nat → Int32 → Option (Int32 × zSt)) (σ : zSt) (t : Nat) (p0 : Int32) : Option (Int32 × zSt) :=
zg σ 9 t (
((zgP σ 9 t 2).bind fun a1 =>
(zgI σ 7 a1 0).bind fun x2 =>
if x2 = 20 then (
if p0 ≤ 6 then (
(zgP σ 9 t 2).bind fun a6 =>
(f_C_advance σ a6).bind fun σ7 =>
(rs σ7 t (p0 + 1)).bind fun q8 =>
if q8.1 = 0 then (
some (0, q8.2)) else
(zgP q8.2 9 t 7).bind fun a9 =>
(f_F_add q8.2 a9 (-13)).bind fun σ10 =>
some (1, σ10)) else
(f_T_refuse σ t).bind fun q11 =>
some (q11.1, q11.2)) else
(f_T_sum re rs σ t p0).bind fun q3 =>
if q3.1 = 0 then (
some (0, q3.2)) else
(zgP q3.2 9 t 2).bind fun a4 =>
(zgI q3.2 7 a4 0).bind fun x5 =>
if x5 = 60 then (
f_T_single_91 re rs q3.2 t p0 x5) else
if x5 = 62 then (
f_T_single_91 re rs q3.2 t p0 x5) else
if x5 = 61 then (
f_T_single_91 re rs q3.2 t p0 x5) else
some (1, q3.2)).bind fun q => (zbool q.1).bind fun x => some (x, q.2))
set_option maxRecDepth 100000 in
set_option maxHeartbeats 4000000 in
theorem m_T_single {re rs : zSt → Nat → Int32 → Option (Int32 × zSt)} {e0 e1 : Nat} (he : 9 ≤ e0) (he1 : e1 ≤ e0) (hre : ∀ {l : Launch} {b : Nat} {ex : Nat → Value} {D : va_G} {ca : Nat → ClassId} {σ : zSt} {a : Nat} {w : Int32} {z : Int32 × zSt}, re σ a w = some z → zMT l b ex D ca e0 y_T_either c_T_either n_T_either r_ret_T_either [.ref a, .int w] σ (some (.int z.1)) z.2 0 0) (hrec : ∀ {σ : zSt} {a : Nat} {w : Int32} {z : Int32 × zSt}, re σ a w = some z → σ.1[a]? = some (0, 9)) (hrs : ∀ {l : Launch} {b : Nat} {ex : Nat → Value} {D : va_G} {ca : Nat → ClassId} {σ : zSt} {a : Nat} {w : Int32} {z : Int32 × zSt}, rs σ a w = some z → zMT l b ex D ca e1 y_T_single c_T_single n_T_single r_ret_T_single [.ref a, .int w] σ (some (.int z.1)) z.2 0 0) (hrsc : ∀ {σ : zSt} {a : Nat} {w : Int32} {z : Int32 × zSt}, rs σ a w = some z → σ.1[a]? = some (0, 9)) {l : Launch} {b : Nat} {ex : Nat → Value} {D : va_G} {ca : Nat → ClassId} {σ : zSt} {t : Nat} {p0 : Int32} {z : Int32 × zSt} (h : f_T_single re rs σ t p0 = some z) : zMT l b ex D ca (e0 + 4) y_T_single c_T_single n_T_single r_ret_T_single [.ref t, .int p0] σ (some (.int z.1)) z.2 0 0 := by
  obtain ⟨_, hg0⟩ := zg_some h
  obtain ⟨z0, hbd, hz⟩ := zbd hg0
  obtain ⟨z1, hz1, hzz⟩ := zbd hz
  obtain ⟨hzb, rfl⟩ := zbool_some hz1
  cases hzz
  have h := hbd
  refine zmt_of (by decide) (Nat.le_of_ble_eq_true rfl) ⟨.boolean, rfl, zb_nar hzb⟩ (fun X o hin hrm _ _ _ _ _ hr => ?_)
  have hr := hr 0 0 (by decide) (by decide)
  have o : zOK X "WantShelves$Teller" c_T_single n_T_single (e0 + 4) := o
  change zPJ X 0 0 0 [(0, .ref t), (1, .int p0)] [] σ
  refine zj_aload_n o (zdd k_T_single 0 rfl) rfl 0 rfl ?_
  obtain ⟨a1, e_a1, h⟩ := zbd h
  refine zj_gP o (zdd k_T_single 1 rfl) fl_T_18 rfl e_a1 ?_
  obtain ⟨x2, e_x2, h⟩ := zbd h
  refine zj_gI o (zdd k_T_single 2 rfl) fl_T_58 rfl e_x2 ?_
  refine zj_bipush o (zdd k_T_single 3 rfl) zkb_20 ?_
  refine zj_icmp_ne (tgt := 53) o (zdd k_T_single 4 rfl) (by decide) (fun hc => ?_) (fun hc => ?_)
  · rw [if_neg hc] at h
    refine zj_aload_n o (zdd k_T_single 28 rfl) rfl 0 rfl ?_
    refine zj_iload_n o (zdd k_T_single 29 rfl) rfl 1 rfl ?_
    obtain ⟨q3, e_q3, h⟩ := zbd h
    refine zc_V o (zdd k_T_single 30 rfl) ml_T_171 mv_T_sum ⟨rfl, by decide⟩ (zg_some e_q3).1 (by omega) [.int p0] [] rfl (Nat.le_of_ble_eq_true rfl) rfl (m_T_sum he he1 hre hrec hrs hrsc e_q3) ?_
    change zPJ X 0 0 _ _ [.int q3.1] _
    refine zj_if_ne (tgt := 63) o (zdd k_T_single 31 rfl) (by decide) (fun hc => ?_) (fun hc => ?_)
    · rw [if_neg hc] at h
      refine zj_aload_n o (zdd k_T_single 34 rfl) rfl 0 rfl ?_
      obtain ⟨a4, e_a4, h⟩ := zbd h
      refine zj_gP o (zdd k_T_single 35 rfl) fl_T_18 rfl e_a4 ?_
      obtain ⟨x5, e_x5, h⟩ := zbd h
      refine zj_gI o (zdd k_T_single 36 rfl) fl_T_58 rfl e_x5 ?_
      refine zj_istore_n (loc' := [(2, .int x5), (0, .ref t), (1, .int p0)]) o (zdd k_T_single 37 rfl) rfl (by decide) rfl ?_
      refine zj_iload_n o (zdd k_T_single 38 rfl) rfl 0 rfl ?_
      refine zj_bipush o (zdd k_T_single 39 rfl) zkb_60 ?_
      refine zj_icmp_eq (tgt := 91) o (zdd k_T_single 40 rfl) (by decide) (fun hc => ?_) (fun hc => ?_)
      · rw [if_pos hc] at h
        exact zj_sub [1, 2, 0] rfl (r_T_single_91 o he he1 hre hrec hrs hrsc  h hr)
      · rw [if_neg hc] at h
        refine zj_iload_n o (zdd k_T_single 41 rfl) rfl 0 rfl ?_
        refine zj_bipush o (zdd k_T_single 42 rfl) zkb_62 ?_
        refine zj_icmp_eq (tgt := 91) o (zdd k_T_single 43 rfl) (by decide) (fun hc => ?_) (fun hc => ?_)
        · rw [if_pos hc] at h
          exact zj_sub [1, 2, 0] rfl (r_T_single_91 o he he1 hre hrec hrs hrsc  h hr)
        · rw [if_neg hc] at h
          refine zj_iload_n o (zdd k_T_single 44 rfl) rfl 0 rfl ?_
          refine zj_bipush o (zdd k_T_single 45 rfl) zkb_61 ?_
          refine zj_icmp_eq (tgt := 91) o (zdd k_T_single 46 rfl) (by decide) (fun hc => ?_) (fun hc => ?_)
          · rw [if_pos hc] at h
            exact zj_sub [1, 2, 0] rfl (r_T_single_91 o he he1 hre hrec hrs hrsc  h hr)
          · rw [if_neg hc] at h
            refine zj_iconst o (zdd k_T_single 47 rfl) zki_1 ?_
            cases h
            exact zr_i o hr (zdd k_T_single 48 rfl)
    · rw [if_pos hc] at h
      refine zj_iconst o (zdd k_T_single 32 rfl) zki_0 ?_
      cases h
      exact zr_i o hr (zdd k_T_single 33 rfl)
  · rw [if_pos hc] at h
    refine zj_iload_n o (zdd k_T_single 5 rfl) rfl 1 rfl ?_
    refine zj_bipush o (zdd k_T_single 6 rfl) zkb_6 ?_
    refine zj_icmp_le (tgt := 23) o (zdd k_T_single 7 rfl) (by decide) (fun hc => ?_) (fun hc => ?_)
    · rw [if_pos hc] at h
      refine zj_aload_n o (zdd k_T_single 11 rfl) rfl 0 rfl ?_
      obtain ⟨a6, e_a6, h⟩ := zbd h
      refine zj_gP o (zdd k_T_single 12 rfl) fl_T_18 rfl e_a6 ?_
      obtain ⟨σ7, e_σ7, h⟩ := zbd h
      refine zc_V o (zdd k_T_single 13 rfl) ml_T_102 mv_C_advance ⟨rfl, by decide⟩ (zg_some e_σ7).1 (by omega) [] [] rfl (Nat.le_of_ble_eq_true rfl) rfl (m_C_advance e_σ7) ?_
      change zPJ X 0 0 _ _ [] _
      refine zj_aload_n o (zdd k_T_single 14 rfl) rfl 0 rfl ?_
      refine zj_iload_n o (zdd k_T_single 15 rfl) rfl 1 rfl ?_
      refine zj_iconst o (zdd k_T_single 16 rfl) zki_1 ?_
      refine zj_iadd o (zdd k_T_single 17 rfl) ?_
      obtain ⟨q8, e_q8, h⟩ := zbd h
      refine zc_V o (zdd k_T_single 18 rfl) ml_T_168 mv_T_single ⟨rfl, by decide⟩ (hrsc e_q8) (by omega) [.int (p0 + 1)] [] rfl (Nat.le_of_ble_eq_true rfl) rfl (hrs e_q8) ?_
      change zPJ X 0 0 _ _ [.int q8.1] _
      refine zj_if_ne (tgt := 42) o (zdd k_T_single 19 rfl) (by decide) (fun hc => ?_) (fun hc => ?_)
      · rw [if_neg hc] at h
        refine zj_aload_n o (zdd k_T_single 22 rfl) rfl 0 rfl ?_
        obtain ⟨a9, e_a9, h⟩ := zbd h
        refine zj_gP o (zdd k_T_single 23 rfl) fl_T_42 rfl e_a9 ?_
        refine zj_bipush o (zdd k_T_single 24 rfl) zkb_m13 ?_
        obtain ⟨σ10, e_σ10, h⟩ := zbd h
        refine zc_V o (zdd k_T_single 25 rfl) ml_T_164 mv_F_add ⟨rfl, by decide⟩ (zg_some e_σ10).1 (by omega) [.int (-13)] [] rfl (Nat.le_of_ble_eq_true rfl) rfl (m_F_add e_σ10) ?_
        change zPJ X 0 0 _ _ [] _
        refine zj_iconst o (zdd k_T_single 26 rfl) zki_1 ?_
        cases h
        exact zr_i o hr (zdd k_T_single 27 rfl)
      · rw [if_pos hc] at h
        refine zj_iconst o (zdd k_T_single 20 rfl) zki_0 ?_
        cases h
        exact zr_i o hr (zdd k_T_single 21 rfl)
    · rw [if_neg hc] at h
      refine zj_aload_n o (zdd k_T_single 8 rfl) rfl 0 rfl ?_
      obtain ⟨q11, e_q11, h⟩ := zbd h
      refine zc_V o (zdd k_T_single 9 rfl) ml_T_68 mv_T_refuse ⟨rfl, by decide⟩ (zg_some e_q11).1 (by omega) [] [] rfl (Nat.le_of_ble_eq_true rfl) rfl (m_T_refuse e_q11) ?_
      change zPJ X 0 0 _ _ [.int q11.1] _
      cases h
      exact zr_i o hr (zdd k_T_single 10 rfl)
def f_T_both_12 (re rs : zSt → Nat → Int32 → Option (Int32 × zSt)) (k12 : zSt → Nat → Int32 → Int32 → Option (Int32 × zSt)) (σ : zSt) (v0 : Nat) (v1 : Int32) (v2 : Int32) : Option (Int32 × zSt) :=
if 30 ≤ v2 then (
some (1, σ)) else
(zgP σ 9 v0 2).bind fun a1 =>
(zgI σ 7 a1 0).bind fun x2 =>
if x2 = 19 then (
(zgP σ 9 v0 2).bind fun a3 =>
(f_C_advance σ a3).bind fun σ4 =>
(f_T_single re rs σ4 v0 v1).bind fun q5 =>
if q5.1 = 0 then (
some (0, q5.2)) else
(zgP q5.2 9 v0 7).bind fun a6 =>
(f_F_add q5.2 a6 (-12)).bind fun σ7 =>
k12 σ7 v0 v1 (v2 + 1)) else
some (1, σ)
set_option maxRecDepth 100000 in
set_option maxHeartbeats 4000000 in
theorem r_T_both_12 {X : zCX} {e0 e1 : Nat} (o : zOK X "WantShelves$Teller" c_T_both n_T_both (e0 + 5)) {re rs : zSt → Nat → Int32 → Option (Int32 × zSt)} (he : 9 ≤ e0) (he1 : e1 ≤ e0) (hre : ∀ {l : Launch} {b : Nat} {ex : Nat → Value} {D : va_G} {ca : Nat → ClassId} {σ : zSt} {a : Nat} {w : Int32} {z : Int32 × zSt}, re σ a w = some z → zMT l b ex D ca e0 y_T_either c_T_either n_T_either r_ret_T_either [.ref a, .int w] σ (some (.int z.1)) z.2 0 0) (hrec : ∀ {σ : zSt} {a : Nat} {w : Int32} {z : Int32 × zSt}, re σ a w = some z → σ.1[a]? = some (0, 9)) (hrs : ∀ {l : Launch} {b : Nat} {ex : Nat → Value} {D : va_G} {ca : Nat → ClassId} {σ : zSt} {a : Nat} {w : Int32} {z : Int32 × zSt}, rs σ a w = some z → zMT l b ex D ca e1 y_T_single c_T_single n_T_single r_ret_T_single [.ref a, .int w] σ (some (.int z.1)) z.2 0 0) (hrsc : ∀ {σ : zSt} {a : Nat} {w : Int32} {z : Int32 × zSt}, rs σ a w = some z → σ.1[a]? = some (0, 9)) {k12 : zSt → Nat → Int32 → Int32 → Option (Int32 × zSt)} (hk12 : ∀ {σ : zSt} {v0 : Nat} {v1 : Int32} {v2 : Int32} {z : Int32 × zSt}, k12 σ v0 v1 v2 = some z → zRX X 0 0 (some (.int z.1)) z.2 → zPJ X 0 0 12 [(0, .ref v0), (1, .int v1), (2, .int v2)] [] σ) {σ : zSt} {v0 : Nat} {v1 : Int32} {v2 : Int32} {z : Int32 × zSt} (h : f_T_both_12 re rs k12 σ v0 v1 v2 = some z) (hr : zRX X 0 0 (some (.int z.1)) z.2) : zPJ X 0 0 12 [(0, .ref v0), (1, .int v1), (2, .int v2)] [] σ := by
  unfold f_T_both_12 at h
  refine zj_iload_n o (zdd k_T_both 8 rfl) rfl 2 rfl ?_
  refine zj_bipush o (zdd k_T_both 9 rfl) zkb_30 ?_
  refine zj_icmp_ge (tgt := 62) o (zdd k_T_both 10 rfl) (by decide) (fun hc => ?_) (fun hc => ?_)
  · rw [if_pos hc] at h
    refine zj_iconst o (zdd k_T_both 31 rfl) zki_1 ?_
    cases h
    exact zr_i o hr (zdd k_T_both 32 rfl)
  · rw [if_neg hc] at h
    refine zj_aload_n o (zdd k_T_both 11 rfl) rfl 0 rfl ?_
    obtain ⟨a1, e_a1, h⟩ := zbd h
    refine zj_gP o (zdd k_T_both 12 rfl) fl_T_18 rfl e_a1 ?_
    obtain ⟨x2, e_x2, h⟩ := zbd h
    refine zj_gI o (zdd k_T_both 13 rfl) fl_T_58 rfl e_x2 ?_
    refine zj_bipush o (zdd k_T_both 14 rfl) zkb_19 ?_
    refine zj_icmp_ne (tgt := 62) o (zdd k_T_both 15 rfl) (by decide) (fun hc => ?_) (fun hc => ?_)
    · rw [if_neg hc] at h
      refine zj_iconst o (zdd k_T_both 31 rfl) zki_1 ?_
      cases h
      exact zr_i o hr (zdd k_T_both 32 rfl)
    · rw [if_pos hc] at h
      refine zj_aload_n o (zdd k_T_both 16 rfl) rfl 0 rfl ?_
      obtain ⟨a3, e_a3, h⟩ := zbd h
      refine zj_gP o (zdd k_T_both 17 rfl) fl_T_18 rfl e_a3 ?_
      obtain ⟨σ4, e_σ4, h⟩ := zbd h
      refine zc_V o (zdd k_T_both 18 rfl) ml_T_102 mv_C_advance ⟨rfl, by decide⟩ (zg_some e_σ4).1 (by omega) [] [] rfl (Nat.le_of_ble_eq_true rfl) rfl (m_C_advance e_σ4) ?_
      change zPJ X 0 0 _ _ [] _
      refine zj_aload_n o (zdd k_T_both 19 rfl) rfl 0 rfl ?_
      refine zj_iload_n o (zdd k_T_both 20 rfl) rfl 1 rfl ?_
      obtain ⟨q5, e_q5, h⟩ := zbd h
      refine zc_V o (zdd k_T_both 21 rfl) ml_T_168 mv_T_single ⟨rfl, by decide⟩ (zg_some e_q5).1 (by omega) [.int v1] [] rfl (Nat.le_of_ble_eq_true rfl) rfl (m_T_single he he1 hre hrec hrs hrsc e_q5) ?_
      change zPJ X 0 0 _ _ [.int q5.1] _
      refine zj_if_ne (tgt := 47) o (zdd k_T_both 22 rfl) (by decide) (fun hc => ?_) (fun hc => ?_)
      · rw [if_neg hc] at h
        refine zj_aload_n o (zdd k_T_both 25 rfl) rfl 0 rfl ?_
        obtain ⟨a6, e_a6, h⟩ := zbd h
        refine zj_gP o (zdd k_T_both 26 rfl) fl_T_42 rfl e_a6 ?_
        refine zj_bipush o (zdd k_T_both 27 rfl) zkb_m12 ?_
        obtain ⟨σ7, e_σ7, h⟩ := zbd h
        refine zc_V o (zdd k_T_both 28 rfl) ml_T_164 mv_F_add ⟨rfl, by decide⟩ (zg_some e_σ7).1 (by omega) [.int (-12)] [] rfl (Nat.le_of_ble_eq_true rfl) rfl (m_F_add e_σ7) ?_
        change zPJ X 0 0 _ _ [] _
        refine zj_iinc (v := v2 + 1) (loc' := [(2, .int (v2 + 1)), (0, .ref v0), (1, .int v1)]) o (zdd k_T_both 29 rfl) 2 rfl (by rw [zki_1]) (by decide) rfl ?_
        refine zj_goto (tgt := 12) o (zdd k_T_both 30 rfl) (by decide) ?_
        exact zj_sub [1, 2, 0] rfl (hk12 h hr)
      · rw [if_pos hc] at h
        refine zj_iconst o (zdd k_T_both 23 rfl) zki_0 ?_
        cases h
        exact zr_i o hr (zdd k_T_both 24 rfl)
def f_T_both_12L (re rs : zSt → Nat → Int32 → Option (Int32 × zSt)) : Nat → zSt → Nat → Int32 → Int32 → Option (Int32 × zSt)
  | 0 => fun _ _ _ _ => none
  | n + 1 => f_T_both_12 re rs (f_T_both_12L re rs n)
theorem r_T_both_12L {X : zCX} {e0 e1 : Nat} (o : zOK X "WantShelves$Teller" c_T_both n_T_both (e0 + 5)) {re rs : zSt → Nat → Int32 → Option (Int32 × zSt)} (he : 9 ≤ e0) (he1 : e1 ≤ e0) (hre : ∀ {l : Launch} {b : Nat} {ex : Nat → Value} {D : va_G} {ca : Nat → ClassId} {σ : zSt} {a : Nat} {w : Int32} {z : Int32 × zSt}, re σ a w = some z → zMT l b ex D ca e0 y_T_either c_T_either n_T_either r_ret_T_either [.ref a, .int w] σ (some (.int z.1)) z.2 0 0) (hrec : ∀ {σ : zSt} {a : Nat} {w : Int32} {z : Int32 × zSt}, re σ a w = some z → σ.1[a]? = some (0, 9)) (hrs : ∀ {l : Launch} {b : Nat} {ex : Nat → Value} {D : va_G} {ca : Nat → ClassId} {σ : zSt} {a : Nat} {w : Int32} {z : Int32 × zSt}, rs σ a w = some z → zMT l b ex D ca e1 y_T_single c_T_single n_T_single r_ret_T_single [.ref a, .int w] σ (some (.int z.1)) z.2 0 0) (hrsc : ∀ {σ : zSt} {a : Nat} {w : Int32} {z : Int32 × zSt}, rs σ a w = some z → σ.1[a]? = some (0, 9)) : ∀ (n : Nat) {σ : zSt} {v0 : Nat} {v1 : Int32} {v2 : Int32} {z : Int32 × zSt}, f_T_both_12L re rs n σ v0 v1 v2 = some z → zRX X 0 0 (some (.int z.1)) z.2 → zPJ X 0 0 12 [(0, .ref v0), (1, .int v1), (2, .int v2)] [] σ
  | 0 => fun h _ => by cases h
  | n + 1 => fun h hr => r_T_both_12 o he he1 hre hrec hrs hrsc (r_T_both_12L o he he1 hre hrec hrs hrsc  n) h hr
def f_T_both (re rs : zSt → Nat → Int32 → Option (Int32 × zSt)) (σ : zSt) (t : Nat) (p0 : Int32) : Option (Int32 × zSt) :=
zg σ 9 t (
((f_T_single re rs σ t p0).bind fun q1 =>
if q1.1 = 0 then (
some (0, q1.2)) else
f_T_both_12L re rs zfu q1.2 t p0 0).bind fun q => (zbool q.1).bind fun x => some (x, q.2))
set_option maxRecDepth 100000 in
set_option maxHeartbeats 4000000 in
theorem m_T_both {re rs : zSt → Nat → Int32 → Option (Int32 × zSt)} {e0 e1 : Nat} (he : 9 ≤ e0) (he1 : e1 ≤ e0) (hre : ∀ {l : Launch} {b : Nat} {ex : Nat → Value} {D : va_G} {ca : Nat → ClassId} {σ : zSt} {a : Nat} {w : Int32} {z : Int32 × zSt}, re σ a w = some z → zMT l b ex D ca e0 y_T_either c_T_either n_T_either r_ret_T_either [.ref a, .int w] σ (some (.int z.1)) z.2 0 0) (hrec : ∀ {σ : zSt} {a : Nat} {w : Int32} {z : Int32 × zSt}, re σ a w = some z → σ.1[a]? = some (0, 9)) (hrs : ∀ {l : Launch} {b : Nat} {ex : Nat → Value} {D : va_G} {ca : Nat → ClassId} {σ : zSt} {a : Nat} {w : Int32} {z : Int32 × zSt}, rs σ a w = some z → zMT l b ex D ca e1 y_T_single c_T_single n_T_single r_ret_T_single [.ref a, .int w] σ (some (.int z.1)) z.2 0 0) (hrsc : ∀ {σ : zSt} {a : Nat} {w : Int32} {z : Int32 × zSt}, rs σ a w = some z → σ.1[a]? = some (0, 9)) {l : Launch} {b : Nat} {ex : Nat → Value} {D : va_G} {ca : Nat → ClassId} {σ : zSt} {t : Nat} {p0 : Int32} {z : Int32 × zSt} (h : f_T_both re rs σ t p0 = some z) : zMT l b ex D ca (e0 + 5) y_T_both c_T_both n_T_both r_ret_T_both [.ref t, .int p0] σ (some (.int z.1)) z.2 0 0 := by
  obtain ⟨_, hg0⟩ := zg_some h
  obtain ⟨z0, hbd, hz⟩ := zbd hg0
  obtain ⟨z1, hz1, hzz⟩ := zbd hz
  obtain ⟨hzb, rfl⟩ := zbool_some hz1
  cases hzz
  have h := hbd
  refine zmt_of (by decide) (Nat.le_of_ble_eq_true rfl) ⟨.boolean, rfl, zb_nar hzb⟩ (fun X o hin hrm _ _ _ _ _ hr => ?_)
  have hr := hr 0 0 (by decide) (by decide)
  have o : zOK X "WantShelves$Teller" c_T_both n_T_both (e0 + 5) := o
  change zPJ X 0 0 0 [(0, .ref t), (1, .int p0)] [] σ
  refine zj_aload_n o (zdd k_T_both 0 rfl) rfl 0 rfl ?_
  refine zj_iload_n o (zdd k_T_both 1 rfl) rfl 1 rfl ?_
  obtain ⟨q1, e_q1, h⟩ := zbd h
  refine zc_V o (zdd k_T_both 2 rfl) ml_T_168 mv_T_single ⟨rfl, by decide⟩ (zg_some e_q1).1 (by omega) [.int p0] [] rfl (Nat.le_of_ble_eq_true rfl) rfl (m_T_single he he1 hre hrec hrs hrsc e_q1) ?_
  change zPJ X 0 0 _ _ [.int q1.1] _
  refine zj_if_ne (tgt := 10) o (zdd k_T_both 3 rfl) (by decide) (fun hc => ?_) (fun hc => ?_)
  · rw [if_neg hc] at h
    refine zj_iconst o (zdd k_T_both 6 rfl) zki_0 ?_
    refine zj_istore_n (loc' := [(2, .int 0), (0, .ref t), (1, .int p0)]) o (zdd k_T_both 7 rfl) rfl (by decide) rfl ?_
    exact zj_sub [1, 2, 0] rfl (r_T_both_12L o he he1 hre hrec hrs hrsc  zfu h hr)
  · rw [if_pos hc] at h
    refine zj_iconst o (zdd k_T_both 4 rfl) zki_0 ?_
    cases h
    exact zr_i o hr (zdd k_T_both 5 rfl)
def f_T_either_12 (re rs : zSt → Nat → Int32 → Option (Int32 × zSt)) (k12 : zSt → Nat → Int32 → Int32 → Option (Int32 × zSt)) (σ : zSt) (v0 : Nat) (v1 : Int32) (v2 : Int32) : Option (Int32 × zSt) :=
if 30 ≤ v2 then (
some (1, σ)) else
(zgP σ 9 v0 2).bind fun a1 =>
(zgI σ 7 a1 0).bind fun x2 =>
if x2 = 18 then (
(zgP σ 9 v0 2).bind fun a3 =>
(f_C_advance σ a3).bind fun σ4 =>
(f_T_both re rs σ4 v0 v1).bind fun q5 =>
if q5.1 = 0 then (
some (0, q5.2)) else
(zgP q5.2 9 v0 7).bind fun a6 =>
(f_F_add q5.2 a6 (-11)).bind fun σ7 =>
k12 σ7 v0 v1 (v2 + 1)) else
some (1, σ)
set_option maxRecDepth 100000 in
set_option maxHeartbeats 4000000 in
theorem r_T_either_12 {X : zCX} {e0 e1 : Nat} (o : zOK X "WantShelves$Teller" c_T_either n_T_either (e0 + 6)) {re rs : zSt → Nat → Int32 → Option (Int32 × zSt)} (he : 9 ≤ e0) (he1 : e1 ≤ e0) (hre : ∀ {l : Launch} {b : Nat} {ex : Nat → Value} {D : va_G} {ca : Nat → ClassId} {σ : zSt} {a : Nat} {w : Int32} {z : Int32 × zSt}, re σ a w = some z → zMT l b ex D ca e0 y_T_either c_T_either n_T_either r_ret_T_either [.ref a, .int w] σ (some (.int z.1)) z.2 0 0) (hrec : ∀ {σ : zSt} {a : Nat} {w : Int32} {z : Int32 × zSt}, re σ a w = some z → σ.1[a]? = some (0, 9)) (hrs : ∀ {l : Launch} {b : Nat} {ex : Nat → Value} {D : va_G} {ca : Nat → ClassId} {σ : zSt} {a : Nat} {w : Int32} {z : Int32 × zSt}, rs σ a w = some z → zMT l b ex D ca e1 y_T_single c_T_single n_T_single r_ret_T_single [.ref a, .int w] σ (some (.int z.1)) z.2 0 0) (hrsc : ∀ {σ : zSt} {a : Nat} {w : Int32} {z : Int32 × zSt}, rs σ a w = some z → σ.1[a]? = some (0, 9)) {k12 : zSt → Nat → Int32 → Int32 → Option (Int32 × zSt)} (hk12 : ∀ {σ : zSt} {v0 : Nat} {v1 : Int32} {v2 : Int32} {z : Int32 × zSt}, k12 σ v0 v1 v2 = some z → zRX X 0 0 (some (.int z.1)) z.2 → zPJ X 0 0 12 [(0, .ref v0), (1, .int v1), (2, .int v2)] [] σ) {σ : zSt} {v0 : Nat} {v1 : Int32} {v2 : Int32} {z : Int32 × zSt} (h : f_T_either_12 re rs k12 σ v0 v1 v2 = some z) (hr : zRX X 0 0 (some (.int z.1)) z.2) : zPJ X 0 0 12 [(0, .ref v0), (1, .int v1), (2, .int v2)] [] σ := by
  unfold f_T_either_12 at h
  refine zj_iload_n o (zdd k_T_either 8 rfl) rfl 2 rfl ?_
  refine zj_bipush o (zdd k_T_either 9 rfl) zkb_30 ?_
  refine zj_icmp_ge (tgt := 62) o (zdd k_T_either 10 rfl) (by decide) (fun hc => ?_) (fun hc => ?_)
  · rw [if_pos hc] at h
    refine zj_iconst o (zdd k_T_either 31 rfl) zki_1 ?_
    cases h
    exact zr_i o hr (zdd k_T_either 32 rfl)
  · rw [if_neg hc] at h
    refine zj_aload_n o (zdd k_T_either 11 rfl) rfl 0 rfl ?_
    obtain ⟨a1, e_a1, h⟩ := zbd h
    refine zj_gP o (zdd k_T_either 12 rfl) fl_T_18 rfl e_a1 ?_
    obtain ⟨x2, e_x2, h⟩ := zbd h
    refine zj_gI o (zdd k_T_either 13 rfl) fl_T_58 rfl e_x2 ?_
    refine zj_bipush o (zdd k_T_either 14 rfl) zkb_18 ?_
    refine zj_icmp_ne (tgt := 62) o (zdd k_T_either 15 rfl) (by decide) (fun hc => ?_) (fun hc => ?_)
    · rw [if_neg hc] at h
      refine zj_iconst o (zdd k_T_either 31 rfl) zki_1 ?_
      cases h
      exact zr_i o hr (zdd k_T_either 32 rfl)
    · rw [if_pos hc] at h
      refine zj_aload_n o (zdd k_T_either 16 rfl) rfl 0 rfl ?_
      obtain ⟨a3, e_a3, h⟩ := zbd h
      refine zj_gP o (zdd k_T_either 17 rfl) fl_T_18 rfl e_a3 ?_
      obtain ⟨σ4, e_σ4, h⟩ := zbd h
      refine zc_V o (zdd k_T_either 18 rfl) ml_T_102 mv_C_advance ⟨rfl, by decide⟩ (zg_some e_σ4).1 (by omega) [] [] rfl (Nat.le_of_ble_eq_true rfl) rfl (m_C_advance e_σ4) ?_
      change zPJ X 0 0 _ _ [] _
      refine zj_aload_n o (zdd k_T_either 19 rfl) rfl 0 rfl ?_
      refine zj_iload_n o (zdd k_T_either 20 rfl) rfl 1 rfl ?_
      obtain ⟨q5, e_q5, h⟩ := zbd h
      refine zc_V o (zdd k_T_either 21 rfl) ml_T_161 mv_T_both ⟨rfl, by decide⟩ (zg_some e_q5).1 (by omega) [.int v1] [] rfl (Nat.le_of_ble_eq_true rfl) rfl (m_T_both he he1 hre hrec hrs hrsc e_q5) ?_
      change zPJ X 0 0 _ _ [.int q5.1] _
      refine zj_if_ne (tgt := 47) o (zdd k_T_either 22 rfl) (by decide) (fun hc => ?_) (fun hc => ?_)
      · rw [if_neg hc] at h
        refine zj_aload_n o (zdd k_T_either 25 rfl) rfl 0 rfl ?_
        obtain ⟨a6, e_a6, h⟩ := zbd h
        refine zj_gP o (zdd k_T_either 26 rfl) fl_T_42 rfl e_a6 ?_
        refine zj_bipush o (zdd k_T_either 27 rfl) zkb_m11 ?_
        obtain ⟨σ7, e_σ7, h⟩ := zbd h
        refine zc_V o (zdd k_T_either 28 rfl) ml_T_164 mv_F_add ⟨rfl, by decide⟩ (zg_some e_σ7).1 (by omega) [.int (-11)] [] rfl (Nat.le_of_ble_eq_true rfl) rfl (m_F_add e_σ7) ?_
        change zPJ X 0 0 _ _ [] _
        refine zj_iinc (v := v2 + 1) (loc' := [(2, .int (v2 + 1)), (0, .ref v0), (1, .int v1)]) o (zdd k_T_either 29 rfl) 2 rfl (by rw [zki_1]) (by decide) rfl ?_
        refine zj_goto (tgt := 12) o (zdd k_T_either 30 rfl) (by decide) ?_
        exact zj_sub [1, 2, 0] rfl (hk12 h hr)
      · rw [if_pos hc] at h
        refine zj_iconst o (zdd k_T_either 23 rfl) zki_0 ?_
        cases h
        exact zr_i o hr (zdd k_T_either 24 rfl)
def f_T_either_12L (re rs : zSt → Nat → Int32 → Option (Int32 × zSt)) : Nat → zSt → Nat → Int32 → Int32 → Option (Int32 × zSt)
  | 0 => fun _ _ _ _ => none
  | n + 1 => f_T_either_12 re rs (f_T_either_12L re rs n)
theorem r_T_either_12L {X : zCX} {e0 e1 : Nat} (o : zOK X "WantShelves$Teller" c_T_either n_T_either (e0 + 6)) {re rs : zSt → Nat → Int32 → Option (Int32 × zSt)} (he : 9 ≤ e0) (he1 : e1 ≤ e0) (hre : ∀ {l : Launch} {b : Nat} {ex : Nat → Value} {D : va_G} {ca : Nat → ClassId} {σ : zSt} {a : Nat} {w : Int32} {z : Int32 × zSt}, re σ a w = some z → zMT l b ex D ca e0 y_T_either c_T_either n_T_either r_ret_T_either [.ref a, .int w] σ (some (.int z.1)) z.2 0 0) (hrec : ∀ {σ : zSt} {a : Nat} {w : Int32} {z : Int32 × zSt}, re σ a w = some z → σ.1[a]? = some (0, 9)) (hrs : ∀ {l : Launch} {b : Nat} {ex : Nat → Value} {D : va_G} {ca : Nat → ClassId} {σ : zSt} {a : Nat} {w : Int32} {z : Int32 × zSt}, rs σ a w = some z → zMT l b ex D ca e1 y_T_single c_T_single n_T_single r_ret_T_single [.ref a, .int w] σ (some (.int z.1)) z.2 0 0) (hrsc : ∀ {σ : zSt} {a : Nat} {w : Int32} {z : Int32 × zSt}, rs σ a w = some z → σ.1[a]? = some (0, 9)) : ∀ (n : Nat) {σ : zSt} {v0 : Nat} {v1 : Int32} {v2 : Int32} {z : Int32 × zSt}, f_T_either_12L re rs n σ v0 v1 v2 = some z → zRX X 0 0 (some (.int z.1)) z.2 → zPJ X 0 0 12 [(0, .ref v0), (1, .int v1), (2, .int v2)] [] σ
  | 0 => fun h _ => by cases h
  | n + 1 => fun h hr => r_T_either_12 o he he1 hre hrec hrs hrsc (r_T_either_12L o he he1 hre hrec hrs hrsc  n) h hr
def f_T_either (re rs : zSt → Nat → Int32 → Option (Int32 × zSt)) (σ : zSt) (t : Nat) (p0 : Int32) : Option (Int32 × zSt) :=
zg σ 9 t (
((f_T_both re rs σ t p0).bind fun q1 =>
if q1.1 = 0 then (
some (0, q1.2)) else
f_T_either_12L re rs zfu q1.2 t p0 0).bind fun q => (zbool q.1).bind fun x => some (x, q.2))
set_option maxRecDepth 100000 in
set_option maxHeartbeats 4000000 in
theorem m_T_either {re rs : zSt → Nat → Int32 → Option (Int32 × zSt)} {e0 e1 : Nat} (he : 9 ≤ e0) (he1 : e1 ≤ e0) (hre : ∀ {l : Launch} {b : Nat} {ex : Nat → Value} {D : va_G} {ca : Nat → ClassId} {σ : zSt} {a : Nat} {w : Int32} {z : Int32 × zSt}, re σ a w = some z → zMT l b ex D ca e0 y_T_either c_T_either n_T_either r_ret_T_either [.ref a, .int w] σ (some (.int z.1)) z.2 0 0) (hrec : ∀ {σ : zSt} {a : Nat} {w : Int32} {z : Int32 × zSt}, re σ a w = some z → σ.1[a]? = some (0, 9)) (hrs : ∀ {l : Launch} {b : Nat} {ex : Nat → Value} {D : va_G} {ca : Nat → ClassId} {σ : zSt} {a : Nat} {w : Int32} {z : Int32 × zSt}, rs σ a w = some z → zMT l b ex D ca e1 y_T_single c_T_single n_T_single r_ret_T_single [.ref a, .int w] σ (some (.int z.1)) z.2 0 0) (hrsc : ∀ {σ : zSt} {a : Nat} {w : Int32} {z : Int32 × zSt}, rs σ a w = some z → σ.1[a]? = some (0, 9)) {l : Launch} {b : Nat} {ex : Nat → Value} {D : va_G} {ca : Nat → ClassId} {σ : zSt} {t : Nat} {p0 : Int32} {z : Int32 × zSt} (h : f_T_either re rs σ t p0 = some z) : zMT l b ex D ca (e0 + 6) y_T_either c_T_either n_T_either r_ret_T_either [.ref t, .int p0] σ (some (.int z.1)) z.2 0 0 := by
  obtain ⟨_, hg0⟩ := zg_some h
  obtain ⟨z0, hbd, hz⟩ := zbd hg0
  obtain ⟨z1, hz1, hzz⟩ := zbd hz
  obtain ⟨hzb, rfl⟩ := zbool_some hz1
  cases hzz
  have h := hbd
  refine zmt_of (by decide) (Nat.le_of_ble_eq_true rfl) ⟨.boolean, rfl, zb_nar hzb⟩ (fun X o hin hrm _ _ _ _ _ hr => ?_)
  have hr := hr 0 0 (by decide) (by decide)
  have o : zOK X "WantShelves$Teller" c_T_either n_T_either (e0 + 6) := o
  change zPJ X 0 0 0 [(0, .ref t), (1, .int p0)] [] σ
  refine zj_aload_n o (zdd k_T_either 0 rfl) rfl 0 rfl ?_
  refine zj_iload_n o (zdd k_T_either 1 rfl) rfl 1 rfl ?_
  obtain ⟨q1, e_q1, h⟩ := zbd h
  refine zc_V o (zdd k_T_either 2 rfl) ml_T_161 mv_T_both ⟨rfl, by decide⟩ (zg_some e_q1).1 (by omega) [.int p0] [] rfl (Nat.le_of_ble_eq_true rfl) rfl (m_T_both he he1 hre hrec hrs hrsc e_q1) ?_
  change zPJ X 0 0 _ _ [.int q1.1] _
  refine zj_if_ne (tgt := 10) o (zdd k_T_either 3 rfl) (by decide) (fun hc => ?_) (fun hc => ?_)
  · rw [if_neg hc] at h
    refine zj_iconst o (zdd k_T_either 6 rfl) zki_0 ?_
    refine zj_istore_n (loc' := [(2, .int 0), (0, .ref t), (1, .int p0)]) o (zdd k_T_either 7 rfl) rfl (by decide) rfl ?_
    exact zj_sub [1, 2, 0] rfl (r_T_either_12L o he he1 hre hrec hrs hrsc  zfu h hr)
  · rw [if_pos hc] at h
    refine zj_iconst o (zdd k_T_either 4 rfl) zki_0 ?_
    cases h
    exact zr_i o hr (zdd k_T_either 5 rfl)
/-- the formula's grammar, so many levels deep -/
def f_T_tie : Nat → (zSt → Nat → Int32 → Option (Int32 × zSt)) × (zSt → Nat → Int32 → Option (Int32 × zSt))
  | 0 => (fun _ _ _ => none, fun _ _ _ => none)
  | n + 1 => (f_T_either (f_T_tie n).1 (f_T_tie n).2, f_T_single (f_T_tie n).1 (f_T_tie n).2)
theorem f_T_tie_ok : ∀ n, (∀ {σ : zSt} {a : Nat} {w : Int32} {z : Int32 × zSt}, (f_T_tie n).1 σ a w = some z → σ.1[a]? = some (0, 9)) ∧ (∀ {σ : zSt} {a : Nat} {w : Int32} {z : Int32 × zSt}, (f_T_tie n).2 σ a w = some z → σ.1[a]? = some (0, 9))
  | 0 => ⟨fun h => (by cases h), fun h => (by cases h)⟩
  | n + 1 => ⟨fun h => (zg_some h).1, fun h => (zg_some h).1⟩
theorem zMT_mono {l : Launch} {b : Nat} {ex : Nat → Value} {D : va_G} {ca : Nat → ClassId} {σ σ' : zSt} {d d' : Nat} {y : MethodName} {cy : ByteArray} {ny : Nat} {ry : Option FieldType} {av : List Value} {r : Option Value} (h : d = d') (hm : zMT l b ex D ca d y cy ny ry av σ r σ' 0 0) : zMT l b ex D ca d' y cy ny ry av σ r σ' 0 0 := h ▸ hm
theorem f_T_tie_met : ∀ n, (∀ {l : Launch} {b : Nat} {ex : Nat → Value} {D : va_G} {ca : Nat → ClassId} {σ : zSt} {a : Nat} {w : Int32} {z : Int32 × zSt}, (f_T_tie n).1 σ a w = some z → zMT l b ex D ca (9 + 6 * n) y_T_either c_T_either n_T_either r_ret_T_either [.ref a, .int w] σ (some (.int z.1)) z.2 0 0) ∧ (∀ {l : Launch} {b : Nat} {ex : Nat → Value} {D : va_G} {ca : Nat → ClassId} {σ : zSt} {a : Nat} {w : Int32} {z : Int32 × zSt}, (f_T_tie n).2 σ a w = some z → zMT l b ex D ca (9 + 6 * n - 2) y_T_single c_T_single n_T_single r_ret_T_single [.ref a, .int w] σ (some (.int z.1)) z.2 0 0)
  | 0 => ⟨fun h => (by cases h), fun h => (by cases h)⟩
  | n + 1 => by
    have ih := f_T_tie_met n
    have ok := f_T_tie_ok n
    refine ⟨fun h => ?_, fun h => ?_⟩
    · exact zMT_mono (by omega) (m_T_either (e0 := 9 + 6 * n) (e1 := 9 + 6 * n - 2) (by omega) (by omega) ih.1 ok.1 ih.2 ok.2 h)
    · exact zMT_mono (by omega) (m_T_single (e0 := 9 + 6 * n) (e1 := 9 + 6 * n - 2) (by omega) (by omega) ih.1 ok.1 ih.2 ok.2 h)
def f_T_tieE : zSt → Nat → Int32 → Option (Int32 × zSt) := (f_T_tie 20).1
theorem f_T_tieE_c {σ : zSt} {a : Nat} {w : Int32} {z : Int32 × zSt} (h : f_T_tieE σ a w = some z) : σ.1[a]? = some (0, 9) := (f_T_tie_ok 20).1 h
theorem m_T_tieE {l : Launch} {b : Nat} {ex : Nat → Value} {D : va_G} {ca : Nat → ClassId} {σ : zSt} {a : Nat} {w : Int32} {z : Int32 × zSt} (h : f_T_tieE σ a w = some z) : zMT l b ex D ca 129 y_T_either c_T_either n_T_either r_ret_T_either [.ref a, .int w] σ (some (.int z.1)) z.2 0 0 := (f_T_tie_met 20).1 h

def f_T_formulaLine (σ : zSt) (t : Nat) (p0 : Nat) : Option (Int32 × zSt) :=
zg σ 9 t (
((zsP σ 9 t 7 p0).bind fun σ1 =>
(zgP σ1 9 t 7).bind fun a2 =>
(f_F_clear σ1 a2).bind fun σ3 =>
(zsI σ3 9 t 8 0).bind fun σ4 =>
(zgP σ4 9 t 2).bind fun a5 =>
(f_C_advance σ4 a5).bind fun σ6 =>
(f_T_tieE σ6 t 0).bind fun q7 =>
if q7.1 = 0 then (
some (0, q7.2)) else
(zgP q7.2 9 t 6).bind fun a8 =>
(zgI q7.2 10 a8 6).bind fun x9 =>
(zgI q7.2 9 t 8).bind fun x10 =>
(zsI q7.2 10 a8 6 (x9 + x10)).bind fun σ11 =>
(f_T_take σ11 t 59).bind fun q12 =>
some (q12.1, q12.2)).bind fun q => (zbool q.1).bind fun x => some (x, q.2))
set_option maxRecDepth 100000 in
set_option maxHeartbeats 4000000 in
theorem m_T_formulaLine {l : Launch} {b : Nat} {ex : Nat → Value} {D : va_G} {ca : Nat → ClassId} {σ : zSt} {t : Nat} {p0 : Nat} {z : Int32 × zSt} (h : f_T_formulaLine σ t p0 = some z) : zMT l b ex D ca 130 y_T_formulaLine c_T_formulaLine n_T_formulaLine r_ret_T_formulaLine [.ref t, .ref p0] σ (some (.int z.1)) z.2 0 0 := by
  obtain ⟨_, hg0⟩ := zg_some h
  obtain ⟨z0, hbd, hz⟩ := zbd hg0
  obtain ⟨z1, hz1, hzz⟩ := zbd hz
  obtain ⟨hzb, rfl⟩ := zbool_some hz1
  cases hzz
  have h := hbd
  refine zmt_of (by decide) (Nat.le_of_ble_eq_true rfl) ⟨.boolean, rfl, zb_nar hzb⟩ (fun X o hin hrm _ _ _ _ _ hr => ?_)
  have hr := hr 0 0 (by decide) (by decide)
  have o : zOK X "WantShelves$Teller" c_T_formulaLine n_T_formulaLine 130 := o
  change zPJ X 0 0 0 [(0, .ref t), (1, .ref p0)] [] σ
  refine zj_aload_n o (zdd k_T_formulaLine 0 rfl) rfl 0 rfl ?_
  refine zj_aload_n o (zdd k_T_formulaLine 1 rfl) rfl 1 rfl ?_
  obtain ⟨σ1, e_σ1, h⟩ := zbd h
  refine zj_pP o (zdd k_T_formulaLine 2 rfl) fl_T_42 (Or.inl ⟨_, rfl⟩) rfl e_σ1 ?_
  refine zj_aload_n o (zdd k_T_formulaLine 3 rfl) rfl 0 rfl ?_
  obtain ⟨a2, e_a2, h⟩ := zbd h
  refine zj_gP o (zdd k_T_formulaLine 4 rfl) fl_T_42 rfl e_a2 ?_
  obtain ⟨σ3, e_σ3, h⟩ := zbd h
  refine zc_V o (zdd k_T_formulaLine 5 rfl) ml_T_140 mv_F_clear ⟨rfl, by decide⟩ (zg_some e_σ3).1 (by decide) [] [] rfl (Nat.le_of_ble_eq_true rfl) rfl (m_F_clear e_σ3) ?_
  change zPJ X 0 0 _ _ [] _
  refine zj_aload_n o (zdd k_T_formulaLine 6 rfl) rfl 0 rfl ?_
  refine zj_iconst o (zdd k_T_formulaLine 7 rfl) zki_0 ?_
  obtain ⟨σ4, e_σ4, h⟩ := zbd h
  refine zj_pI o (zdd k_T_formulaLine 8 rfl) fl_T_145 rfl rfl e_σ4 ?_
  refine zj_aload_n o (zdd k_T_formulaLine 9 rfl) rfl 0 rfl ?_
  obtain ⟨a5, e_a5, h⟩ := zbd h
  refine zj_gP o (zdd k_T_formulaLine 10 rfl) fl_T_18 rfl e_a5 ?_
  obtain ⟨σ6, e_σ6, h⟩ := zbd h
  refine zc_V o (zdd k_T_formulaLine 11 rfl) ml_T_102 mv_C_advance ⟨rfl, by decide⟩ (zg_some e_σ6).1 (by decide) [] [] rfl (Nat.le_of_ble_eq_true rfl) rfl (m_C_advance e_σ6) ?_
  change zPJ X 0 0 _ _ [] _
  refine zj_aload_n o (zdd k_T_formulaLine 12 rfl) rfl 0 rfl ?_
  refine zj_iconst o (zdd k_T_formulaLine 13 rfl) zki_0 ?_
  obtain ⟨q7, e_q7, h⟩ := zbd h
  refine zc_V o (zdd k_T_formulaLine 14 rfl) ml_T_148 mv_T_either ⟨rfl, by decide⟩ (f_T_tieE_c e_q7) (by decide) [.int 0] [] rfl (Nat.le_of_ble_eq_true rfl) rfl (m_T_tieE e_q7) ?_
  change zPJ X 0 0 _ _ [.int q7.1] _
  refine zj_if_ne (tgt := 34) o (zdd k_T_formulaLine 15 rfl) (by decide) (fun hc => ?_) (fun hc => ?_)
  · rw [if_neg hc] at h
    refine zj_aload_n o (zdd k_T_formulaLine 18 rfl) rfl 0 rfl ?_
    obtain ⟨a8, e_a8, h⟩ := zbd h
    refine zj_gP o (zdd k_T_formulaLine 19 rfl) fl_T_32 rfl e_a8 ?_
    refine zj_dup o (zdd k_T_formulaLine 20 rfl) rfl ?_
    obtain ⟨x9, e_x9, h⟩ := zbd h
    refine zj_gI o (zdd k_T_formulaLine 21 rfl) fl_T_151 rfl e_x9 ?_
    refine zj_aload_n o (zdd k_T_formulaLine 22 rfl) rfl 0 rfl ?_
    obtain ⟨x10, e_x10, h⟩ := zbd h
    refine zj_gI o (zdd k_T_formulaLine 23 rfl) fl_T_145 rfl e_x10 ?_
    refine zj_iadd o (zdd k_T_formulaLine 24 rfl) ?_
    obtain ⟨σ11, e_σ11, h⟩ := zbd h
    refine zj_pI o (zdd k_T_formulaLine 25 rfl) fl_T_151 rfl rfl e_σ11 ?_
    refine zj_aload_n o (zdd k_T_formulaLine 26 rfl) rfl 0 rfl ?_
    refine zj_bipush o (zdd k_T_formulaLine 27 rfl) zkb_59 ?_
    obtain ⟨q12, e_q12, h⟩ := zbd h
    refine zc_V o (zdd k_T_formulaLine 28 rfl) ml_T_109 mv_T_take ⟨rfl, by decide⟩ (zg_some e_q12).1 (by decide) [.int 59] [] rfl (Nat.le_of_ble_eq_true rfl) rfl (m_T_take e_q12) ?_
    change zPJ X 0 0 _ _ [.int q12.1] _
    cases h
    exact zr_i o hr (zdd k_T_formulaLine 29 rfl)
  · rw [if_pos hc] at h
    refine zj_iconst o (zdd k_T_formulaLine 16 rfl) zki_0 ?_
    cases h
    exact zr_i o hr (zdd k_T_formulaLine 17 rfl)
def f_T_quarrelLine_31 (σ : zSt) (v0 : Nat) : Option (Int32 × zSt) :=
(f_T_refuse σ v0).bind fun q1 =>
some (q1.1, q1.2)
set_option maxRecDepth 100000 in
set_option maxHeartbeats 4000000 in
theorem r_T_quarrelLine_31 {X : zCX} (o : zOK X "WantShelves$Teller" c_T_quarrelLine n_T_quarrelLine 9) {σ : zSt} {v0 : Nat} {z : Int32 × zSt} (h : f_T_quarrelLine_31 σ v0 = some z) (hr : zRX X 0 0 (some (.int z.1)) z.2) : zPJ X 0 0 31 [(0, .ref v0)] [] σ := by
  unfold f_T_quarrelLine_31 at h
  refine zj_aload_n o (zdd k_T_quarrelLine 13 rfl) rfl 0 rfl ?_
  obtain ⟨q1, e_q1, h⟩ := zbd h
  refine zc_V o (zdd k_T_quarrelLine 14 rfl) ml_T_68 mv_T_refuse ⟨rfl, by decide⟩ (zg_some e_q1).1 (by decide) [] [] rfl (Nat.le_of_ble_eq_true rfl) rfl (m_T_refuse e_q1) ?_
  change zPJ X 0 0 _ _ [.int q1.1] _
  cases h
  exact zr_i o hr (zdd k_T_quarrelLine 15 rfl)
def f_T_quarrelLine (σ : zSt) (t : Nat) : Option (Int32 × zSt) :=
zg σ 9 t (
((zgP σ 9 t 2).bind fun a1 =>
(f_C_advance σ a1).bind fun σ2 =>
(zgP σ2 9 t 2).bind fun a3 =>
(zgI σ2 7 a3 0).bind fun x4 =>
if x4 < 14 then (
f_T_quarrelLine_31 σ2 t) else
(zgP σ2 9 t 2).bind fun a5 =>
(zgI σ2 7 a5 0).bind fun x6 =>
if x6 ≤ 17 then (
(zgP σ2 9 t 6).bind fun a7 =>
(zgP σ2 9 t 2).bind fun a8 =>
(zgI σ2 7 a8 0).bind fun x9 =>
(zsI σ2 10 a7 3 (x9 - 14)).bind fun σ10 =>
(zgP σ10 9 t 2).bind fun a11 =>
(f_C_advance σ10 a11).bind fun σ12 =>
(f_T_take σ12 t 59).bind fun q13 =>
some (q13.1, q13.2)) else
f_T_quarrelLine_31 σ2 t).bind fun q => (zbool q.1).bind fun x => some (x, q.2))
set_option maxRecDepth 100000 in
set_option maxHeartbeats 4000000 in
theorem m_T_quarrelLine {l : Launch} {b : Nat} {ex : Nat → Value} {D : va_G} {ca : Nat → ClassId} {σ : zSt} {t : Nat} {z : Int32 × zSt} (h : f_T_quarrelLine σ t = some z) : zMT l b ex D ca 9 y_T_quarrelLine c_T_quarrelLine n_T_quarrelLine r_ret_T_quarrelLine [.ref t] σ (some (.int z.1)) z.2 0 0 := by
  obtain ⟨_, hg0⟩ := zg_some h
  obtain ⟨z0, hbd, hz⟩ := zbd hg0
  obtain ⟨z1, hz1, hzz⟩ := zbd hz
  obtain ⟨hzb, rfl⟩ := zbool_some hz1
  cases hzz
  have h := hbd
  refine zmt_of (by decide) (Nat.le_of_ble_eq_true rfl) ⟨.boolean, rfl, zb_nar hzb⟩ (fun X o hin hrm _ _ _ _ _ hr => ?_)
  have hr := hr 0 0 (by decide) (by decide)
  have o : zOK X "WantShelves$Teller" c_T_quarrelLine n_T_quarrelLine 9 := o
  change zPJ X 0 0 0 [(0, .ref t)] [] σ
  refine zj_aload_n o (zdd k_T_quarrelLine 0 rfl) rfl 0 rfl ?_
  obtain ⟨a1, e_a1, h⟩ := zbd h
  refine zj_gP o (zdd k_T_quarrelLine 1 rfl) fl_T_18 rfl e_a1 ?_
  obtain ⟨σ2, e_σ2, h⟩ := zbd h
  refine zc_V o (zdd k_T_quarrelLine 2 rfl) ml_T_102 mv_C_advance ⟨rfl, by decide⟩ (zg_some e_σ2).1 (by decide) [] [] rfl (Nat.le_of_ble_eq_true rfl) rfl (m_C_advance e_σ2) ?_
  change zPJ X 0 0 _ _ [] _
  refine zj_aload_n o (zdd k_T_quarrelLine 3 rfl) rfl 0 rfl ?_
  obtain ⟨a3, e_a3, h⟩ := zbd h
  refine zj_gP o (zdd k_T_quarrelLine 4 rfl) fl_T_18 rfl e_a3 ?_
  obtain ⟨x4, e_x4, h⟩ := zbd h
  refine zj_gI o (zdd k_T_quarrelLine 5 rfl) fl_T_58 rfl e_x4 ?_
  refine zj_bipush o (zdd k_T_quarrelLine 6 rfl) zkb_14 ?_
  refine zj_icmp_lt (tgt := 31) o (zdd k_T_quarrelLine 7 rfl) (by decide) (fun hc => ?_) (fun hc => ?_)
  · rw [if_pos hc] at h
    exact zj_sub [0] rfl (r_T_quarrelLine_31 o  h hr)
  · rw [if_neg hc] at h
    refine zj_aload_n o (zdd k_T_quarrelLine 8 rfl) rfl 0 rfl ?_
    obtain ⟨a5, e_a5, h⟩ := zbd h
    refine zj_gP o (zdd k_T_quarrelLine 9 rfl) fl_T_18 rfl e_a5 ?_
    obtain ⟨x6, e_x6, h⟩ := zbd h
    refine zj_gI o (zdd k_T_quarrelLine 10 rfl) fl_T_58 rfl e_x6 ?_
    refine zj_bipush o (zdd k_T_quarrelLine 11 rfl) zkb_17 ?_
    refine zj_icmp_le (tgt := 36) o (zdd k_T_quarrelLine 12 rfl) (by decide) (fun hc => ?_) (fun hc => ?_)
    · rw [if_pos hc] at h
      refine zj_aload_n o (zdd k_T_quarrelLine 16 rfl) rfl 0 rfl ?_
      obtain ⟨a7, e_a7, h⟩ := zbd h
      refine zj_gP o (zdd k_T_quarrelLine 17 rfl) fl_T_32 rfl e_a7 ?_
      refine zj_aload_n o (zdd k_T_quarrelLine 18 rfl) rfl 0 rfl ?_
      obtain ⟨a8, e_a8, h⟩ := zbd h
      refine zj_gP o (zdd k_T_quarrelLine 19 rfl) fl_T_18 rfl e_a8 ?_
      obtain ⟨x9, e_x9, h⟩ := zbd h
      refine zj_gI o (zdd k_T_quarrelLine 20 rfl) fl_T_58 rfl e_x9 ?_
      refine zj_bipush o (zdd k_T_quarrelLine 21 rfl) zkb_14 ?_
      refine zj_isub o (zdd k_T_quarrelLine 22 rfl) ?_
      obtain ⟨σ10, e_σ10, h⟩ := zbd h
      refine zj_pI o (zdd k_T_quarrelLine 23 rfl) fl_T_152 rfl rfl e_σ10 ?_
      refine zj_aload_n o (zdd k_T_quarrelLine 24 rfl) rfl 0 rfl ?_
      obtain ⟨a11, e_a11, h⟩ := zbd h
      refine zj_gP o (zdd k_T_quarrelLine 25 rfl) fl_T_18 rfl e_a11 ?_
      obtain ⟨σ12, e_σ12, h⟩ := zbd h
      refine zc_V o (zdd k_T_quarrelLine 26 rfl) ml_T_102 mv_C_advance ⟨rfl, by decide⟩ (zg_some e_σ12).1 (by decide) [] [] rfl (Nat.le_of_ble_eq_true rfl) rfl (m_C_advance e_σ12) ?_
      change zPJ X 0 0 _ _ [] _
      refine zj_aload_n o (zdd k_T_quarrelLine 27 rfl) rfl 0 rfl ?_
      refine zj_bipush o (zdd k_T_quarrelLine 28 rfl) zkb_59 ?_
      obtain ⟨q13, e_q13, h⟩ := zbd h
      refine zc_V o (zdd k_T_quarrelLine 29 rfl) ml_T_109 mv_T_take ⟨rfl, by decide⟩ (zg_some e_q13).1 (by decide) [.int 59] [] rfl (Nat.le_of_ble_eq_true rfl) rfl (m_T_take e_q13) ?_
      change zPJ X 0 0 _ _ [.int q13.1] _
      cases h
      exact zr_i o hr (zdd k_T_quarrelLine 30 rfl)
    · rw [if_neg hc] at h
      exact zj_sub [0] rfl (r_T_quarrelLine_31 o  h hr)
def f_T_shelfLine (σ : zSt) (t : Nat) : Option (Int32 × zSt) :=
zg σ 9 t (
((zgP σ 9 t 2).bind fun a1 =>
(f_C_advance σ a1).bind fun σ2 =>
(f_T_takeNumber σ2 t 1 9).bind fun q3 =>
if q3.1 = 0 then (
some (0, q3.2)) else
(zgP q3.2 9 t 6).bind fun a4 =>
(zgI q3.2 9 t 10).bind fun x5 =>
(zsI q3.2 10 a4 4 x5).bind fun σ6 =>
(f_T_take σ6 t 59).bind fun q7 =>
some (q7.1, q7.2)).bind fun q => (zbool q.1).bind fun x => some (x, q.2))
set_option maxRecDepth 100000 in
set_option maxHeartbeats 4000000 in
theorem m_T_shelfLine {l : Launch} {b : Nat} {ex : Nat → Value} {D : va_G} {ca : Nat → ClassId} {σ : zSt} {t : Nat} {z : Int32 × zSt} (h : f_T_shelfLine σ t = some z) : zMT l b ex D ca 9 y_T_shelfLine c_T_shelfLine n_T_shelfLine r_ret_T_shelfLine [.ref t] σ (some (.int z.1)) z.2 0 0 := by
  obtain ⟨_, hg0⟩ := zg_some h
  obtain ⟨z0, hbd, hz⟩ := zbd hg0
  obtain ⟨z1, hz1, hzz⟩ := zbd hz
  obtain ⟨hzb, rfl⟩ := zbool_some hz1
  cases hzz
  have h := hbd
  refine zmt_of (by decide) (Nat.le_of_ble_eq_true rfl) ⟨.boolean, rfl, zb_nar hzb⟩ (fun X o hin hrm _ _ _ _ _ hr => ?_)
  have hr := hr 0 0 (by decide) (by decide)
  have o : zOK X "WantShelves$Teller" c_T_shelfLine n_T_shelfLine 9 := o
  change zPJ X 0 0 0 [(0, .ref t)] [] σ
  refine zj_aload_n o (zdd k_T_shelfLine 0 rfl) rfl 0 rfl ?_
  obtain ⟨a1, e_a1, h⟩ := zbd h
  refine zj_gP o (zdd k_T_shelfLine 1 rfl) fl_T_18 rfl e_a1 ?_
  obtain ⟨σ2, e_σ2, h⟩ := zbd h
  refine zc_V o (zdd k_T_shelfLine 2 rfl) ml_T_102 mv_C_advance ⟨rfl, by decide⟩ (zg_some e_σ2).1 (by decide) [] [] rfl (Nat.le_of_ble_eq_true rfl) rfl (m_C_advance e_σ2) ?_
  change zPJ X 0 0 _ _ [] _
  refine zj_aload_n o (zdd k_T_shelfLine 3 rfl) rfl 0 rfl ?_
  refine zj_iconst o (zdd k_T_shelfLine 4 rfl) zki_1 ?_
  refine zj_bipush o (zdd k_T_shelfLine 5 rfl) zkb_9 ?_
  obtain ⟨q3, e_q3, h⟩ := zbd h
  refine zc_V o (zdd k_T_shelfLine 6 rfl) ml_T_117 mv_T_takeNumber ⟨rfl, by decide⟩ (zg_some e_q3).1 (by decide) [.int 1, .int 9] [] rfl (Nat.le_of_ble_eq_true rfl) rfl (m_T_takeNumber e_q3) ?_
  change zPJ X 0 0 _ _ [.int q3.1] _
  refine zj_if_ne (tgt := 19) o (zdd k_T_shelfLine 7 rfl) (by decide) (fun hc => ?_) (fun hc => ?_)
  · rw [if_neg hc] at h
    refine zj_aload_n o (zdd k_T_shelfLine 10 rfl) rfl 0 rfl ?_
    obtain ⟨a4, e_a4, h⟩ := zbd h
    refine zj_gP o (zdd k_T_shelfLine 11 rfl) fl_T_32 rfl e_a4 ?_
    refine zj_aload_n o (zdd k_T_shelfLine 12 rfl) rfl 0 rfl ?_
    obtain ⟨x5, e_x5, h⟩ := zbd h
    refine zj_gI o (zdd k_T_shelfLine 13 rfl) fl_T_125 rfl e_x5 ?_
    obtain ⟨σ6, e_σ6, h⟩ := zbd h
    refine zj_pI o (zdd k_T_shelfLine 14 rfl) fl_T_155 rfl rfl e_σ6 ?_
    refine zj_aload_n o (zdd k_T_shelfLine 15 rfl) rfl 0 rfl ?_
    refine zj_bipush o (zdd k_T_shelfLine 16 rfl) zkb_59 ?_
    obtain ⟨q7, e_q7, h⟩ := zbd h
    refine zc_V o (zdd k_T_shelfLine 17 rfl) ml_T_109 mv_T_take ⟨rfl, by decide⟩ (zg_some e_q7).1 (by decide) [.int 59] [] rfl (Nat.le_of_ble_eq_true rfl) rfl (m_T_take e_q7) ?_
    change zPJ X 0 0 _ _ [.int q7.1] _
    cases h
    exact zr_i o hr (zdd k_T_shelfLine 18 rfl)
  · rw [if_pos hc] at h
    refine zj_iconst o (zdd k_T_shelfLine 8 rfl) zki_0 ?_
    cases h
    exact zr_i o hr (zdd k_T_shelfLine 9 rfl)
def f_T_moodLine (σ : zSt) (t : Nat) : Option (Int32 × zSt) :=
zg σ 9 t (
((zgP σ 9 t 2).bind fun a1 =>
(f_C_advance σ a1).bind fun σ2 =>
(f_T_takeNumber σ2 t 0 9).bind fun q3 =>
if q3.1 = 0 then (
some (0, q3.2)) else
(zgP q3.2 9 t 6).bind fun a4 =>
(zgI q3.2 9 t 10).bind fun x5 =>
(zsI q3.2 10 a4 5 x5).bind fun σ6 =>
(f_T_take σ6 t 59).bind fun q7 =>
some (q7.1, q7.2)).bind fun q => (zbool q.1).bind fun x => some (x, q.2))
set_option maxRecDepth 100000 in
set_option maxHeartbeats 4000000 in
theorem m_T_moodLine {l : Launch} {b : Nat} {ex : Nat → Value} {D : va_G} {ca : Nat → ClassId} {σ : zSt} {t : Nat} {z : Int32 × zSt} (h : f_T_moodLine σ t = some z) : zMT l b ex D ca 9 y_T_moodLine c_T_moodLine n_T_moodLine r_ret_T_moodLine [.ref t] σ (some (.int z.1)) z.2 0 0 := by
  obtain ⟨_, hg0⟩ := zg_some h
  obtain ⟨z0, hbd, hz⟩ := zbd hg0
  obtain ⟨z1, hz1, hzz⟩ := zbd hz
  obtain ⟨hzb, rfl⟩ := zbool_some hz1
  cases hzz
  have h := hbd
  refine zmt_of (by decide) (Nat.le_of_ble_eq_true rfl) ⟨.boolean, rfl, zb_nar hzb⟩ (fun X o hin hrm _ _ _ _ _ hr => ?_)
  have hr := hr 0 0 (by decide) (by decide)
  have o : zOK X "WantShelves$Teller" c_T_moodLine n_T_moodLine 9 := o
  change zPJ X 0 0 0 [(0, .ref t)] [] σ
  refine zj_aload_n o (zdd k_T_moodLine 0 rfl) rfl 0 rfl ?_
  obtain ⟨a1, e_a1, h⟩ := zbd h
  refine zj_gP o (zdd k_T_moodLine 1 rfl) fl_T_18 rfl e_a1 ?_
  obtain ⟨σ2, e_σ2, h⟩ := zbd h
  refine zc_V o (zdd k_T_moodLine 2 rfl) ml_T_102 mv_C_advance ⟨rfl, by decide⟩ (zg_some e_σ2).1 (by decide) [] [] rfl (Nat.le_of_ble_eq_true rfl) rfl (m_C_advance e_σ2) ?_
  change zPJ X 0 0 _ _ [] _
  refine zj_aload_n o (zdd k_T_moodLine 3 rfl) rfl 0 rfl ?_
  refine zj_iconst o (zdd k_T_moodLine 4 rfl) zki_0 ?_
  refine zj_bipush o (zdd k_T_moodLine 5 rfl) zkb_9 ?_
  obtain ⟨q3, e_q3, h⟩ := zbd h
  refine zc_V o (zdd k_T_moodLine 6 rfl) ml_T_117 mv_T_takeNumber ⟨rfl, by decide⟩ (zg_some e_q3).1 (by decide) [.int 0, .int 9] [] rfl (Nat.le_of_ble_eq_true rfl) rfl (m_T_takeNumber e_q3) ?_
  change zPJ X 0 0 _ _ [.int q3.1] _
  refine zj_if_ne (tgt := 19) o (zdd k_T_moodLine 7 rfl) (by decide) (fun hc => ?_) (fun hc => ?_)
  · rw [if_neg hc] at h
    refine zj_aload_n o (zdd k_T_moodLine 10 rfl) rfl 0 rfl ?_
    obtain ⟨a4, e_a4, h⟩ := zbd h
    refine zj_gP o (zdd k_T_moodLine 11 rfl) fl_T_32 rfl e_a4 ?_
    refine zj_aload_n o (zdd k_T_moodLine 12 rfl) rfl 0 rfl ?_
    obtain ⟨x5, e_x5, h⟩ := zbd h
    refine zj_gI o (zdd k_T_moodLine 13 rfl) fl_T_125 rfl e_x5 ?_
    obtain ⟨σ6, e_σ6, h⟩ := zbd h
    refine zj_pI o (zdd k_T_moodLine 14 rfl) fl_T_158 rfl rfl e_σ6 ?_
    refine zj_aload_n o (zdd k_T_moodLine 15 rfl) rfl 0 rfl ?_
    refine zj_bipush o (zdd k_T_moodLine 16 rfl) zkb_59 ?_
    obtain ⟨q7, e_q7, h⟩ := zbd h
    refine zc_V o (zdd k_T_moodLine 17 rfl) ml_T_109 mv_T_take ⟨rfl, by decide⟩ (zg_some e_q7).1 (by decide) [.int 59] [] rfl (Nat.le_of_ble_eq_true rfl) rfl (m_T_take e_q7) ?_
    change zPJ X 0 0 _ _ [.int q7.1] _
    cases h
    exact zr_i o hr (zdd k_T_moodLine 18 rfl)
  · rw [if_pos hc] at h
    refine zj_iconst o (zdd k_T_moodLine 8 rfl) zki_0 ?_
    cases h
    exact zr_i o hr (zdd k_T_moodLine 9 rfl)
def f_T_tell_42 (k42 : zSt → Nat → Int32 → Int32 → Int32 → Option (Int32 × zSt)) (σ : zSt) (v0 : Nat) (v2 : Int32) (v4 : Int32) (v5 : Int32) : Option (Int32 × zSt) :=
if v2 < v5 then (
some (v4, σ)) else
if v4 = 0 then (
some (v4, σ)) else
(zgP σ 9 v0 2).bind fun a1 =>
(zgI σ 7 a1 0).bind fun x2 =>
if x2 = 0 then (
some (v4, σ)) else
(zgP σ 9 v0 2).bind fun a3 =>
(zgI σ 7 a3 0).bind fun x4 =>
if x4 = 4 then (
(zgP σ 9 v0 6).bind fun a5 =>
(zgI σ 10 a5 0).bind fun x6 =>
if 4 ≤ x6 then (
(f_T_refuse σ v0).bind fun q7 =>
k42 q7.2 v0 v2 q7.1 (v5 + 1)) else
(f_T_topicLine σ v0).bind fun q8 =>
k42 q8.2 v0 v2 q8.1 (v5 + 1)) else
if x4 = 5 then (
(zgP σ 9 v0 6).bind fun a9 =>
(zgI σ 10 a9 1).bind fun x10 =>
if 10 ≤ x10 then (
(f_T_refuse σ v0).bind fun q11 =>
k42 q11.2 v0 v2 q11.1 (v5 + 1)) else
(f_T_bookLine σ v0).bind fun q12 =>
k42 q12.2 v0 v2 q12.1 (v5 + 1)) else
if x4 = 6 then (
(zgP σ 9 v0 6).bind fun a13 =>
(zgI σ 10 a13 2).bind fun x14 =>
if 6 ≤ x14 then (
(f_T_refuse σ v0).bind fun q15 =>
k42 q15.2 v0 v2 q15.1 (v5 + 1)) else
(f_T_readerLine σ v0).bind fun q16 =>
k42 q16.2 v0 v2 q16.1 (v5 + 1)) else
if x4 = 7 then (
(f_T_isFirst σ v0).bind fun q17 =>
if q17.1 = 0 then (
(f_T_refuse q17.2 v0).bind fun q18 =>
k42 q18.2 v0 v2 q18.1 (v5 + 1)) else
(zgP q17.2 9 v0 6).bind fun a19 =>
(zgP q17.2 10 a19 11).bind fun a20 =>
(f_T_formulaLine q17.2 v0 a20).bind fun q21 =>
k42 q21.2 v0 v2 q21.1 (v5 + 1)) else
if x4 = 8 then (
(f_T_isFirst σ v0).bind fun q22 =>
if q22.1 = 0 then (
(f_T_refuse q22.2 v0).bind fun q23 =>
k42 q23.2 v0 v2 q23.1 (v5 + 1)) else
(zgP q22.2 9 v0 6).bind fun a24 =>
(zgP q22.2 10 a24 12).bind fun a25 =>
(f_T_formulaLine q22.2 v0 a25).bind fun q26 =>
k42 q26.2 v0 v2 q26.1 (v5 + 1)) else
if x4 = 9 then (
(f_T_isFirst σ v0).bind fun q27 =>
if q27.1 = 0 then (
(f_T_refuse q27.2 v0).bind fun q28 =>
k42 q28.2 v0 v2 q28.1 (v5 + 1)) else
(f_T_quarrelLine q27.2 v0).bind fun q29 =>
k42 q29.2 v0 v2 q29.1 (v5 + 1)) else
if x4 = 10 then (
(f_T_isFirst σ v0).bind fun q30 =>
if q30.1 = 0 then (
(f_T_refuse q30.2 v0).bind fun q31 =>
k42 q31.2 v0 v2 q31.1 (v5 + 1)) else
(f_T_shelfLine q30.2 v0).bind fun q32 =>
k42 q32.2 v0 v2 q32.1 (v5 + 1)) else
if x4 = 11 then (
(f_T_isFirst σ v0).bind fun q33 =>
if q33.1 = 0 then (
(f_T_refuse q33.2 v0).bind fun q34 =>
k42 q34.2 v0 v2 q34.1 (v5 + 1)) else
(f_T_moodLine q33.2 v0).bind fun q35 =>
k42 q35.2 v0 v2 q35.1 (v5 + 1)) else
(f_T_refuse σ v0).bind fun q36 =>
k42 q36.2 v0 v2 q36.1 (v5 + 1)
set_option maxRecDepth 100000 in
set_option maxHeartbeats 4000000 in
theorem r_T_tell_42 {X : zCX} (o : zOK X "WantShelves$Teller" c_T_tell n_T_tell 131) {k42 : zSt → Nat → Int32 → Int32 → Int32 → Option (Int32 × zSt)} (hk42 : ∀ {σ : zSt} {v0 : Nat} {v2 : Int32} {v4 : Int32} {v5 : Int32} {z : Int32 × zSt}, k42 σ v0 v2 v4 v5 = some z → zRX X 0 0 (some (.int z.1)) z.2 → zPJ X 0 0 42 [(0, .ref v0), (2, .int v2), (4, .int v4), (5, .int v5)] [] σ) {σ : zSt} {v0 : Nat} {v2 : Int32} {v4 : Int32} {v5 : Int32} {z : Int32 × zSt} (h : f_T_tell_42 k42 σ v0 v2 v4 v5 = some z) (hr : zRX X 0 0 (some (.int z.1)) z.2) : zPJ X 0 0 42 [(0, .ref v0), (2, .int v2), (4, .int v4), (5, .int v5)] [] σ := by
  unfold f_T_tell_42 at h
  refine zj_iload o (zdd k_T_tell_0 24 rfl) 3 rfl ?_
  refine zj_iload_n o (zdd k_T_tell_0 25 rfl) rfl 1 rfl ?_
  refine zj_icmp_gt (tgt := 340) o (zdd k_T_tell_0 26 rfl) (by decide) (fun hc => ?_) (fun hc => ?_)
  · rw [if_pos hc] at h
    refine zj_iload o (zdd k_T_tell_2 34 rfl) 2 rfl ?_
    cases h
    exact zr_i o hr (zdd k_T_tell_2 35 rfl)
  · rw [if_neg hc] at h
    refine zj_iload o (zdd k_T_tell_0 27 rfl) 2 rfl ?_
    refine zj_if_eq (tgt := 340) o (zdd k_T_tell_0 28 rfl) (by decide) (fun hc => ?_) (fun hc => ?_)
    · rw [if_pos hc] at h
      refine zj_iload o (zdd k_T_tell_2 34 rfl) 2 rfl ?_
      cases h
      exact zr_i o hr (zdd k_T_tell_2 35 rfl)
    · rw [if_neg hc] at h
      refine zj_aload_n o (zdd k_T_tell_0 29 rfl) rfl 0 rfl ?_
      obtain ⟨a1, e_a1, h⟩ := zbd h
      refine zj_gP o (zdd k_T_tell_0 30 rfl) fl_T_18 rfl e_a1 ?_
      obtain ⟨x2, e_x2, h⟩ := zbd h
      refine zj_gI o (zdd k_T_tell_0 31 rfl) fl_T_58 rfl e_x2 ?_
      refine zj_if_eq (tgt := 340) o (zdd k_T_tell_0 32 rfl) (by decide) (fun hc => ?_) (fun hc => ?_)
      · rw [if_pos hc] at h
        refine zj_iload o (zdd k_T_tell_2 34 rfl) 2 rfl ?_
        cases h
        exact zr_i o hr (zdd k_T_tell_2 35 rfl)
      · rw [if_neg hc] at h
        refine zj_aload_n o (zdd k_T_tell_0 33 rfl) rfl 0 rfl ?_
        obtain ⟨a3, e_a3, h⟩ := zbd h
        refine zj_gP o (zdd k_T_tell_0 34 rfl) fl_T_18 rfl e_a3 ?_
        obtain ⟨x4, e_x4, h⟩ := zbd h
        refine zj_gI o (zdd k_T_tell_0 35 rfl) fl_T_58 rfl e_x4 ?_
        refine zj_tableC (dt := 328) o [116, 143, 171, 199, 229, 259, 282, 305] (zdd k_T_tell_0 36 rfl) (by decide) (by decide) (by decide) (by decide) (by decide) [(4, 116), (5, 143), (6, 171), (7, 199), (8, 229), (9, 259), (10, 282), (11, 305)] (by decide) ?_
        by_cases hc : x4 = 4
        · rw [if_pos hc] at h
          rw [zcase_pos hc]
          refine zj_aload_n o (zdd k_T_tell_0 37 rfl) rfl 0 rfl ?_
          obtain ⟨a5, e_a5, h⟩ := zbd h
          refine zj_gP o (zdd k_T_tell_0 38 rfl) fl_T_32 rfl e_a5 ?_
          obtain ⟨x6, e_x6, h⟩ := zbd h
          refine zj_gI o (zdd k_T_tell_0 39 rfl) fl_T_61 rfl e_x6 ?_
          refine zj_iconst o (zdd k_T_tell_0 40 rfl) zki_4 ?_
          refine zj_icmp_ge (tgt := 134) o (zdd k_T_tell_0 41 rfl) (by decide) (fun hc => ?_) (fun hc => ?_)
          · rw [if_pos hc] at h
            refine zj_aload_n o (zdd k_T_tell_0 45 rfl) rfl 0 rfl ?_
            obtain ⟨q7, e_q7, h⟩ := zbd h
            refine zc_V o (zdd k_T_tell_0 46 rfl) ml_T_68 mv_T_refuse ⟨rfl, by decide⟩ (zg_some e_q7).1 (by decide) [] [] rfl (Nat.le_of_ble_eq_true rfl) rfl (m_T_refuse e_q7) ?_
            change zPJ X 0 0 _ _ [.int q7.1] _
            refine zj_istore (loc' := [(4, .int q7.1), (0, .ref v0), (2, .int v2), (5, .int v5)]) o (zdd k_T_tell_0 47 rfl) (by decide) rfl ?_
            refine zj_goto (tgt := 334) o (zdd k_T_tell_0 48 rfl) (by decide) ?_
            refine zj_iinc (v := v5 + 1) (loc' := [(5, .int (v5 + 1)), (4, .int q7.1), (0, .ref v0), (2, .int v2)]) o (zdd k_T_tell_2 32 rfl) 3 rfl (by rw [zki_1]) (by decide) rfl ?_
            refine zj_goto (tgt := 42) o (zdd k_T_tell_2 33 rfl) (by decide) ?_
            exact zj_sub [2, 3, 1, 0] rfl (hk42 h hr)
          · rw [if_neg hc] at h
            refine zj_aload_n o (zdd k_T_tell_0 42 rfl) rfl 0 rfl ?_
            obtain ⟨q8, e_q8, h⟩ := zbd h
            refine zc_V o (zdd k_T_tell_0 43 rfl) ml_T_64 mv_T_topicLine ⟨rfl, by decide⟩ (zg_some e_q8).1 (by decide) [] [] rfl (Nat.le_of_ble_eq_true rfl) rfl (m_T_topicLine e_q8) ?_
            change zPJ X 0 0 _ _ [.int q8.1] _
            refine zj_goto (tgt := 138) o (zdd k_T_tell_0 44 rfl) (by decide) ?_
            refine zj_istore (loc' := [(4, .int q8.1), (0, .ref v0), (2, .int v2), (5, .int v5)]) o (zdd k_T_tell_0 47 rfl) (by decide) rfl ?_
            refine zj_goto (tgt := 334) o (zdd k_T_tell_0 48 rfl) (by decide) ?_
            refine zj_iinc (v := v5 + 1) (loc' := [(5, .int (v5 + 1)), (4, .int q8.1), (0, .ref v0), (2, .int v2)]) o (zdd k_T_tell_2 32 rfl) 3 rfl (by rw [zki_1]) (by decide) rfl ?_
            refine zj_goto (tgt := 42) o (zdd k_T_tell_2 33 rfl) (by decide) ?_
            exact zj_sub [2, 3, 1, 0] rfl (hk42 h hr)
        · rw [if_neg hc] at h
          rw [zcase_neg hc]
          by_cases hc : x4 = 5
          · rw [if_pos hc] at h
            rw [zcase_pos hc]
            refine zj_aload_n o (zdd k_T_tell_0 49 rfl) rfl 0 rfl ?_
            obtain ⟨a9, e_a9, h⟩ := zbd h
            refine zj_gP o (zdd k_T_tell_1 0 rfl) fl_T_32 rfl e_a9 ?_
            obtain ⟨x10, e_x10, h⟩ := zbd h
            refine zj_gI o (zdd k_T_tell_1 1 rfl) fl_T_71 rfl e_x10 ?_
            refine zj_bipush o (zdd k_T_tell_1 2 rfl) zkb_10 ?_
            refine zj_icmp_ge (tgt := 162) o (zdd k_T_tell_1 3 rfl) (by decide) (fun hc => ?_) (fun hc => ?_)
            · rw [if_pos hc] at h
              refine zj_aload_n o (zdd k_T_tell_1 7 rfl) rfl 0 rfl ?_
              obtain ⟨q11, e_q11, h⟩ := zbd h
              refine zc_V o (zdd k_T_tell_1 8 rfl) ml_T_68 mv_T_refuse ⟨rfl, by decide⟩ (zg_some e_q11).1 (by decide) [] [] rfl (Nat.le_of_ble_eq_true rfl) rfl (m_T_refuse e_q11) ?_
              change zPJ X 0 0 _ _ [.int q11.1] _
              refine zj_istore (loc' := [(4, .int q11.1), (0, .ref v0), (2, .int v2), (5, .int v5)]) o (zdd k_T_tell_1 9 rfl) (by decide) rfl ?_
              refine zj_goto (tgt := 334) o (zdd k_T_tell_1 10 rfl) (by decide) ?_
              refine zj_iinc (v := v5 + 1) (loc' := [(5, .int (v5 + 1)), (4, .int q11.1), (0, .ref v0), (2, .int v2)]) o (zdd k_T_tell_2 32 rfl) 3 rfl (by rw [zki_1]) (by decide) rfl ?_
              refine zj_goto (tgt := 42) o (zdd k_T_tell_2 33 rfl) (by decide) ?_
              exact zj_sub [2, 3, 1, 0] rfl (hk42 h hr)
            · rw [if_neg hc] at h
              refine zj_aload_n o (zdd k_T_tell_1 4 rfl) rfl 0 rfl ?_
              obtain ⟨q12, e_q12, h⟩ := zbd h
              refine zc_V o (zdd k_T_tell_1 5 rfl) ml_T_74 mv_T_bookLine ⟨rfl, by decide⟩ (zg_some e_q12).1 (by decide) [] [] rfl (Nat.le_of_ble_eq_true rfl) rfl (m_T_bookLine e_q12) ?_
              change zPJ X 0 0 _ _ [.int q12.1] _
              refine zj_goto (tgt := 166) o (zdd k_T_tell_1 6 rfl) (by decide) ?_
              refine zj_istore (loc' := [(4, .int q12.1), (0, .ref v0), (2, .int v2), (5, .int v5)]) o (zdd k_T_tell_1 9 rfl) (by decide) rfl ?_
              refine zj_goto (tgt := 334) o (zdd k_T_tell_1 10 rfl) (by decide) ?_
              refine zj_iinc (v := v5 + 1) (loc' := [(5, .int (v5 + 1)), (4, .int q12.1), (0, .ref v0), (2, .int v2)]) o (zdd k_T_tell_2 32 rfl) 3 rfl (by rw [zki_1]) (by decide) rfl ?_
              refine zj_goto (tgt := 42) o (zdd k_T_tell_2 33 rfl) (by decide) ?_
              exact zj_sub [2, 3, 1, 0] rfl (hk42 h hr)
          · rw [if_neg hc] at h
            rw [zcase_neg hc]
            by_cases hc : x4 = 6
            · rw [if_pos hc] at h
              rw [zcase_pos hc]
              refine zj_aload_n o (zdd k_T_tell_1 11 rfl) rfl 0 rfl ?_
              obtain ⟨a13, e_a13, h⟩ := zbd h
              refine zj_gP o (zdd k_T_tell_1 12 rfl) fl_T_32 rfl e_a13 ?_
              obtain ⟨x14, e_x14, h⟩ := zbd h
              refine zj_gI o (zdd k_T_tell_1 13 rfl) fl_T_77 rfl e_x14 ?_
              refine zj_bipush o (zdd k_T_tell_1 14 rfl) zkb_6 ?_
              refine zj_icmp_ge (tgt := 190) o (zdd k_T_tell_1 15 rfl) (by decide) (fun hc => ?_) (fun hc => ?_)
              · rw [if_pos hc] at h
                refine zj_aload_n o (zdd k_T_tell_1 19 rfl) rfl 0 rfl ?_
                obtain ⟨q15, e_q15, h⟩ := zbd h
                refine zc_V o (zdd k_T_tell_1 20 rfl) ml_T_68 mv_T_refuse ⟨rfl, by decide⟩ (zg_some e_q15).1 (by decide) [] [] rfl (Nat.le_of_ble_eq_true rfl) rfl (m_T_refuse e_q15) ?_
                change zPJ X 0 0 _ _ [.int q15.1] _
                refine zj_istore (loc' := [(4, .int q15.1), (0, .ref v0), (2, .int v2), (5, .int v5)]) o (zdd k_T_tell_1 21 rfl) (by decide) rfl ?_
                refine zj_goto (tgt := 334) o (zdd k_T_tell_1 22 rfl) (by decide) ?_
                refine zj_iinc (v := v5 + 1) (loc' := [(5, .int (v5 + 1)), (4, .int q15.1), (0, .ref v0), (2, .int v2)]) o (zdd k_T_tell_2 32 rfl) 3 rfl (by rw [zki_1]) (by decide) rfl ?_
                refine zj_goto (tgt := 42) o (zdd k_T_tell_2 33 rfl) (by decide) ?_
                exact zj_sub [2, 3, 1, 0] rfl (hk42 h hr)
              · rw [if_neg hc] at h
                refine zj_aload_n o (zdd k_T_tell_1 16 rfl) rfl 0 rfl ?_
                obtain ⟨q16, e_q16, h⟩ := zbd h
                refine zc_V o (zdd k_T_tell_1 17 rfl) ml_T_80 mv_T_readerLine ⟨rfl, by decide⟩ (zg_some e_q16).1 (by decide) [] [] rfl (Nat.le_of_ble_eq_true rfl) rfl (m_T_readerLine e_q16) ?_
                change zPJ X 0 0 _ _ [.int q16.1] _
                refine zj_goto (tgt := 194) o (zdd k_T_tell_1 18 rfl) (by decide) ?_
                refine zj_istore (loc' := [(4, .int q16.1), (0, .ref v0), (2, .int v2), (5, .int v5)]) o (zdd k_T_tell_1 21 rfl) (by decide) rfl ?_
                refine zj_goto (tgt := 334) o (zdd k_T_tell_1 22 rfl) (by decide) ?_
                refine zj_iinc (v := v5 + 1) (loc' := [(5, .int (v5 + 1)), (4, .int q16.1), (0, .ref v0), (2, .int v2)]) o (zdd k_T_tell_2 32 rfl) 3 rfl (by rw [zki_1]) (by decide) rfl ?_
                refine zj_goto (tgt := 42) o (zdd k_T_tell_2 33 rfl) (by decide) ?_
                exact zj_sub [2, 3, 1, 0] rfl (hk42 h hr)
            · rw [if_neg hc] at h
              rw [zcase_neg hc]
              by_cases hc : x4 = 7
              · rw [if_pos hc] at h
                rw [zcase_pos hc]
                refine zj_aload_n o (zdd k_T_tell_1 23 rfl) rfl 0 rfl ?_
                obtain ⟨q17, e_q17, h⟩ := zbd h
                refine zc_V o (zdd k_T_tell_1 24 rfl) ml_T_83 mv_T_isFirst ⟨rfl, by decide⟩ (zg_some e_q17).1 (by decide) [] [] rfl (Nat.le_of_ble_eq_true rfl) rfl (m_T_isFirst e_q17) ?_
                change zPJ X 0 0 _ _ [.int q17.1] _
                refine zj_if_eq (tgt := 220) o (zdd k_T_tell_1 25 rfl) (by decide) (fun hc => ?_) (fun hc => ?_)
                · rw [if_pos hc] at h
                  refine zj_aload_n o (zdd k_T_tell_1 32 rfl) rfl 0 rfl ?_
                  obtain ⟨q18, e_q18, h⟩ := zbd h
                  refine zc_V o (zdd k_T_tell_1 33 rfl) ml_T_68 mv_T_refuse ⟨rfl, by decide⟩ (zg_some e_q18).1 (by decide) [] [] rfl (Nat.le_of_ble_eq_true rfl) rfl (m_T_refuse e_q18) ?_
                  change zPJ X 0 0 _ _ [.int q18.1] _
                  refine zj_istore (loc' := [(4, .int q18.1), (0, .ref v0), (2, .int v2), (5, .int v5)]) o (zdd k_T_tell_1 34 rfl) (by decide) rfl ?_
                  refine zj_goto (tgt := 334) o (zdd k_T_tell_1 35 rfl) (by decide) ?_
                  refine zj_iinc (v := v5 + 1) (loc' := [(5, .int (v5 + 1)), (4, .int q18.1), (0, .ref v0), (2, .int v2)]) o (zdd k_T_tell_2 32 rfl) 3 rfl (by rw [zki_1]) (by decide) rfl ?_
                  refine zj_goto (tgt := 42) o (zdd k_T_tell_2 33 rfl) (by decide) ?_
                  exact zj_sub [2, 3, 1, 0] rfl (hk42 h hr)
                · rw [if_neg hc] at h
                  refine zj_aload_n o (zdd k_T_tell_1 26 rfl) rfl 0 rfl ?_
                  refine zj_aload_n o (zdd k_T_tell_1 27 rfl) rfl 0 rfl ?_
                  obtain ⟨a19, e_a19, h⟩ := zbd h
                  refine zj_gP o (zdd k_T_tell_1 28 rfl) fl_T_32 rfl e_a19 ?_
                  obtain ⟨a20, e_a20, h⟩ := zbd h
                  refine zj_gP o (zdd k_T_tell_1 29 rfl) fl_T_36 rfl e_a20 ?_
                  obtain ⟨q21, e_q21, h⟩ := zbd h
                  refine zc_V o (zdd k_T_tell_1 30 rfl) ml_T_86 mv_T_formulaLine ⟨rfl, by decide⟩ (zg_some e_q21).1 (by decide) [.ref a20] [] rfl (Nat.le_of_ble_eq_true rfl) rfl (m_T_formulaLine e_q21) ?_
                  change zPJ X 0 0 _ _ [.int q21.1] _
                  refine zj_goto (tgt := 224) o (zdd k_T_tell_1 31 rfl) (by decide) ?_
                  refine zj_istore (loc' := [(4, .int q21.1), (0, .ref v0), (2, .int v2), (5, .int v5)]) o (zdd k_T_tell_1 34 rfl) (by decide) rfl ?_
                  refine zj_goto (tgt := 334) o (zdd k_T_tell_1 35 rfl) (by decide) ?_
                  refine zj_iinc (v := v5 + 1) (loc' := [(5, .int (v5 + 1)), (4, .int q21.1), (0, .ref v0), (2, .int v2)]) o (zdd k_T_tell_2 32 rfl) 3 rfl (by rw [zki_1]) (by decide) rfl ?_
                  refine zj_goto (tgt := 42) o (zdd k_T_tell_2 33 rfl) (by decide) ?_
                  exact zj_sub [2, 3, 1, 0] rfl (hk42 h hr)
              · rw [if_neg hc] at h
                rw [zcase_neg hc]
                by_cases hc : x4 = 8
                · rw [if_pos hc] at h
                  rw [zcase_pos hc]
                  refine zj_aload_n o (zdd k_T_tell_1 36 rfl) rfl 0 rfl ?_
                  obtain ⟨q22, e_q22, h⟩ := zbd h
                  refine zc_V o (zdd k_T_tell_1 37 rfl) ml_T_83 mv_T_isFirst ⟨rfl, by decide⟩ (zg_some e_q22).1 (by decide) [] [] rfl (Nat.le_of_ble_eq_true rfl) rfl (m_T_isFirst e_q22) ?_
                  change zPJ X 0 0 _ _ [.int q22.1] _
                  refine zj_if_eq (tgt := 250) o (zdd k_T_tell_1 38 rfl) (by decide) (fun hc => ?_) (fun hc => ?_)
                  · rw [if_pos hc] at h
                    refine zj_aload_n o (zdd k_T_tell_1 45 rfl) rfl 0 rfl ?_
                    obtain ⟨q23, e_q23, h⟩ := zbd h
                    refine zc_V o (zdd k_T_tell_1 46 rfl) ml_T_68 mv_T_refuse ⟨rfl, by decide⟩ (zg_some e_q23).1 (by decide) [] [] rfl (Nat.le_of_ble_eq_true rfl) rfl (m_T_refuse e_q23) ?_
                    change zPJ X 0 0 _ _ [.int q23.1] _
                    refine zj_istore (loc' := [(4, .int q23.1), (0, .ref v0), (2, .int v2), (5, .int v5)]) o (zdd k_T_tell_1 47 rfl) (by decide) rfl ?_
                    refine zj_goto (tgt := 334) o (zdd k_T_tell_1 48 rfl) (by decide) ?_
                    refine zj_iinc (v := v5 + 1) (loc' := [(5, .int (v5 + 1)), (4, .int q23.1), (0, .ref v0), (2, .int v2)]) o (zdd k_T_tell_2 32 rfl) 3 rfl (by rw [zki_1]) (by decide) rfl ?_
                    refine zj_goto (tgt := 42) o (zdd k_T_tell_2 33 rfl) (by decide) ?_
                    exact zj_sub [2, 3, 1, 0] rfl (hk42 h hr)
                  · rw [if_neg hc] at h
                    refine zj_aload_n o (zdd k_T_tell_1 39 rfl) rfl 0 rfl ?_
                    refine zj_aload_n o (zdd k_T_tell_1 40 rfl) rfl 0 rfl ?_
                    obtain ⟨a24, e_a24, h⟩ := zbd h
                    refine zj_gP o (zdd k_T_tell_1 41 rfl) fl_T_32 rfl e_a24 ?_
                    obtain ⟨a25, e_a25, h⟩ := zbd h
                    refine zj_gP o (zdd k_T_tell_1 42 rfl) fl_T_90 rfl e_a25 ?_
                    obtain ⟨q26, e_q26, h⟩ := zbd h
                    refine zc_V o (zdd k_T_tell_1 43 rfl) ml_T_86 mv_T_formulaLine ⟨rfl, by decide⟩ (zg_some e_q26).1 (by decide) [.ref a25] [] rfl (Nat.le_of_ble_eq_true rfl) rfl (m_T_formulaLine e_q26) ?_
                    change zPJ X 0 0 _ _ [.int q26.1] _
                    refine zj_goto (tgt := 254) o (zdd k_T_tell_1 44 rfl) (by decide) ?_
                    refine zj_istore (loc' := [(4, .int q26.1), (0, .ref v0), (2, .int v2), (5, .int v5)]) o (zdd k_T_tell_1 47 rfl) (by decide) rfl ?_
                    refine zj_goto (tgt := 334) o (zdd k_T_tell_1 48 rfl) (by decide) ?_
                    refine zj_iinc (v := v5 + 1) (loc' := [(5, .int (v5 + 1)), (4, .int q26.1), (0, .ref v0), (2, .int v2)]) o (zdd k_T_tell_2 32 rfl) 3 rfl (by rw [zki_1]) (by decide) rfl ?_
                    refine zj_goto (tgt := 42) o (zdd k_T_tell_2 33 rfl) (by decide) ?_
                    exact zj_sub [2, 3, 1, 0] rfl (hk42 h hr)
                · rw [if_neg hc] at h
                  rw [zcase_neg hc]
                  by_cases hc : x4 = 9
                  · rw [if_pos hc] at h
                    rw [zcase_pos hc]
                    refine zj_aload_n o (zdd k_T_tell_1 49 rfl) rfl 0 rfl ?_
                    obtain ⟨q27, e_q27, h⟩ := zbd h
                    refine zc_V o (zdd k_T_tell_2 0 rfl) ml_T_83 mv_T_isFirst ⟨rfl, by decide⟩ (zg_some e_q27).1 (by decide) [] [] rfl (Nat.le_of_ble_eq_true rfl) rfl (m_T_isFirst e_q27) ?_
                    change zPJ X 0 0 _ _ [.int q27.1] _
                    refine zj_if_eq (tgt := 273) o (zdd k_T_tell_2 1 rfl) (by decide) (fun hc => ?_) (fun hc => ?_)
                    · rw [if_pos hc] at h
                      refine zj_aload_n o (zdd k_T_tell_2 5 rfl) rfl 0 rfl ?_
                      obtain ⟨q28, e_q28, h⟩ := zbd h
                      refine zc_V o (zdd k_T_tell_2 6 rfl) ml_T_68 mv_T_refuse ⟨rfl, by decide⟩ (zg_some e_q28).1 (by decide) [] [] rfl (Nat.le_of_ble_eq_true rfl) rfl (m_T_refuse e_q28) ?_
                      change zPJ X 0 0 _ _ [.int q28.1] _
                      refine zj_istore (loc' := [(4, .int q28.1), (0, .ref v0), (2, .int v2), (5, .int v5)]) o (zdd k_T_tell_2 7 rfl) (by decide) rfl ?_
                      refine zj_goto (tgt := 334) o (zdd k_T_tell_2 8 rfl) (by decide) ?_
                      refine zj_iinc (v := v5 + 1) (loc' := [(5, .int (v5 + 1)), (4, .int q28.1), (0, .ref v0), (2, .int v2)]) o (zdd k_T_tell_2 32 rfl) 3 rfl (by rw [zki_1]) (by decide) rfl ?_
                      refine zj_goto (tgt := 42) o (zdd k_T_tell_2 33 rfl) (by decide) ?_
                      exact zj_sub [2, 3, 1, 0] rfl (hk42 h hr)
                    · rw [if_neg hc] at h
                      refine zj_aload_n o (zdd k_T_tell_2 2 rfl) rfl 0 rfl ?_
                      obtain ⟨q29, e_q29, h⟩ := zbd h
                      refine zc_V o (zdd k_T_tell_2 3 rfl) ml_T_93 mv_T_quarrelLine ⟨rfl, by decide⟩ (zg_some e_q29).1 (by decide) [] [] rfl (Nat.le_of_ble_eq_true rfl) rfl (m_T_quarrelLine e_q29) ?_
                      change zPJ X 0 0 _ _ [.int q29.1] _
                      refine zj_goto (tgt := 277) o (zdd k_T_tell_2 4 rfl) (by decide) ?_
                      refine zj_istore (loc' := [(4, .int q29.1), (0, .ref v0), (2, .int v2), (5, .int v5)]) o (zdd k_T_tell_2 7 rfl) (by decide) rfl ?_
                      refine zj_goto (tgt := 334) o (zdd k_T_tell_2 8 rfl) (by decide) ?_
                      refine zj_iinc (v := v5 + 1) (loc' := [(5, .int (v5 + 1)), (4, .int q29.1), (0, .ref v0), (2, .int v2)]) o (zdd k_T_tell_2 32 rfl) 3 rfl (by rw [zki_1]) (by decide) rfl ?_
                      refine zj_goto (tgt := 42) o (zdd k_T_tell_2 33 rfl) (by decide) ?_
                      exact zj_sub [2, 3, 1, 0] rfl (hk42 h hr)
                  · rw [if_neg hc] at h
                    rw [zcase_neg hc]
                    by_cases hc : x4 = 10
                    · rw [if_pos hc] at h
                      rw [zcase_pos hc]
                      refine zj_aload_n o (zdd k_T_tell_2 9 rfl) rfl 0 rfl ?_
                      obtain ⟨q30, e_q30, h⟩ := zbd h
                      refine zc_V o (zdd k_T_tell_2 10 rfl) ml_T_83 mv_T_isFirst ⟨rfl, by decide⟩ (zg_some e_q30).1 (by decide) [] [] rfl (Nat.le_of_ble_eq_true rfl) rfl (m_T_isFirst e_q30) ?_
                      change zPJ X 0 0 _ _ [.int q30.1] _
                      refine zj_if_eq (tgt := 296) o (zdd k_T_tell_2 11 rfl) (by decide) (fun hc => ?_) (fun hc => ?_)
                      · rw [if_pos hc] at h
                        refine zj_aload_n o (zdd k_T_tell_2 15 rfl) rfl 0 rfl ?_
                        obtain ⟨q31, e_q31, h⟩ := zbd h
                        refine zc_V o (zdd k_T_tell_2 16 rfl) ml_T_68 mv_T_refuse ⟨rfl, by decide⟩ (zg_some e_q31).1 (by decide) [] [] rfl (Nat.le_of_ble_eq_true rfl) rfl (m_T_refuse e_q31) ?_
                        change zPJ X 0 0 _ _ [.int q31.1] _
                        refine zj_istore (loc' := [(4, .int q31.1), (0, .ref v0), (2, .int v2), (5, .int v5)]) o (zdd k_T_tell_2 17 rfl) (by decide) rfl ?_
                        refine zj_goto (tgt := 334) o (zdd k_T_tell_2 18 rfl) (by decide) ?_
                        refine zj_iinc (v := v5 + 1) (loc' := [(5, .int (v5 + 1)), (4, .int q31.1), (0, .ref v0), (2, .int v2)]) o (zdd k_T_tell_2 32 rfl) 3 rfl (by rw [zki_1]) (by decide) rfl ?_
                        refine zj_goto (tgt := 42) o (zdd k_T_tell_2 33 rfl) (by decide) ?_
                        exact zj_sub [2, 3, 1, 0] rfl (hk42 h hr)
                      · rw [if_neg hc] at h
                        refine zj_aload_n o (zdd k_T_tell_2 12 rfl) rfl 0 rfl ?_
                        obtain ⟨q32, e_q32, h⟩ := zbd h
                        refine zc_V o (zdd k_T_tell_2 13 rfl) ml_T_96 mv_T_shelfLine ⟨rfl, by decide⟩ (zg_some e_q32).1 (by decide) [] [] rfl (Nat.le_of_ble_eq_true rfl) rfl (m_T_shelfLine e_q32) ?_
                        change zPJ X 0 0 _ _ [.int q32.1] _
                        refine zj_goto (tgt := 300) o (zdd k_T_tell_2 14 rfl) (by decide) ?_
                        refine zj_istore (loc' := [(4, .int q32.1), (0, .ref v0), (2, .int v2), (5, .int v5)]) o (zdd k_T_tell_2 17 rfl) (by decide) rfl ?_
                        refine zj_goto (tgt := 334) o (zdd k_T_tell_2 18 rfl) (by decide) ?_
                        refine zj_iinc (v := v5 + 1) (loc' := [(5, .int (v5 + 1)), (4, .int q32.1), (0, .ref v0), (2, .int v2)]) o (zdd k_T_tell_2 32 rfl) 3 rfl (by rw [zki_1]) (by decide) rfl ?_
                        refine zj_goto (tgt := 42) o (zdd k_T_tell_2 33 rfl) (by decide) ?_
                        exact zj_sub [2, 3, 1, 0] rfl (hk42 h hr)
                    · rw [if_neg hc] at h
                      rw [zcase_neg hc]
                      by_cases hc : x4 = 11
                      · rw [if_pos hc] at h
                        rw [zcase_pos hc]
                        refine zj_aload_n o (zdd k_T_tell_2 19 rfl) rfl 0 rfl ?_
                        obtain ⟨q33, e_q33, h⟩ := zbd h
                        refine zc_V o (zdd k_T_tell_2 20 rfl) ml_T_83 mv_T_isFirst ⟨rfl, by decide⟩ (zg_some e_q33).1 (by decide) [] [] rfl (Nat.le_of_ble_eq_true rfl) rfl (m_T_isFirst e_q33) ?_
                        change zPJ X 0 0 _ _ [.int q33.1] _
                        refine zj_if_eq (tgt := 319) o (zdd k_T_tell_2 21 rfl) (by decide) (fun hc => ?_) (fun hc => ?_)
                        · rw [if_pos hc] at h
                          refine zj_aload_n o (zdd k_T_tell_2 25 rfl) rfl 0 rfl ?_
                          obtain ⟨q34, e_q34, h⟩ := zbd h
                          refine zc_V o (zdd k_T_tell_2 26 rfl) ml_T_68 mv_T_refuse ⟨rfl, by decide⟩ (zg_some e_q34).1 (by decide) [] [] rfl (Nat.le_of_ble_eq_true rfl) rfl (m_T_refuse e_q34) ?_
                          change zPJ X 0 0 _ _ [.int q34.1] _
                          refine zj_istore (loc' := [(4, .int q34.1), (0, .ref v0), (2, .int v2), (5, .int v5)]) o (zdd k_T_tell_2 27 rfl) (by decide) rfl ?_
                          refine zj_goto (tgt := 334) o (zdd k_T_tell_2 28 rfl) (by decide) ?_
                          refine zj_iinc (v := v5 + 1) (loc' := [(5, .int (v5 + 1)), (4, .int q34.1), (0, .ref v0), (2, .int v2)]) o (zdd k_T_tell_2 32 rfl) 3 rfl (by rw [zki_1]) (by decide) rfl ?_
                          refine zj_goto (tgt := 42) o (zdd k_T_tell_2 33 rfl) (by decide) ?_
                          exact zj_sub [2, 3, 1, 0] rfl (hk42 h hr)
                        · rw [if_neg hc] at h
                          refine zj_aload_n o (zdd k_T_tell_2 22 rfl) rfl 0 rfl ?_
                          obtain ⟨q35, e_q35, h⟩ := zbd h
                          refine zc_V o (zdd k_T_tell_2 23 rfl) ml_T_99 mv_T_moodLine ⟨rfl, by decide⟩ (zg_some e_q35).1 (by decide) [] [] rfl (Nat.le_of_ble_eq_true rfl) rfl (m_T_moodLine e_q35) ?_
                          change zPJ X 0 0 _ _ [.int q35.1] _
                          refine zj_goto (tgt := 323) o (zdd k_T_tell_2 24 rfl) (by decide) ?_
                          refine zj_istore (loc' := [(4, .int q35.1), (0, .ref v0), (2, .int v2), (5, .int v5)]) o (zdd k_T_tell_2 27 rfl) (by decide) rfl ?_
                          refine zj_goto (tgt := 334) o (zdd k_T_tell_2 28 rfl) (by decide) ?_
                          refine zj_iinc (v := v5 + 1) (loc' := [(5, .int (v5 + 1)), (4, .int q35.1), (0, .ref v0), (2, .int v2)]) o (zdd k_T_tell_2 32 rfl) 3 rfl (by rw [zki_1]) (by decide) rfl ?_
                          refine zj_goto (tgt := 42) o (zdd k_T_tell_2 33 rfl) (by decide) ?_
                          exact zj_sub [2, 3, 1, 0] rfl (hk42 h hr)
                      · rw [if_neg hc] at h
                        rw [zcase_neg hc]
                        change zPJ X 0 0 328 _ _ _
                        refine zj_aload_n o (zdd k_T_tell_2 29 rfl) rfl 0 rfl ?_
                        obtain ⟨q36, e_q36, h⟩ := zbd h
                        refine zc_V o (zdd k_T_tell_2 30 rfl) ml_T_68 mv_T_refuse ⟨rfl, by decide⟩ (zg_some e_q36).1 (by decide) [] [] rfl (Nat.le_of_ble_eq_true rfl) rfl (m_T_refuse e_q36) ?_
                        change zPJ X 0 0 _ _ [.int q36.1] _
                        refine zj_istore (loc' := [(4, .int q36.1), (0, .ref v0), (2, .int v2), (5, .int v5)]) o (zdd k_T_tell_2 31 rfl) (by decide) rfl ?_
                        refine zj_iinc (v := v5 + 1) (loc' := [(5, .int (v5 + 1)), (4, .int q36.1), (0, .ref v0), (2, .int v2)]) o (zdd k_T_tell_2 32 rfl) 3 rfl (by rw [zki_1]) (by decide) rfl ?_
                        refine zj_goto (tgt := 42) o (zdd k_T_tell_2 33 rfl) (by decide) ?_
                        exact zj_sub [2, 3, 1, 0] rfl (hk42 h hr)
def f_T_tell_42L : Nat → zSt → Nat → Int32 → Int32 → Int32 → Option (Int32 × zSt)
  | 0 => fun _ _ _ _ _ => none
  | n + 1 => f_T_tell_42  (f_T_tell_42L  n)
theorem r_T_tell_42L {X : zCX} (o : zOK X "WantShelves$Teller" c_T_tell n_T_tell 131) : ∀ (n : Nat) {σ : zSt} {v0 : Nat} {v2 : Int32} {v4 : Int32} {v5 : Int32} {z : Int32 × zSt}, f_T_tell_42L n σ v0 v2 v4 v5 = some z → zRX X 0 0 (some (.int z.1)) z.2 → zPJ X 0 0 42 [(0, .ref v0), (2, .int v2), (4, .int v4), (5, .int v5)] [] σ
  | 0 => fun h _ => by cases h
  | n + 1 => fun h hr => r_T_tell_42 o (r_T_tell_42L o  n) h hr
def f_T_tell (σ : zSt) (t : Nat) (p0 : Nat) (p1 : Int32) (p2 : Nat) : Option (Int32 × zSt) :=
zg σ 9 t (
((zsP σ 9 t 6 p2).bind fun σ1 =>
(zgP σ1 9 t 6).bind fun a2 =>
(f_D_forget σ1 a2).bind fun σ3 =>
(zsI σ3 9 t 9 0).bind fun σ4 =>
(zsI σ4 9 t 0 0).bind fun σ5 =>
(zsI σ5 9 t 1 (-1)).bind fun σ6 =>
(zgP σ6 9 t 2).bind fun a7 =>
(f_C_begin σ6 a7 p0 p1).bind fun σ8 =>
f_T_tell_42L zfu σ8 t p1 1 0).bind fun q => (zbool q.1).bind fun x => some (x, q.2))
set_option maxRecDepth 100000 in
set_option maxHeartbeats 4000000 in
theorem m_T_tell {l : Launch} {b : Nat} {ex : Nat → Value} {D : va_G} {ca : Nat → ClassId} {σ : zSt} {t : Nat} {p0 : Nat} {p1 : Int32} {p2 : Nat} {z : Int32 × zSt} (h : f_T_tell σ t p0 p1 p2 = some z) : zMT l b ex D ca 131 y_T_tell c_T_tell n_T_tell r_ret_T_tell [.ref t, .ref p0, .int p1, .ref p2] σ (some (.int z.1)) z.2 0 0 := by
  obtain ⟨_, hg0⟩ := zg_some h
  obtain ⟨z0, hbd, hz⟩ := zbd hg0
  obtain ⟨z1, hz1, hzz⟩ := zbd hz
  obtain ⟨hzb, rfl⟩ := zbool_some hz1
  cases hzz
  have h := hbd
  refine zmt_of (by decide) (Nat.le_of_ble_eq_true rfl) ⟨.boolean, rfl, zb_nar hzb⟩ (fun X o hin hrm _ _ _ _ _ hr => ?_)
  have hr := hr 0 0 (by decide) (by decide)
  have o : zOK X "WantShelves$Teller" c_T_tell n_T_tell 131 := o
  change zPJ X 0 0 0 [(0, .ref t), (1, .ref p0), (2, .int p1), (3, .ref p2)] [] σ
  refine zj_aload_n o (zdd k_T_tell_0 0 rfl) rfl 0 rfl ?_
  refine zj_aload_n o (zdd k_T_tell_0 1 rfl) rfl 3 rfl ?_
  obtain ⟨σ1, e_σ1, h⟩ := zbd h
  refine zj_pP o (zdd k_T_tell_0 2 rfl) fl_T_32 (Or.inl ⟨_, rfl⟩) rfl e_σ1 ?_
  refine zj_aload_n o (zdd k_T_tell_0 3 rfl) rfl 0 rfl ?_
  obtain ⟨a2, e_a2, h⟩ := zbd h
  refine zj_gP o (zdd k_T_tell_0 4 rfl) fl_T_32 rfl e_a2 ?_
  obtain ⟨σ3, e_σ3, h⟩ := zbd h
  refine zc_V o (zdd k_T_tell_0 5 rfl) ml_T_45 mv_D_forget ⟨rfl, by decide⟩ (zg_some e_σ3).1 (by decide) [] [] rfl (Nat.le_of_ble_eq_true rfl) rfl (m_D_forget e_σ3) ?_
  change zPJ X 0 0 _ _ [] _
  refine zj_aload_n o (zdd k_T_tell_0 6 rfl) rfl 0 rfl ?_
  refine zj_iconst o (zdd k_T_tell_0 7 rfl) zki_0 ?_
  obtain ⟨σ4, e_σ4, h⟩ := zbd h
  refine zj_pI o (zdd k_T_tell_0 8 rfl) fl_T_48 rfl rfl e_σ4 ?_
  refine zj_aload_n o (zdd k_T_tell_0 9 rfl) rfl 0 rfl ?_
  refine zj_iconst o (zdd k_T_tell_0 10 rfl) zki_0 ?_
  obtain ⟨σ5, e_σ5, h⟩ := zbd h
  refine zj_pI o (zdd k_T_tell_0 11 rfl) fl_T_51 rfl rfl e_σ5 ?_
  refine zj_aload_n o (zdd k_T_tell_0 12 rfl) rfl 0 rfl ?_
  refine zj_iconst o (zdd k_T_tell_0 13 rfl) zki_m1 ?_
  obtain ⟨σ6, e_σ6, h⟩ := zbd h
  refine zj_pI o (zdd k_T_tell_0 14 rfl) fl_T_9 rfl rfl e_σ6 ?_
  refine zj_aload_n o (zdd k_T_tell_0 15 rfl) rfl 0 rfl ?_
  obtain ⟨a7, e_a7, h⟩ := zbd h
  refine zj_gP o (zdd k_T_tell_0 16 rfl) fl_T_18 rfl e_a7 ?_
  refine zj_aload_n o (zdd k_T_tell_0 17 rfl) rfl 1 rfl ?_
  refine zj_iload_n o (zdd k_T_tell_0 18 rfl) rfl 2 rfl ?_
  obtain ⟨σ8, e_σ8, h⟩ := zbd h
  refine zc_V o (zdd k_T_tell_0 19 rfl) ml_T_54 mv_C_begin ⟨rfl, by decide⟩ (zg_some e_σ8).1 (by decide) [.ref p0, .int p1] [] rfl (Nat.le_of_ble_eq_true rfl) rfl (m_C_begin e_σ8) ?_
  change zPJ X 0 0 _ _ [] _
  refine zj_iconst o (zdd k_T_tell_0 20 rfl) zki_1 ?_
  refine zj_istore (loc' := [(4, .int 1), (0, .ref t), (1, .ref p0), (2, .int p1), (3, .ref p2)]) o (zdd k_T_tell_0 21 rfl) (by decide) rfl ?_
  refine zj_iconst o (zdd k_T_tell_0 22 rfl) zki_0 ?_
  refine zj_istore (loc' := [(5, .int 0), (4, .int 1), (0, .ref t), (1, .ref p0), (2, .int p1), (3, .ref p2)]) o (zdd k_T_tell_0 23 rfl) (by decide) rfl ?_
  exact zj_sub [2, 4, 1, 0] rfl (r_T_tell_42L o  zfu h hr)
