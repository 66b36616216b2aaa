def f_R_size (σ : zSt) (t : Nat) : Option (Int32) :=
zg σ 6 t (
(zgI σ 6 t 4).bind fun x1 =>
some x1)
set_option maxRecDepth 100000 in
set_option maxHeartbeats 4000000 in
theorem m_R_size {l : Launch} {b : Nat} {ex : Nat → Value} {D : va_G} {ca : Nat → ClassId} {σ : zSt} {t : Nat} {z : Int32} (h : f_R_size σ t = some z) : zMT l b ex D ca 1 y_R_size c_R_size n_R_size r_ret_R_size [.ref t] σ (some (.int z)) σ 0 0 := by
  obtain ⟨_, hg0⟩ := zg_some h
  have h := hg0
  refine zmt_of (by decide) (Nat.le_of_ble_eq_true rfl) ⟨.int, rfl, rfl⟩ (fun X o hin hrm _ _ _ _ _ hr => ?_)
  have hr := hr 0 0 (by decide) (by decide)
  have o : zOK X "WantShelves$Rows" c_R_size n_R_size 1 := o
  change zPJ X 0 0 0 [(0, .ref t)] [] σ
  refine zj_aload_n o (zdd k_R_size 0 rfl) rfl 0 rfl ?_
  obtain ⟨x1, e_x1, h⟩ := zbd h
  refine zj_gI o (zdd k_R_size 1 rfl) fl_R_54 rfl e_x1 ?_
  cases h
  exact zr_i o hr (zdd k_R_size 2 rfl)
def f_R_wear (σ : zSt) (t : Nat) (p0 : Nat) (p1 : Int32) : Option (zSt) :=
zg σ 6 t (
(zgI σ 6 t 2).bind fun x1 =>
(zgP σ 6 t 6).bind fun a2 =>
(f_S_pretendRow σ p0 x1 a2 (p1 * 10)).bind fun σ3 =>
some σ3)
set_option maxRecDepth 100000 in
set_option maxHeartbeats 4000000 in
theorem m_R_wear {l : Launch} {b : Nat} {ex : Nat → Value} {D : va_G} {ca : Nat → ClassId} {σ : zSt} {t : Nat} {p0 : Nat} {p1 : Int32} {z : zSt} (h : f_R_wear σ t p0 p1 = some z) : zMT l b ex D ca 2 y_R_wear c_R_wear n_R_wear r_ret_R_wear [.ref t, .ref p0, .int p1] σ none z 0 0 := by
  obtain ⟨_, hg0⟩ := zg_some h
  have h := hg0
  refine zmt_of (by decide) (Nat.le_of_ble_eq_true rfl) rfl (fun X o hin hrm _ _ _ _ _ hr => ?_)
  have hr := hr 0 0 (by decide) (by decide)
  have o : zOK X "WantShelves$Rows" c_R_wear n_R_wear 2 := o
  change zPJ X 0 0 0 [(0, .ref t), (1, .ref p0), (2, .int p1)] [] σ
  refine zj_aload_n o (zdd k_R_wear 0 rfl) rfl 1 rfl ?_
  refine zj_aload_n o (zdd k_R_wear 1 rfl) rfl 0 rfl ?_
  obtain ⟨x1, e_x1, h⟩ := zbd h
  refine zj_gI o (zdd k_R_wear 2 rfl) fl_R_21 rfl e_x1 ?_
  refine zj_aload_n o (zdd k_R_wear 3 rfl) rfl 0 rfl ?_
  obtain ⟨a2, e_a2, h⟩ := zbd h
  refine zj_gP o (zdd k_R_wear 4 rfl) fl_R_15 rfl e_a2 ?_
  refine zj_iload_n o (zdd k_R_wear 5 rfl) rfl 2 rfl ?_
  refine zj_bipush o (zdd k_R_wear 6 rfl) zkb_10 ?_
  refine zj_imul o (zdd k_R_wear 7 rfl) ?_
  obtain ⟨σ3, e_σ3, h⟩ := zbd h
  refine zc_V o (zdd k_R_wear 8 rfl) ml_R_68 mv_S_pretendRow ⟨rfl, by decide⟩ (zg_some e_σ3).1 (by decide) [.int x1, .ref a2, .int (p1 * 10)] [] rfl (Nat.le_of_ble_eq_true rfl) rfl (m_S_pretendRow e_σ3) ?_
  change zPJ X 0 0 _ _ [] _
  cases h
  exact zr_v o hr (zdd k_R_wear 9 rfl)
def f_R_init (σ : zSt) (t : Nat) : Option (zSt) :=
zg σ 6 t (
(some (znew σ (1, 2500))).bind fun (σ1 : zSt) =>
(some σ.1.length).bind fun (a2 : Nat) =>
(zsP σ1 6 t 5 a2).bind fun σ3 =>
(some (znew σ3 (1, 6250))).bind fun (σ4 : zSt) =>
(some σ3.1.length).bind fun (a5 : Nat) =>
(zsP σ4 6 t 6 a5).bind fun σ6 =>
(some (znew σ6 (1, 625))).bind fun (σ7 : zSt) =>
(some σ6.1.length).bind fun (a8 : Nat) =>
(zsP σ7 6 t 7 a8).bind fun σ9 =>
some σ9)
set_option maxRecDepth 100000 in
set_option maxHeartbeats 4000000 in
theorem m_R_init {l : Launch} {b : Nat} {ex : Nat → Value} {D : va_G} {ca : Nat → ClassId} {σ : zSt} {t : Nat} {z : zSt} (h : f_R_init σ t = some z) : zMT l b ex D ca 1 y_R_init c_R_init n_R_init r_ret_R_init [.ref t] σ none z 3 9375 := by
  obtain ⟨_, hg0⟩ := zg_some h
  have h := hg0
  refine zmt_of (by decide) (Nat.le_of_ble_eq_true rfl) rfl (fun X o hin hrm _ _ _ _ _ hr => ?_)
  have hin := hin rfl
  have hr := hr 3 9375 (by decide) (by decide)
  have o : zOK X "WantShelves$Rows" c_R_init n_R_init 1 := o
  change zPJ X 0 0 0 [(0, .ref t)] [] σ
  refine zj_aload_n o (zdd k_R_init 0 rfl) rfl 0 rfl ?_
  refine zj_objInit o (zdd k_R_init 1 rfl) ml_R_3 ob_im ob_code (by decide) (Nat.le_of_ble_eq_true rfl) ?_
  refine zj_aload_n o (zdd k_R_init 2 rfl) rfl 0 rfl ?_
  refine zj_sipush o (zdd k_R_init 3 rfl) zks_2500 ?_
  obtain ⟨σ1, e_σ1, h⟩ := zbd h
  refine zj_newa_int (N := 2500) (mc := 3) (ms := 9375) o (zdd k_R_init 4 rfl) ac_int (by decide) (by decide) (by decide) hrm (by decide) (by decide) ?_
  rw [Option.some.inj e_σ1]
  change zPJ X 1 2500 _ _ _ _
  obtain ⟨a2, e_a2, h⟩ := zbd h
  rw [Option.some.inj e_a2]
  obtain ⟨σ3, e_σ3, h⟩ := zbd h
  refine zj_fP o (zdd k_R_init 5 rfl) fl_R_11 (Or.inr ⟨_, rfl⟩) hin rfl rfl e_σ3 ?_
  refine zj_aload_n o (zdd k_R_init 6 rfl) rfl 0 rfl ?_
  refine zj_sipush o (zdd k_R_init 7 rfl) zks_6250 ?_
  obtain ⟨σ4, e_σ4, h⟩ := zbd h
  refine zj_newa_int (N := 6250) (mc := 3) (ms := 9375) o (zdd k_R_init 8 rfl) ac_int (by decide) (by decide) (by decide) hrm (by decide) (by decide) ?_
  rw [Option.some.inj e_σ4]
  change zPJ X 2 8750 _ _ _ _
  obtain ⟨a5, e_a5, h⟩ := zbd h
  rw [Option.some.inj e_a5]
  obtain ⟨σ6, e_σ6, h⟩ := zbd h
  refine zj_fP o (zdd k_R_init 9 rfl) fl_R_15 (Or.inr ⟨_, rfl⟩) hin rfl rfl e_σ6 ?_
  refine zj_aload_n o (zdd k_R_init 10 rfl) rfl 0 rfl ?_
  refine zj_sipush o (zdd k_R_init 11 rfl) zks_625 ?_
  obtain ⟨σ7, e_σ7, h⟩ := zbd h
  refine zj_newa_int (N := 625) (mc := 3) (ms := 9375) o (zdd k_R_init 12 rfl) ac_int (by decide) (by decide) (by decide) hrm (by decide) (by decide) ?_
  rw [Option.some.inj e_σ7]
  change zPJ X 3 9375 _ _ _ _
  obtain ⟨a8, e_a8, h⟩ := zbd h
  rw [Option.some.inj e_a8]
  obtain ⟨σ9, e_σ9, h⟩ := zbd h
  refine zj_fP o (zdd k_R_init 13 rfl) fl_R_18 (Or.inr ⟨_, rfl⟩) hin rfl rfl e_σ9 ?_
  cases h
  exact zr_v o hr (zdd k_R_init 14 rfl)
def f_R_canBe (p0 : Int32) : Option (Int32) :=
(if p0 = 1 then (
some 1) else
if p0 = 2 then (
some 1) else
some 0).bind zbool
set_option maxRecDepth 100000 in
set_option maxHeartbeats 4000000 in
theorem m_R_canBe {l : Launch} {b : Nat} {ex : Nat → Value} {D : va_G} {ca : Nat → ClassId} {σ : zSt} {p0 : Int32} {z : Int32} (h : f_R_canBe p0 = some z) : zMT l b ex D ca 1 y_R_canBe c_R_canBe n_R_canBe r_ret_R_canBe [.int p0] σ (some (.int z)) σ 0 0 := by
  obtain ⟨z0, hbd, hz⟩ := zbd h
  obtain ⟨hzb, rfl⟩ := zbool_some hz
  have h := hbd
  refine zmt_of (by decide) (Nat.le_of_ble_eq_true rfl) ⟨.boolean, rfl, zb_nar hzb⟩ (fun X o hin hrm _ _ _ _ _ hr => ?_)
  have hr := hr 0 0 (by decide) (by decide)
  have o : zOK X "WantShelves$Rows" c_R_canBe n_R_canBe 1 := o
  change zPJ X 0 0 0 [(0, .int p0)] [] σ
  refine zj_iload_n o (zdd k_R_canBe 0 rfl) rfl 0 rfl ?_
  refine zj_iconst o (zdd k_R_canBe 1 rfl) zki_1 ?_
  refine zj_icmp_eq (tgt := 10) o (zdd k_R_canBe 2 rfl) (by decide) (fun hc => ?_) (fun hc => ?_)
  · rw [if_pos hc] at h
    refine zj_iconst o (zdd k_R_canBe 6 rfl) zki_1 ?_
    refine zj_goto (tgt := 15) o (zdd k_R_canBe 7 rfl) (by decide) ?_
    cases h
    exact zr_i o hr (zdd k_R_canBe 9 rfl)
  · rw [if_neg hc] at h
    refine zj_iload_n o (zdd k_R_canBe 3 rfl) rfl 0 rfl ?_
    refine zj_iconst o (zdd k_R_canBe 4 rfl) zki_2 ?_
    refine zj_icmp_ne (tgt := 14) o (zdd k_R_canBe 5 rfl) (by decide) (fun hc => ?_) (fun hc => ?_)
    · rw [if_neg hc] at h
      refine zj_iconst o (zdd k_R_canBe 8 rfl) zki_0 ?_
      cases h
      exact zr_i o hr (zdd k_R_canBe 9 rfl)
    · rw [if_pos hc] at h
      refine zj_iconst o (zdd k_R_canBe 6 rfl) zki_1 ?_
      refine zj_goto (tgt := 15) o (zdd k_R_canBe 7 rfl) (by decide) ?_
      cases h
      exact zr_i o hr (zdd k_R_canBe 9 rfl)
def f_R_fillCells_58 (k39 : zSt → Nat → Int32 → Int32 → Int32 → Option (zSt)) (k58 : zSt → Nat → Int32 → Int32 → Int32 → Int32 → Int32 → Option (zSt)) (σ : zSt) (v0 : Nat) (v1 : Int32) (v2 : Int32) (v3 : Int32) (v4 : Int32) (v5 : Int32) : Option (zSt) :=
if v5 < 0 then (
k39 σ v0 v1 v2 (v3 + 1)) else
(zgP σ 6 v0 5).bind fun a1 =>
(znz v2).bind fun n2 =>
(zwI σ 1 a1 ((v3 * 4) + v5) ((zrem v4 v2) - v1)).bind fun σ3 =>
(znz v2).bind fun n4 =>
k58 σ3 v0 v1 v2 v3 (v4 / v2) (v5 + (-1))
set_option maxRecDepth 100000 in
set_option maxHeartbeats 4000000 in
theorem r_R_fillCells_58 {X : zCX} (o : zOK X "WantShelves$Rows" c_R_fillCells n_R_fillCells 1) {k39 : zSt → Nat → Int32 → Int32 → Int32 → Option (zSt)} {k58 : zSt → Nat → Int32 → Int32 → Int32 → Int32 → Int32 → Option (zSt)} (hk39 : ∀ {σ : zSt} {v0 : Nat} {v1 : Int32} {v2 : Int32} {v3 : Int32} {z : zSt}, k39 σ v0 v1 v2 v3 = some z → zRX X 0 0 none z → zPJ X 0 0 39 [(0, .ref v0), (1, .int v1), (2, .int v2), (3, .int v3)] [] σ) (hk58 : ∀ {σ : zSt} {v0 : Nat} {v1 : Int32} {v2 : Int32} {v3 : Int32} {v4 : Int32} {v5 : Int32} {z : zSt}, k58 σ v0 v1 v2 v3 v4 v5 = some z → zRX X 0 0 none z → zPJ X 0 0 58 [(0, .ref v0), (1, .int v1), (2, .int v2), (3, .int v3), (4, .int v4), (5, .int v5)] [] σ) {σ : zSt} {v0 : Nat} {v1 : Int32} {v2 : Int32} {v3 : Int32} {v4 : Int32} {v5 : Int32} {z : zSt} (h : f_R_fillCells_58 k39 k58 σ v0 v1 v2 v3 v4 v5 = some z) (hr : zRX X 0 0 none z) : zPJ X 0 0 58 [(0, .ref v0), (1, .int v1), (2, .int v2), (3, .int v3), (4, .int v4), (5, .int v5)] [] σ := by
  unfold f_R_fillCells_58 at h
  refine zj_iload o (zdd k_R_fillCells 36 rfl) 5 rfl ?_
  refine zj_if_lt (tgt := 92) o (zdd k_R_fillCells 37 rfl) (by decide) (fun hc => ?_) (fun hc => ?_)
  · rw [if_pos hc] at h
    refine zj_iinc (v := v3 + 1) (loc' := [(3, .int (v3 + 1)), (0, .ref v0), (1, .int v1), (2, .int v2), (4, .int v4), (5, .int v5)]) o (zdd k_R_fillCells 57 rfl) 3 rfl (by rw [zki_1]) (by decide) rfl ?_
    refine zj_goto (tgt := 39) o (zdd k_R_fillCells 58 rfl) (by decide) ?_
    exact zj_sub [1, 2, 3, 0] rfl (hk39 h hr)
  · rw [if_neg hc] at h
    refine zj_aload_n o (zdd k_R_fillCells 38 rfl) rfl 0 rfl ?_
    obtain ⟨a1, e_a1, h⟩ := zbd h
    refine zj_gP o (zdd k_R_fillCells 39 rfl) fl_R_11 rfl e_a1 ?_
    refine zj_iload_n o (zdd k_R_fillCells 40 rfl) rfl 3 rfl ?_
    refine zj_iconst o (zdd k_R_fillCells 41 rfl) zki_4 ?_
    refine zj_imul o (zdd k_R_fillCells 42 rfl) ?_
    refine zj_iload o (zdd k_R_fillCells 43 rfl) 5 rfl ?_
    refine zj_iadd o (zdd k_R_fillCells 44 rfl) ?_
    refine zj_iload o (zdd k_R_fillCells 45 rfl) 4 rfl ?_
    refine zj_iload_n o (zdd k_R_fillCells 46 rfl) rfl 2 rfl ?_
    obtain ⟨n2, e_n2, h⟩ := zbd h
    refine zj_irem o (zdd k_R_fillCells 47 rfl) (znz_some e_n2).1 ?_
    change zPJ X 0 0 _ _ [.int (zrem v4 v2), .int ((v3 * 4) + v5), .ref a1] _
    refine zj_iload_n o (zdd k_R_fillCells 48 rfl) rfl 1 rfl ?_
    refine zj_isub o (zdd k_R_fillCells 49 rfl) ?_
    obtain ⟨σ3, e_σ3, h⟩ := zbd h
    refine zj_iast o (zdd k_R_fillCells 50 rfl) e_σ3 ?_
    refine zj_iload o (zdd k_R_fillCells 51 rfl) 4 rfl ?_
    refine zj_iload_n o (zdd k_R_fillCells 52 rfl) rfl 2 rfl ?_
    obtain ⟨n4, e_n4, h⟩ := zbd h
    refine zj_idiv o (zdd k_R_fillCells 53 rfl) (znz_some e_n4).1 ?_
    refine zj_istore (loc' := [(4, .int (v4 / v2)), (0, .ref v0), (1, .int v1), (2, .int v2), (3, .int v3), (5, .int v5)]) o (zdd k_R_fillCells 54 rfl) (by decide) rfl ?_
    refine zj_iinc (v := v5 + (-1)) (loc' := [(5, .int (v5 + (-1))), (4, .int (v4 / v2)), (0, .ref v0), (1, .int v1), (2, .int v2), (3, .int v3)]) o (zdd k_R_fillCells 55 rfl) 5 rfl (by rw [zki_m1]) (by decide) rfl ?_
    refine zj_goto (tgt := 58) o (zdd k_R_fillCells 56 rfl) (by decide) ?_
    exact zj_sub [2, 3, 4, 5, 1, 0] rfl (hk58 h hr)
def f_R_fillCells_58L (k39 : zSt → Nat → Int32 → Int32 → Int32 → Option (zSt)) : Nat → zSt → Nat → Int32 → Int32 → Int32 → Int32 → Int32 → Option (zSt)
  | 0 => fun _ _ _ _ _ _ _ => none
  | n + 1 => f_R_fillCells_58  k39 (f_R_fillCells_58L k39 n)
theorem r_R_fillCells_58L {X : zCX} (o : zOK X "WantShelves$Rows" c_R_fillCells n_R_fillCells 1) {k39 : zSt → Nat → Int32 → Int32 → Int32 → Option (zSt)} (hk39 : ∀ {σ : zSt} {v0 : Nat} {v1 : Int32} {v2 : Int32} {v3 : Int32} {z : zSt}, k39 σ v0 v1 v2 v3 = some z → zRX X 0 0 none z → zPJ X 0 0 39 [(0, .ref v0), (1, .int v1), (2, .int v2), (3, .int v3)] [] σ) : ∀ (n : Nat) {σ : zSt} {v0 : Nat} {v1 : Int32} {v2 : Int32} {v3 : Int32} {v4 : Int32} {v5 : Int32} {z : zSt}, f_R_fillCells_58L k39 n σ v0 v1 v2 v3 v4 v5 = some z → zRX X 0 0 none z → zPJ X 0 0 58 [(0, .ref v0), (1, .int v1), (2, .int v2), (3, .int v3), (4, .int v4), (5, .int v5)] [] σ
  | 0 => fun h _ => by cases h
  | n + 1 => fun h hr => r_R_fillCells_58 o hk39 (r_R_fillCells_58L o hk39 n) h hr
def f_R_fillCells_39 (k39 : zSt → Nat → Int32 → Int32 → Int32 → Option (zSt)) (σ : zSt) (v0 : Nat) (v1 : Int32) (v2 : Int32) (v3 : Int32) : Option (zSt) :=
(zgI σ 6 v0 4).bind fun x1 =>
if x1 ≤ v3 then (
some σ) else
(zgI σ 6 v0 3).bind fun x2 =>
f_R_fillCells_58L k39 zfu σ v0 v1 v2 v3 v3 (x2 - 1)
set_option maxRecDepth 100000 in
set_option maxHeartbeats 4000000 in
theorem r_R_fillCells_39 {X : zCX} (o : zOK X "WantShelves$Rows" c_R_fillCells n_R_fillCells 1) {k39 : zSt → Nat → Int32 → Int32 → Int32 → Option (zSt)} (hk39 : ∀ {σ : zSt} {v0 : Nat} {v1 : Int32} {v2 : Int32} {v3 : Int32} {z : zSt}, k39 σ v0 v1 v2 v3 = some z → zRX X 0 0 none z → zPJ X 0 0 39 [(0, .ref v0), (1, .int v1), (2, .int v2), (3, .int v3)] [] σ) {σ : zSt} {v0 : Nat} {v1 : Int32} {v2 : Int32} {v3 : Int32} {z : zSt} (h : f_R_fillCells_39 k39 σ v0 v1 v2 v3 = some z) (hr : zRX X 0 0 none z) : zPJ X 0 0 39 [(0, .ref v0), (1, .int v1), (2, .int v2), (3, .int v3)] [] σ := by
  unfold f_R_fillCells_39 at h
  refine zj_iload_n o (zdd k_R_fillCells 25 rfl) rfl 3 rfl ?_
  refine zj_aload_n o (zdd k_R_fillCells 26 rfl) rfl 0 rfl ?_
  obtain ⟨x1, e_x1, h⟩ := zbd h
  refine zj_gI o (zdd k_R_fillCells 27 rfl) fl_R_54 rfl e_x1 ?_
  refine zj_icmp_ge (tgt := 98) o (zdd k_R_fillCells 28 rfl) (by decide) (fun hc => ?_) (fun hc => ?_)
  · rw [if_pos hc] at h
    cases h
    exact zr_v o hr (zdd k_R_fillCells 59 rfl)
  · rw [if_neg hc] at h
    refine zj_iload_n o (zdd k_R_fillCells 29 rfl) rfl 3 rfl ?_
    refine zj_istore (loc' := [(4, .int v3), (0, .ref v0), (1, .int v1), (2, .int v2), (3, .int v3)]) o (zdd k_R_fillCells 30 rfl) (by decide) rfl ?_
    refine zj_aload_n o (zdd k_R_fillCells 31 rfl) rfl 1 rfl ?_
    obtain ⟨x2, e_x2, h⟩ := zbd h
    refine zj_gI o (zdd k_R_fillCells 32 rfl) fl_R_36 rfl e_x2 ?_
    refine zj_iconst o (zdd k_R_fillCells 33 rfl) zki_1 ?_
    refine zj_isub o (zdd k_R_fillCells 34 rfl) ?_
    refine zj_istore (loc' := [(5, .int (x2 - 1)), (4, .int v3), (0, .ref v0), (1, .int v1), (2, .int v2), (3, .int v3)]) o (zdd k_R_fillCells 35 rfl) (by decide) rfl ?_
    exact zj_sub [2, 3, 4, 5, 1, 0] rfl (r_R_fillCells_58L o hk39 zfu h hr)
def f_R_fillCells_39L : Nat → zSt → Nat → Int32 → Int32 → Int32 → Option (zSt)
  | 0 => fun _ _ _ _ _ => none
  | n + 1 => f_R_fillCells_39  (f_R_fillCells_39L  n)
theorem r_R_fillCells_39L {X : zCX} (o : zOK X "WantShelves$Rows" c_R_fillCells n_R_fillCells 1) : ∀ (n : Nat) {σ : zSt} {v0 : Nat} {v1 : Int32} {v2 : Int32} {v3 : Int32} {z : zSt}, f_R_fillCells_39L n σ v0 v1 v2 v3 = some z → zRX X 0 0 none z → zPJ X 0 0 39 [(0, .ref v0), (1, .int v1), (2, .int v2), (3, .int v3)] [] σ
  | 0 => fun h _ => by cases h
  | n + 1 => fun h hr => r_R_fillCells_39 o (r_R_fillCells_39L o  n) h hr
def f_R_fillCells_13 (k13 : zSt → Nat → Int32 → Int32 → Int32 → Option (zSt)) (σ : zSt) (v0 : Nat) (v1 : Int32) (v2 : Int32) (v3 : Int32) : Option (zSt) :=
(zgI σ 6 v0 3).bind fun x1 =>
if x1 ≤ v3 then (
f_R_fillCells_39L zfu σ v0 v1 v2 0) else
(zgI σ 6 v0 4).bind fun x2 =>
(zsI σ 6 v0 4 (x2 * v2)).bind fun σ3 =>
k13 σ3 v0 v1 v2 (v3 + 1)
set_option maxRecDepth 100000 in
set_option maxHeartbeats 4000000 in
theorem r_R_fillCells_13 {X : zCX} (o : zOK X "WantShelves$Rows" c_R_fillCells n_R_fillCells 1) {k13 : zSt → Nat → Int32 → Int32 → Int32 → Option (zSt)} (hk13 : ∀ {σ : zSt} {v0 : Nat} {v1 : Int32} {v2 : Int32} {v3 : Int32} {z : zSt}, k13 σ v0 v1 v2 v3 = some z → zRX X 0 0 none z → zPJ X 0 0 13 [(0, .ref v0), (1, .int v1), (2, .int v2), (3, .int v3)] [] σ) {σ : zSt} {v0 : Nat} {v1 : Int32} {v2 : Int32} {v3 : Int32} {z : zSt} (h : f_R_fillCells_13 k13 σ v0 v1 v2 v3 = some z) (hr : zRX X 0 0 none z) : zPJ X 0 0 13 [(0, .ref v0), (1, .int v1), (2, .int v2), (3, .int v3)] [] σ := by
  unfold f_R_fillCells_13 at h
  refine zj_iload_n o (zdd k_R_fillCells 11 rfl) rfl 3 rfl ?_
  refine zj_aload_n o (zdd k_R_fillCells 12 rfl) rfl 0 rfl ?_
  obtain ⟨x1, e_x1, h⟩ := zbd h
  refine zj_gI o (zdd k_R_fillCells 13 rfl) fl_R_36 rfl e_x1 ?_
  refine zj_icmp_ge (tgt := 37) o (zdd k_R_fillCells 14 rfl) (by decide) (fun hc => ?_) (fun hc => ?_)
  · rw [if_pos hc] at h
    refine zj_iconst o (zdd k_R_fillCells 23 rfl) zki_0 ?_
    refine zj_istore_n (loc' := [(3, .int 0), (0, .ref v0), (1, .int v1), (2, .int v2)]) o (zdd k_R_fillCells 24 rfl) rfl (by decide) rfl ?_
    exact zj_sub [1, 2, 3, 0] rfl (r_R_fillCells_39L o  zfu h hr)
  · rw [if_neg hc] at h
    refine zj_aload_n o (zdd k_R_fillCells 15 rfl) rfl 0 rfl ?_
    refine zj_dup o (zdd k_R_fillCells 16 rfl) rfl ?_
    obtain ⟨x2, e_x2, h⟩ := zbd h
    refine zj_gI o (zdd k_R_fillCells 17 rfl) fl_R_54 rfl e_x2 ?_
    refine zj_iload_n o (zdd k_R_fillCells 18 rfl) rfl 2 rfl ?_
    refine zj_imul o (zdd k_R_fillCells 19 rfl) ?_
    obtain ⟨σ3, e_σ3, h⟩ := zbd h
    refine zj_pI o (zdd k_R_fillCells 20 rfl) fl_R_54 rfl rfl e_σ3 ?_
    refine zj_iinc (v := v3 + 1) (loc' := [(3, .int (v3 + 1)), (0, .ref v0), (1, .int v1), (2, .int v2)]) o (zdd k_R_fillCells 21 rfl) 3 rfl (by rw [zki_1]) (by decide) rfl ?_
    refine zj_goto (tgt := 13) o (zdd k_R_fillCells 22 rfl) (by decide) ?_
    exact zj_sub [1, 2, 3, 0] rfl (hk13 h hr)
def f_R_fillCells_13L : Nat → zSt → Nat → Int32 → Int32 → Int32 → Option (zSt)
  | 0 => fun _ _ _ _ _ => none
  | n + 1 => f_R_fillCells_13  (f_R_fillCells_13L  n)
theorem r_R_fillCells_13L {X : zCX} (o : zOK X "WantShelves$Rows" c_R_fillCells n_R_fillCells 1) : ∀ (n : Nat) {σ : zSt} {v0 : Nat} {v1 : Int32} {v2 : Int32} {v3 : Int32} {z : zSt}, f_R_fillCells_13L n σ v0 v1 v2 v3 = some z → zRX X 0 0 none z → zPJ X 0 0 13 [(0, .ref v0), (1, .int v1), (2, .int v2), (3, .int v3)] [] σ
  | 0 => fun h _ => by cases h
  | n + 1 => fun h hr => r_R_fillCells_13 o (r_R_fillCells_13L o  n) h hr
def f_R_fillCells (σ : zSt) (t : Nat) (p0 : Int32) : Option (zSt) :=
zg σ 6 t (
(zsI σ 6 t 4 1).bind fun σ1 =>
f_R_fillCells_13L zfu σ1 t p0 ((2 * p0) + 1) 0)
set_option maxRecDepth 100000 in
set_option maxHeartbeats 4000000 in
theorem m_R_fillCells {l : Launch} {b : Nat} {ex : Nat → Value} {D : va_G} {ca : Nat → ClassId} {σ : zSt} {t : Nat} {p0 : Int32} {z : zSt} (h : f_R_fillCells σ t p0 = some z) : zMT l b ex D ca 1 y_R_fillCells c_R_fillCells n_R_fillCells r_ret_R_fillCells [.ref t, .int p0] σ none z 0 0 := by
  obtain ⟨_, hg0⟩ := zg_some h
  have h := hg0
  refine zmt_of (by decide) (Nat.le_of_ble_eq_true rfl) rfl (fun X o hin hrm _ _ _ _ _ hr => ?_)
  have hr := hr 0 0 (by decide) (by decide)
  have o : zOK X "WantShelves$Rows" c_R_fillCells n_R_fillCells 1 := o
  change zPJ X 0 0 0 [(0, .ref t), (1, .int p0)] [] σ
  refine zj_iconst o (zdd k_R_fillCells 0 rfl) zki_2 ?_
  refine zj_iload_n o (zdd k_R_fillCells 1 rfl) rfl 1 rfl ?_
  refine zj_imul o (zdd k_R_fillCells 2 rfl) ?_
  refine zj_iconst o (zdd k_R_fillCells 3 rfl) zki_1 ?_
  refine zj_iadd o (zdd k_R_fillCells 4 rfl) ?_
  refine zj_istore_n (loc' := [(2, .int ((2 * p0) + 1)), (0, .ref t), (1, .int p0)]) o (zdd k_R_fillCells 5 rfl) rfl (by decide) rfl ?_
  refine zj_aload_n o (zdd k_R_fillCells 6 rfl) rfl 1 rfl ?_
  refine zj_iconst o (zdd k_R_fillCells 7 rfl) zki_1 ?_
  obtain ⟨σ1, e_σ1, h⟩ := zbd h
  refine zj_pI o (zdd k_R_fillCells 8 rfl) fl_R_54 rfl rfl e_σ1 ?_
  refine zj_iconst o (zdd k_R_fillCells 9 rfl) zki_0 ?_
  refine zj_istore_n (loc' := [(3, .int 0), (2, .int ((2 * p0) + 1)), (0, .ref t), (1, .int p0)]) o (zdd k_R_fillCells 10 rfl) rfl (by decide) rfl ?_
  exact zj_sub [2, 3, 1, 0] rfl (r_R_fillCells_13L o  zfu h hr)
def f_R_cell (σ : zSt) (t : Nat) (p0 : Int32) (p1 : Int32) : Option (Int32) :=
zg σ 6 t (
(zgP σ 6 t 5).bind fun a1 =>
(zaI σ 1 a1 ((p0 * 4) + p1)).bind fun x2 =>
some x2)
set_option maxRecDepth 100000 in
set_option maxHeartbeats 4000000 in
theorem m_R_cell {l : Launch} {b : Nat} {ex : Nat → Value} {D : va_G} {ca : Nat → ClassId} {σ : zSt} {t : Nat} {p0 : Int32} {p1 : Int32} {z : Int32} (h : f_R_cell σ t p0 p1 = some z) : zMT l b ex D ca 1 y_R_cell c_R_cell n_R_cell r_ret_R_cell [.ref t, .int p0, .int p1] σ (some (.int z)) σ 0 0 := by
  obtain ⟨_, hg0⟩ := zg_some h
  have h := hg0
  refine zmt_of (by decide) (Nat.le_of_ble_eq_true rfl) ⟨.int, rfl, rfl⟩ (fun X o hin hrm _ _ _ _ _ hr => ?_)
  have hr := hr 0 0 (by decide) (by decide)
  have o : zOK X "WantShelves$Rows" c_R_cell n_R_cell 1 := o
  change zPJ X 0 0 0 [(0, .ref t), (1, .int p0), (2, .int p1)] [] σ
  refine zj_aload_n o (zdd k_R_cell 0 rfl) rfl 0 rfl ?_
  obtain ⟨a1, e_a1, h⟩ := zbd h
  refine zj_gP o (zdd k_R_cell 1 rfl) fl_R_11 rfl e_a1 ?_
  refine zj_iload_n o (zdd k_R_cell 2 rfl) rfl 1 rfl ?_
  refine zj_iconst o (zdd k_R_cell 3 rfl) zki_4 ?_
  refine zj_imul o (zdd k_R_cell 4 rfl) ?_
  refine zj_iload_n o (zdd k_R_cell 5 rfl) rfl 2 rfl ?_
  refine zj_iadd o (zdd k_R_cell 6 rfl) ?_
  obtain ⟨x2, e_x2, h⟩ := zbd h
  refine zj_iald o (zdd k_R_cell 7 rfl) e_x2 ?_
  cases h
  exact zr_i o hr (zdd k_R_cell 8 rfl)
def f_R_fill_120 (k35 : zSt → Nat → Nat → Nat → Int32 → Option (zSt)) (k61 : zSt → Nat → Nat → Nat → Int32 → Int32 → Option (zSt)) (σ : zSt) (v0 : Nat) (v1 : Nat) (v2 : Nat) (v5 : Int32) (v6 : Int32) (v7 : Int32) : Option (zSt) :=
(zgP σ 6 v0 6).bind fun a1 =>
(f_S_keyByWant σ v1 v7).bind fun q2 =>
(zwI q2.2 1 a1 ((v6 * 10) + v5) q2.1).bind fun σ3 =>
k61 σ3 v0 v1 v2 v5 (v6 + 1)
set_option maxRecDepth 100000 in
set_option maxHeartbeats 4000000 in
theorem r_R_fill_120 {X : zCX} (o : zOK X "WantShelves$Rows" c_R_fill n_R_fill 5) {k35 : zSt → Nat → Nat → Nat → Int32 → Option (zSt)} {k61 : zSt → Nat → Nat → Nat → Int32 → Int32 → Option (zSt)} (hk35 : ∀ {σ : zSt} {v0 : Nat} {v1 : Nat} {v2 : Nat} {v5 : Int32} {z : zSt}, k35 σ v0 v1 v2 v5 = some z → zRX X 0 0 none z → zPJ X 0 0 35 [(0, .ref v0), (1, .ref v1), (2, .ref v2), (5, .int v5)] [] σ) (hk61 : ∀ {σ : zSt} {v0 : Nat} {v1 : Nat} {v2 : Nat} {v5 : Int32} {v6 : Int32} {z : zSt}, k61 σ v0 v1 v2 v5 v6 = some z → zRX X 0 0 none z → zPJ X 0 0 61 [(0, .ref v0), (1, .ref v1), (2, .ref v2), (5, .int v5), (6, .int v6)] [] σ) {σ : zSt} {v0 : Nat} {v1 : Nat} {v2 : Nat} {v5 : Int32} {v6 : Int32} {v7 : Int32} {z : zSt} (h : f_R_fill_120 k35 k61 σ v0 v1 v2 v5 v6 v7 = some z) (hr : zRX X 0 0 none z) : zPJ X 0 0 120 [(0, .ref v0), (1, .ref v1), (2, .ref v2), (5, .int v5), (6, .int v6), (7, .int v7)] [] σ := by
  unfold f_R_fill_120 at h
  refine zj_aload_n o (zdd k_R_fill 63 rfl) rfl 0 rfl ?_
  obtain ⟨a1, e_a1, h⟩ := zbd h
  refine zj_gP o (zdd k_R_fill 64 rfl) fl_R_15 rfl e_a1 ?_
  refine zj_iload o (zdd k_R_fill 65 rfl) 4 rfl ?_
  refine zj_bipush o (zdd k_R_fill 66 rfl) zkb_10 ?_
  refine zj_imul o (zdd k_R_fill 67 rfl) ?_
  refine zj_iload o (zdd k_R_fill 68 rfl) 3 rfl ?_
  refine zj_iadd o (zdd k_R_fill 69 rfl) ?_
  refine zj_aload_n o (zdd k_R_fill 70 rfl) rfl 1 rfl ?_
  refine zj_iload o (zdd k_R_fill 71 rfl) 5 rfl ?_
  obtain ⟨q2, e_q2, h⟩ := zbd h
  refine zc_V o (zdd k_R_fill 72 rfl) ml_R_64 mv_S_keyByWant ⟨rfl, by decide⟩ (zg_some e_q2).1 (by decide) [.int v7] [.int ((v6 * 10) + v5), .ref a1] rfl (Nat.le_of_ble_eq_true rfl) rfl (m_S_keyByWant e_q2) ?_
  change zPJ X 0 0 _ _ [.int q2.1, .int ((v6 * 10) + v5), .ref a1] _
  obtain ⟨σ3, e_σ3, h⟩ := zbd h
  refine zj_iast o (zdd k_R_fill 73 rfl) e_σ3 ?_
  refine zj_iinc (v := v6 + 1) (loc' := [(6, .int (v6 + 1)), (0, .ref v0), (1, .ref v1), (2, .ref v2), (5, .int v5), (7, .int v7)]) o (zdd k_R_fill 74 rfl) 4 rfl (by rw [zki_1]) (by decide) rfl ?_
  refine zj_goto (tgt := 61) o (zdd k_R_fill 75 rfl) (by decide) ?_
  exact zj_sub [1, 2, 3, 4, 0] rfl (hk61 h hr)
def f_R_fill_76 (k35 : zSt → Nat → Nat → Nat → Int32 → Option (zSt)) (k61 : zSt → Nat → Nat → Nat → Int32 → Int32 → Option (zSt)) (k76 : zSt → Nat → Nat → Nat → Int32 → Int32 → Int32 → Int32 → Option (zSt)) (σ : zSt) (v0 : Nat) (v1 : Nat) (v2 : Nat) (v5 : Int32) (v6 : Int32) (v7 : Int32) (v8 : Int32) : Option (zSt) :=
(zgI σ 6 v0 3).bind fun x1 =>
if x1 ≤ v8 then (
f_R_fill_120 k35 k61 σ v0 v1 v2 v5 v6 v7) else
(f_R_cell σ v0 v6 v8).bind fun x2 =>
(zgP σ 8 v1 0).bind fun a3 =>
(zgP σ 10 a3 7).bind fun a4 =>
(zaI σ 1 a4 ((v5 * 4) + v8)).bind fun x5 =>
k76 σ v0 v1 v2 v5 v6 (v7 + (x2 * x5)) (v8 + 1)
set_option maxRecDepth 100000 in
set_option maxHeartbeats 4000000 in
theorem r_R_fill_76 {X : zCX} (o : zOK X "WantShelves$Rows" c_R_fill n_R_fill 5) {k35 : zSt → Nat → Nat → Nat → Int32 → Option (zSt)} {k61 : zSt → Nat → Nat → Nat → Int32 → Int32 → Option (zSt)} {k76 : zSt → Nat → Nat → Nat → Int32 → Int32 → Int32 → Int32 → Option (zSt)} (hk35 : ∀ {σ : zSt} {v0 : Nat} {v1 : Nat} {v2 : Nat} {v5 : Int32} {z : zSt}, k35 σ v0 v1 v2 v5 = some z → zRX X 0 0 none z → zPJ X 0 0 35 [(0, .ref v0), (1, .ref v1), (2, .ref v2), (5, .int v5)] [] σ) (hk61 : ∀ {σ : zSt} {v0 : Nat} {v1 : Nat} {v2 : Nat} {v5 : Int32} {v6 : Int32} {z : zSt}, k61 σ v0 v1 v2 v5 v6 = some z → zRX X 0 0 none z → zPJ X 0 0 61 [(0, .ref v0), (1, .ref v1), (2, .ref v2), (5, .int v5), (6, .int v6)] [] σ) (hk76 : ∀ {σ : zSt} {v0 : Nat} {v1 : Nat} {v2 : Nat} {v5 : Int32} {v6 : Int32} {v7 : Int32} {v8 : Int32} {z : zSt}, k76 σ v0 v1 v2 v5 v6 v7 v8 = some z → zRX X 0 0 none z → zPJ X 0 0 76 [(0, .ref v0), (1, .ref v1), (2, .ref v2), (5, .int v5), (6, .int v6), (7, .int v7), (8, .int v8)] [] σ) {σ : zSt} {v0 : Nat} {v1 : Nat} {v2 : Nat} {v5 : Int32} {v6 : Int32} {v7 : Int32} {v8 : Int32} {z : zSt} (h : f_R_fill_76 k35 k61 k76 σ v0 v1 v2 v5 v6 v7 v8 = some z) (hr : zRX X 0 0 none z) : zPJ X 0 0 76 [(0, .ref v0), (1, .ref v1), (2, .ref v2), (5, .int v5), (6, .int v6), (7, .int v7), (8, .int v8)] [] σ := by
  unfold f_R_fill_76 at h
  refine zj_iload o (zdd k_R_fill 40 rfl) 6 rfl ?_
  refine zj_aload_n o (zdd k_R_fill 41 rfl) rfl 0 rfl ?_
  obtain ⟨x1, e_x1, h⟩ := zbd h
  refine zj_gI o (zdd k_R_fill 42 rfl) fl_R_36 rfl e_x1 ?_
  refine zj_icmp_ge (tgt := 120) o (zdd k_R_fill 43 rfl) (by decide) (fun hc => ?_) (fun hc => ?_)
  · rw [if_pos hc] at h
    exact zj_sub [0, 1, 2, 3, 4, 5] rfl (r_R_fill_120 o hk35 hk61 h hr)
  · rw [if_neg hc] at h
    refine zj_iload o (zdd k_R_fill 44 rfl) 5 rfl ?_
    refine zj_aload_n o (zdd k_R_fill 45 rfl) rfl 0 rfl ?_
    refine zj_iload o (zdd k_R_fill 46 rfl) 4 rfl ?_
    refine zj_iload o (zdd k_R_fill 47 rfl) 6 rfl ?_
    obtain ⟨x2, e_x2, h⟩ := zbd h
    refine zc_V o (zdd k_R_fill 48 rfl) ml_R_57 mv_R_cell ⟨rfl, by decide⟩ (zg_some e_x2).1 (by decide) [.int v6, .int v8] [.int v7] rfl (Nat.le_of_ble_eq_true rfl) rfl (m_R_cell e_x2) ?_
    change zPJ X 0 0 _ _ [.int x2, .int v7] _
    refine zj_aload_n o (zdd k_R_fill 49 rfl) rfl 1 rfl ?_
    obtain ⟨a3, e_a3, h⟩ := zbd h
    refine zj_gP o (zdd k_R_fill 50 rfl) fl_R_25 rfl e_a3 ?_
    obtain ⟨a4, e_a4, h⟩ := zbd h
    refine zj_gP o (zdd k_R_fill 51 rfl) fl_R_61 rfl e_a4 ?_
    refine zj_iload o (zdd k_R_fill 52 rfl) 3 rfl ?_
    refine zj_iconst o (zdd k_R_fill 53 rfl) zki_4 ?_
    refine zj_imul o (zdd k_R_fill 54 rfl) ?_
    refine zj_iload o (zdd k_R_fill 55 rfl) 6 rfl ?_
    refine zj_iadd o (zdd k_R_fill 56 rfl) ?_
    obtain ⟨x5, e_x5, h⟩ := zbd h
    refine zj_iald o (zdd k_R_fill 57 rfl) e_x5 ?_
    refine zj_imul o (zdd k_R_fill 58 rfl) ?_
    refine zj_iadd o (zdd k_R_fill 59 rfl) ?_
    refine zj_istore (loc' := [(7, .int (v7 + (x2 * x5))), (0, .ref v0), (1, .ref v1), (2, .ref v2), (5, .int v5), (6, .int v6), (8, .int v8)]) o (zdd k_R_fill 60 rfl) (by decide) rfl ?_
    refine zj_iinc (v := v8 + 1) (loc' := [(8, .int (v8 + 1)), (7, .int (v7 + (x2 * x5))), (0, .ref v0), (1, .ref v1), (2, .ref v2), (5, .int v5), (6, .int v6)]) o (zdd k_R_fill 61 rfl) 6 rfl (by rw [zki_1]) (by decide) rfl ?_
    refine zj_goto (tgt := 76) o (zdd k_R_fill 62 rfl) (by decide) ?_
    exact zj_sub [2, 3, 4, 5, 6, 1, 0] rfl (hk76 h hr)
def f_R_fill_76L (k35 : zSt → Nat → Nat → Nat → Int32 → Option (zSt)) (k61 : zSt → Nat → Nat → Nat → Int32 → Int32 → Option (zSt)) : Nat → zSt → Nat → Nat → Nat → Int32 → Int32 → Int32 → Int32 → Option (zSt)
  | 0 => fun _ _ _ _ _ _ _ _ => none
  | n + 1 => f_R_fill_76  k35 k61 (f_R_fill_76L k35 k61 n)
theorem r_R_fill_76L {X : zCX} (o : zOK X "WantShelves$Rows" c_R_fill n_R_fill 5) {k35 : zSt → Nat → Nat → Nat → Int32 → Option (zSt)} {k61 : zSt → Nat → Nat → Nat → Int32 → Int32 → Option (zSt)} (hk35 : ∀ {σ : zSt} {v0 : Nat} {v1 : Nat} {v2 : Nat} {v5 : Int32} {z : zSt}, k35 σ v0 v1 v2 v5 = some z → zRX X 0 0 none z → zPJ X 0 0 35 [(0, .ref v0), (1, .ref v1), (2, .ref v2), (5, .int v5)] [] σ) (hk61 : ∀ {σ : zSt} {v0 : Nat} {v1 : Nat} {v2 : Nat} {v5 : Int32} {v6 : Int32} {z : zSt}, k61 σ v0 v1 v2 v5 v6 = some z → zRX X 0 0 none z → zPJ X 0 0 61 [(0, .ref v0), (1, .ref v1), (2, .ref v2), (5, .int v5), (6, .int v6)] [] σ) : ∀ (n : Nat) {σ : zSt} {v0 : Nat} {v1 : Nat} {v2 : Nat} {v5 : Int32} {v6 : Int32} {v7 : Int32} {v8 : Int32} {z : zSt}, f_R_fill_76L k35 k61 n σ v0 v1 v2 v5 v6 v7 v8 = some z → zRX X 0 0 none z → zPJ X 0 0 76 [(0, .ref v0), (1, .ref v1), (2, .ref v2), (5, .int v5), (6, .int v6), (7, .int v7), (8, .int v8)] [] σ
  | 0 => fun h _ => by cases h
  | n + 1 => fun h hr => r_R_fill_76 o hk35 hk61 (r_R_fill_76L o hk35 hk61 n) h hr
def f_R_fill_61 (k35 : zSt → Nat → Nat → Nat → Int32 → Option (zSt)) (k61 : zSt → Nat → Nat → Nat → Int32 → Int32 → Option (zSt)) (σ : zSt) (v0 : Nat) (v1 : Nat) (v2 : Nat) (v5 : Int32) (v6 : Int32) : Option (zSt) :=
(zgI σ 6 v0 4).bind fun x1 =>
if x1 ≤ v6 then (
k35 σ v0 v1 v2 (v5 + 1)) else
f_R_fill_76L k35 k61 zfu σ v0 v1 v2 v5 v6 0 0
set_option maxRecDepth 100000 in
set_option maxHeartbeats 4000000 in
theorem r_R_fill_61 {X : zCX} (o : zOK X "WantShelves$Rows" c_R_fill n_R_fill 5) {k35 : zSt → Nat → Nat → Nat → Int32 → Option (zSt)} {k61 : zSt → Nat → Nat → Nat → Int32 → Int32 → Option (zSt)} (hk35 : ∀ {σ : zSt} {v0 : Nat} {v1 : Nat} {v2 : Nat} {v5 : Int32} {z : zSt}, k35 σ v0 v1 v2 v5 = some z → zRX X 0 0 none z → zPJ X 0 0 35 [(0, .ref v0), (1, .ref v1), (2, .ref v2), (5, .int v5)] [] σ) (hk61 : ∀ {σ : zSt} {v0 : Nat} {v1 : Nat} {v2 : Nat} {v5 : Int32} {v6 : Int32} {z : zSt}, k61 σ v0 v1 v2 v5 v6 = some z → zRX X 0 0 none z → zPJ X 0 0 61 [(0, .ref v0), (1, .ref v1), (2, .ref v2), (5, .int v5), (6, .int v6)] [] σ) {σ : zSt} {v0 : Nat} {v1 : Nat} {v2 : Nat} {v5 : Int32} {v6 : Int32} {z : zSt} (h : f_R_fill_61 k35 k61 σ v0 v1 v2 v5 v6 = some z) (hr : zRX X 0 0 none z) : zPJ X 0 0 61 [(0, .ref v0), (1, .ref v1), (2, .ref v2), (5, .int v5), (6, .int v6)] [] σ := by
  unfold f_R_fill_61 at h
  refine zj_iload o (zdd k_R_fill 32 rfl) 4 rfl ?_
  refine zj_aload_n o (zdd k_R_fill 33 rfl) rfl 0 rfl ?_
  obtain ⟨x1, e_x1, h⟩ := zbd h
  refine zj_gI o (zdd k_R_fill 34 rfl) fl_R_54 rfl e_x1 ?_
  refine zj_icmp_ge (tgt := 145) o (zdd k_R_fill 35 rfl) (by decide) (fun hc => ?_) (fun hc => ?_)
  · rw [if_pos hc] at h
    refine zj_iinc (v := v5 + 1) (loc' := [(5, .int (v5 + 1)), (0, .ref v0), (1, .ref v1), (2, .ref v2), (6, .int v6)]) o (zdd k_R_fill 76 rfl) 3 rfl (by rw [zki_1]) (by decide) rfl ?_
    refine zj_goto (tgt := 35) o (zdd k_R_fill 77 rfl) (by decide) ?_
    exact zj_sub [1, 2, 3, 0] rfl (hk35 h hr)
  · rw [if_neg hc] at h
    refine zj_iconst o (zdd k_R_fill 36 rfl) zki_0 ?_
    refine zj_istore (loc' := [(7, .int 0), (0, .ref v0), (1, .ref v1), (2, .ref v2), (5, .int v5), (6, .int v6)]) o (zdd k_R_fill 37 rfl) (by decide) rfl ?_
    refine zj_iconst o (zdd k_R_fill 38 rfl) zki_0 ?_
    refine zj_istore (loc' := [(8, .int 0), (7, .int 0), (0, .ref v0), (1, .ref v1), (2, .ref v2), (5, .int v5), (6, .int v6)]) o (zdd k_R_fill 39 rfl) (by decide) rfl ?_
    exact zj_sub [2, 3, 4, 5, 6, 1, 0] rfl (r_R_fill_76L o hk35 hk61 zfu h hr)
def f_R_fill_61L (k35 : zSt → Nat → Nat → Nat → Int32 → Option (zSt)) : Nat → zSt → Nat → Nat → Nat → Int32 → Int32 → Option (zSt)
  | 0 => fun _ _ _ _ _ _ => none
  | n + 1 => f_R_fill_61  k35 (f_R_fill_61L k35 n)
theorem r_R_fill_61L {X : zCX} (o : zOK X "WantShelves$Rows" c_R_fill n_R_fill 5) {k35 : zSt → Nat → Nat → Nat → Int32 → Option (zSt)} (hk35 : ∀ {σ : zSt} {v0 : Nat} {v1 : Nat} {v2 : Nat} {v5 : Int32} {z : zSt}, k35 σ v0 v1 v2 v5 = some z → zRX X 0 0 none z → zPJ X 0 0 35 [(0, .ref v0), (1, .ref v1), (2, .ref v2), (5, .int v5)] [] σ) : ∀ (n : Nat) {σ : zSt} {v0 : Nat} {v1 : Nat} {v2 : Nat} {v5 : Int32} {v6 : Int32} {z : zSt}, f_R_fill_61L k35 n σ v0 v1 v2 v5 v6 = some z → zRX X 0 0 none z → zPJ X 0 0 61 [(0, .ref v0), (1, .ref v1), (2, .ref v2), (5, .int v5), (6, .int v6)] [] σ
  | 0 => fun h _ => by cases h
  | n + 1 => fun h hr => r_R_fill_61 o hk35 (r_R_fill_61L o hk35 n) h hr
def f_R_fill_35 (k35 : zSt → Nat → Nat → Nat → Int32 → Option (zSt)) (σ : zSt) (v0 : Nat) (v1 : Nat) (v2 : Nat) (v5 : Int32) : Option (zSt) :=
(zgP σ 8 v1 0).bind fun a1 =>
(zgI σ 10 a1 1).bind fun x2 =>
if x2 ≤ v5 then (
some σ) else
(zgI σ 6 v0 2).bind fun x3 =>
(f_S_turnTo σ v1 v2 x3 v5).bind fun σ4 =>
f_R_fill_61L k35 zfu σ4 v0 v1 v2 v5 0
set_option maxRecDepth 100000 in
set_option maxHeartbeats 4000000 in
theorem r_R_fill_35 {X : zCX} (o : zOK X "WantShelves$Rows" c_R_fill n_R_fill 5) {k35 : zSt → Nat → Nat → Nat → Int32 → Option (zSt)} (hk35 : ∀ {σ : zSt} {v0 : Nat} {v1 : Nat} {v2 : Nat} {v5 : Int32} {z : zSt}, k35 σ v0 v1 v2 v5 = some z → zRX X 0 0 none z → zPJ X 0 0 35 [(0, .ref v0), (1, .ref v1), (2, .ref v2), (5, .int v5)] [] σ) {σ : zSt} {v0 : Nat} {v1 : Nat} {v2 : Nat} {v5 : Int32} {z : zSt} (h : f_R_fill_35 k35 σ v0 v1 v2 v5 = some z) (hr : zRX X 0 0 none z) : zPJ X 0 0 35 [(0, .ref v0), (1, .ref v1), (2, .ref v2), (5, .int v5)] [] σ := by
  unfold f_R_fill_35 at h
  refine zj_iload o (zdd k_R_fill 19 rfl) 3 rfl ?_
  refine zj_aload_n o (zdd k_R_fill 20 rfl) rfl 1 rfl ?_
  obtain ⟨a1, e_a1, h⟩ := zbd h
  refine zj_gP o (zdd k_R_fill 21 rfl) fl_R_25 rfl e_a1 ?_
  obtain ⟨x2, e_x2, h⟩ := zbd h
  refine zj_gI o (zdd k_R_fill 22 rfl) fl_R_47 rfl e_x2 ?_
  refine zj_icmp_ge (tgt := 151) o (zdd k_R_fill 23 rfl) (by decide) (fun hc => ?_) (fun hc => ?_)
  · rw [if_pos hc] at h
    cases h
    exact zr_v o hr (zdd k_R_fill 78 rfl)
  · rw [if_neg hc] at h
    refine zj_aload_n o (zdd k_R_fill 24 rfl) rfl 1 rfl ?_
    refine zj_aload_n o (zdd k_R_fill 25 rfl) rfl 2 rfl ?_
    refine zj_aload_n o (zdd k_R_fill 26 rfl) rfl 0 rfl ?_
    obtain ⟨x3, e_x3, h⟩ := zbd h
    refine zj_gI o (zdd k_R_fill 27 rfl) fl_R_21 rfl e_x3 ?_
    refine zj_iload o (zdd k_R_fill 28 rfl) 3 rfl ?_
    obtain ⟨σ4, e_σ4, h⟩ := zbd h
    refine zc_V o (zdd k_R_fill 29 rfl) ml_R_50 mv_S_turnTo ⟨rfl, by decide⟩ (zg_some e_σ4).1 (by decide) [.ref v2, .int x3, .int v5] [] rfl (Nat.le_of_ble_eq_true rfl) rfl (m_S_turnTo e_σ4) ?_
    change zPJ X 0 0 _ _ [] _
    refine zj_iconst o (zdd k_R_fill 30 rfl) zki_0 ?_
    refine zj_istore (loc' := [(6, .int 0), (0, .ref v0), (1, .ref v1), (2, .ref v2), (5, .int v5)]) o (zdd k_R_fill 31 rfl) (by decide) rfl ?_
    exact zj_sub [1, 2, 3, 4, 0] rfl (r_R_fill_61L o hk35 zfu h hr)
def f_R_fill_35L : Nat → zSt → Nat → Nat → Nat → Int32 → Option (zSt)
  | 0 => fun _ _ _ _ _ => none
  | n + 1 => f_R_fill_35  (f_R_fill_35L  n)
theorem r_R_fill_35L {X : zCX} (o : zOK X "WantShelves$Rows" c_R_fill n_R_fill 5) : ∀ (n : Nat) {σ : zSt} {v0 : Nat} {v1 : Nat} {v2 : Nat} {v5 : Int32} {z : zSt}, f_R_fill_35L n σ v0 v1 v2 v5 = some z → zRX X 0 0 none z → zPJ X 0 0 35 [(0, .ref v0), (1, .ref v1), (2, .ref v2), (5, .int v5)] [] σ
  | 0 => fun h _ => by cases h
  | n + 1 => fun h hr => r_R_fill_35 o (r_R_fill_35L o  n) h hr
def f_R_fill (σ : zSt) (t : Nat) (p0 : Nat) (p1 : Nat) (p2 : Int32) (p3 : Int32) : Option (zSt) :=
zg σ 6 t (
(zsI σ 6 t 2 p2).bind fun σ1 =>
(zgP σ1 8 p0 0).bind fun a2 =>
(zgI σ1 10 a2 0).bind fun x3 =>
(zsI σ1 6 t 3 x3).bind fun σ4 =>
(zsI σ4 6 t 1 (-1)).bind fun σ5 =>
(zsI σ5 6 t 0 0).bind fun σ6 =>
(f_R_fillCells σ6 t p3).bind fun σ7 =>
f_R_fill_35L zfu σ7 t p0 p1 0)
set_option maxRecDepth 100000 in
set_option maxHeartbeats 4000000 in
theorem m_R_fill {l : Launch} {b : Nat} {ex : Nat → Value} {D : va_G} {ca : Nat → ClassId} {σ : zSt} {t : Nat} {p0 : Nat} {p1 : Nat} {p2 : Int32} {p3 : Int32} {z : zSt} (h : f_R_fill σ t p0 p1 p2 p3 = some z) : zMT l b ex D ca 5 y_R_fill c_R_fill n_R_fill r_ret_R_fill [.ref t, .ref p0, .ref p1, .int p2, .int p3] σ none z 0 0 := by
  obtain ⟨_, hg0⟩ := zg_some h
  have h := hg0
  refine zmt_of (by decide) (Nat.le_of_ble_eq_true rfl) rfl (fun X o hin hrm _ _ _ _ _ hr => ?_)
  have hr := hr 0 0 (by decide) (by decide)
  have o : zOK X "WantShelves$Rows" c_R_fill n_R_fill 5 := o
  change zPJ X 0 0 0 [(0, .ref t), (1, .ref p0), (2, .ref p1), (3, .int p2), (4, .int p3)] [] σ
  refine zj_aload_n o (zdd k_R_fill 0 rfl) rfl 0 rfl ?_
  refine zj_iload_n o (zdd k_R_fill 1 rfl) rfl 3 rfl ?_
  obtain ⟨σ1, e_σ1, h⟩ := zbd h
  refine zj_pI o (zdd k_R_fill 2 rfl) fl_R_21 rfl rfl e_σ1 ?_
  refine zj_aload_n o (zdd k_R_fill 3 rfl) rfl 0 rfl ?_
  refine zj_aload_n o (zdd k_R_fill 4 rfl) rfl 1 rfl ?_
  obtain ⟨a2, e_a2, h⟩ := zbd h
  refine zj_gP o (zdd k_R_fill 5 rfl) fl_R_25 rfl e_a2 ?_
  obtain ⟨x3, e_x3, h⟩ := zbd h
  refine zj_gI o (zdd k_R_fill 6 rfl) fl_R_31 rfl e_x3 ?_
  obtain ⟨σ4, e_σ4, h⟩ := zbd h
  refine zj_pI o (zdd k_R_fill 7 rfl) fl_R_36 rfl rfl e_σ4 ?_
  refine zj_aload_n o (zdd k_R_fill 8 rfl) rfl 0 rfl ?_
  refine zj_iconst o (zdd k_R_fill 9 rfl) zki_m1 ?_
  obtain ⟨σ5, e_σ5, h⟩ := zbd h
  refine zj_pI o (zdd k_R_fill 10 rfl) fl_R_37 rfl rfl e_σ5 ?_
  refine zj_aload_n o (zdd k_R_fill 11 rfl) rfl 0 rfl ?_
  refine zj_iconst o (zdd k_R_fill 12 rfl) zki_0 ?_
  obtain ⟨σ6, e_σ6, h⟩ := zbd h
  refine zj_pI o (zdd k_R_fill 13 rfl) fl_R_40 rfl rfl e_σ6 ?_
  refine zj_aload_n o (zdd k_R_fill 14 rfl) rfl 0 rfl ?_
  refine zj_iload o (zdd k_R_fill 15 rfl) 4 rfl ?_
  obtain ⟨σ7, e_σ7, h⟩ := zbd h
  refine zc_V o (zdd k_R_fill 16 rfl) ml_R_43 mv_R_fillCells ⟨rfl, by decide⟩ (zg_some e_σ7).1 (by decide) [.int p3] [] rfl (Nat.le_of_ble_eq_true rfl) rfl (m_R_fillCells e_σ7) ?_
  change zPJ X 0 0 _ _ [] _
  refine zj_iconst o (zdd k_R_fill 17 rfl) zki_0 ?_
  refine zj_istore (loc' := [(5, .int 0), (0, .ref t), (1, .ref p0), (2, .ref p1), (3, .int p2), (4, .int p3)]) o (zdd k_R_fill 18 rfl) (by decide) rfl ?_
  exact zj_sub [1, 2, 3, 0] rfl (r_R_fill_35L o  zfu h hr)
def f_R_nearest_60 (σ : zSt) (v0 : Nat) (v1 : Nat) (v4 : Int32) : Option (Int32 × zSt) :=
(f_R_wear σ v0 v1 v4).bind fun σ1 =>
some (v4, σ1)
set_option maxRecDepth 100000 in
set_option maxHeartbeats 4000000 in
theorem r_R_nearest_60 {X : zCX} (o : zOK X "WantShelves$Rows" c_R_nearest n_R_nearest 5) {σ : zSt} {v0 : Nat} {v1 : Nat} {v4 : Int32} {z : Int32 × zSt} (h : f_R_nearest_60 σ v0 v1 v4 = some z) (hr : zRX X 0 0 (some (.int z.1)) z.2) : zPJ X 0 0 60 [(0, .ref v0), (1, .ref v1), (4, .int v4)] [] σ := by
  unfold f_R_nearest_60 at h
  refine zj_aload_n o (zdd k_R_nearest 30 rfl) rfl 0 rfl ?_
  refine zj_aload_n o (zdd k_R_nearest 31 rfl) rfl 1 rfl ?_
  refine zj_iload o (zdd k_R_nearest 32 rfl) 2 rfl ?_
  obtain ⟨σ1, e_σ1, h⟩ := zbd h
  refine zc_V o (zdd k_R_nearest 33 rfl) ml_R_72 mv_R_wear ⟨rfl, by decide⟩ (zg_some e_σ1).1 (by decide) [.ref v1, .int v4] [] rfl (Nat.le_of_ble_eq_true rfl) rfl (m_R_wear e_σ1) ?_
  change zPJ X 0 0 _ _ [] _
  refine zj_iload o (zdd k_R_nearest 34 rfl) 2 rfl ?_
  cases h
  exact zr_i o hr (zdd k_R_nearest 35 rfl)
def f_R_nearest_10 (k10 : zSt → Nat → Nat → Int32 → Int32 → Int32 → Int32 → Int32 → Option (Int32 × zSt)) (σ : zSt) (v0 : Nat) (v1 : Nat) (v2 : Int32) (v3 : Int32) (v4 : Int32) (v5 : Int32) (v6 : Int32) : Option (Int32 × zSt) :=
(zgI σ 6 v0 4).bind fun x1 =>
if x1 ≤ v6 then (
f_R_nearest_60 σ v0 v1 v4) else
if v5 ≤ 0 then (
f_R_nearest_60 σ v0 v1 v4) else
(f_R_wear σ v0 v1 v6).bind fun σ2 =>
(f_S_placeFor σ2 v1 v2 v3).bind fun q3 =>
if v5 ≤ q3.1 then (
k10 q3.2 v0 v1 v2 v3 v4 v5 (v6 + 1)) else
k10 q3.2 v0 v1 v2 v3 v6 q3.1 (v6 + 1)
set_option maxRecDepth 100000 in
set_option maxHeartbeats 4000000 in
theorem r_R_nearest_10 {X : zCX} (o : zOK X "WantShelves$Rows" c_R_nearest n_R_nearest 5) {k10 : zSt → Nat → Nat → Int32 → Int32 → Int32 → Int32 → Int32 → Option (Int32 × zSt)} (hk10 : ∀ {σ : zSt} {v0 : Nat} {v1 : Nat} {v2 : Int32} {v3 : Int32} {v4 : Int32} {v5 : Int32} {v6 : Int32} {z : Int32 × zSt}, k10 σ v0 v1 v2 v3 v4 v5 v6 = some z → zRX X 0 0 (some (.int z.1)) z.2 → zPJ X 0 0 10 [(0, .ref v0), (1, .ref v1), (2, .int v2), (3, .int v3), (4, .int v4), (5, .int v5), (6, .int v6)] [] σ) {σ : zSt} {v0 : Nat} {v1 : Nat} {v2 : Int32} {v3 : Int32} {v4 : Int32} {v5 : Int32} {v6 : Int32} {z : Int32 × zSt} (h : f_R_nearest_10 k10 σ v0 v1 v2 v3 v4 v5 v6 = some z) (hr : zRX X 0 0 (some (.int z.1)) z.2) : zPJ X 0 0 10 [(0, .ref v0), (1, .ref v1), (2, .int v2), (3, .int v3), (4, .int v4), (5, .int v5), (6, .int v6)] [] σ := by
  unfold f_R_nearest_10 at h
  refine zj_iload o (zdd k_R_nearest 6 rfl) 6 rfl ?_
  refine zj_aload_n o (zdd k_R_nearest 7 rfl) rfl 0 rfl ?_
  obtain ⟨x1, e_x1, h⟩ := zbd h
  refine zj_gI o (zdd k_R_nearest 8 rfl) fl_R_54 rfl e_x1 ?_
  refine zj_icmp_ge (tgt := 60) o (zdd k_R_nearest 9 rfl) (by decide) (fun hc => ?_) (fun hc => ?_)
  · rw [if_pos hc] at h
    exact zj_sub [0, 1, 4] rfl (r_R_nearest_60 o  h hr)
  · rw [if_neg hc] at h
    refine zj_iload o (zdd k_R_nearest 10 rfl) 5 rfl ?_
    refine zj_if_le (tgt := 60) o (zdd k_R_nearest 11 rfl) (by decide) (fun hc => ?_) (fun hc => ?_)
    · rw [if_pos hc] at h
      exact zj_sub [0, 1, 4] rfl (r_R_nearest_60 o  h hr)
    · rw [if_neg hc] at h
      refine zj_aload_n o (zdd k_R_nearest 12 rfl) rfl 0 rfl ?_
      refine zj_aload_n o (zdd k_R_nearest 13 rfl) rfl 1 rfl ?_
      refine zj_iload o (zdd k_R_nearest 14 rfl) 6 rfl ?_
      obtain ⟨σ2, e_σ2, h⟩ := zbd h
      refine zc_V o (zdd k_R_nearest 15 rfl) ml_R_72 mv_R_wear ⟨rfl, by decide⟩ (zg_some e_σ2).1 (by decide) [.ref v1, .int v6] [] rfl (Nat.le_of_ble_eq_true rfl) rfl (m_R_wear e_σ2) ?_
      change zPJ X 0 0 _ _ [] _
      refine zj_aload_n o (zdd k_R_nearest 16 rfl) rfl 1 rfl ?_
      refine zj_iload_n o (zdd k_R_nearest 17 rfl) rfl 2 rfl ?_
      refine zj_iload_n o (zdd k_R_nearest 18 rfl) rfl 3 rfl ?_
      obtain ⟨q3, e_q3, h⟩ := zbd h
      refine zc_V o (zdd k_R_nearest 19 rfl) ml_R_76 mv_S_placeFor ⟨rfl, by decide⟩ (zg_some e_q3).1 (by decide) [.int v2, .int v3] [] rfl (Nat.le_of_ble_eq_true rfl) rfl (m_S_placeFor e_q3) ?_
      change zPJ X 0 0 _ _ [.int q3.1] _
      refine zj_istore (loc' := [(7, .int q3.1), (0, .ref v0), (1, .ref v1), (2, .int v2), (3, .int v3), (4, .int v4), (5, .int v5), (6, .int v6)]) o (zdd k_R_nearest 20 rfl) (by decide) rfl ?_
      refine zj_iload o (zdd k_R_nearest 21 rfl) 0 rfl ?_
      refine zj_iload o (zdd k_R_nearest 22 rfl) 6 rfl ?_
      refine zj_icmp_ge (tgt := 54) o (zdd k_R_nearest 23 rfl) (by decide) (fun hc => ?_) (fun hc => ?_)
      · rw [if_pos hc] at h
        refine zj_iinc (v := v6 + 1) (loc' := [(6, .int (v6 + 1)), (7, .int q3.1), (0, .ref v0), (1, .ref v1), (2, .int v2), (3, .int v3), (4, .int v4), (5, .int v5)]) o (zdd k_R_nearest 28 rfl) 7 rfl (by rw [zki_1]) (by decide) rfl ?_
        refine zj_goto (tgt := 10) o (zdd k_R_nearest 29 rfl) (by decide) ?_
        exact zj_sub [2, 3, 4, 5, 6, 7, 0] rfl (hk10 h hr)
      · rw [if_neg hc] at h
        refine zj_iload o (zdd k_R_nearest 24 rfl) 7 rfl ?_
        refine zj_istore (loc' := [(4, .int v6), (7, .int q3.1), (0, .ref v0), (1, .ref v1), (2, .int v2), (3, .int v3), (5, .int v5), (6, .int v6)]) o (zdd k_R_nearest 25 rfl) (by decide) rfl ?_
        refine zj_iload o (zdd k_R_nearest 26 rfl) 1 rfl ?_
        refine zj_istore (loc' := [(5, .int q3.1), (4, .int v6), (7, .int q3.1), (0, .ref v0), (1, .ref v1), (2, .int v2), (3, .int v3), (6, .int v6)]) o (zdd k_R_nearest 27 rfl) (by decide) rfl ?_
        refine zj_iinc (v := v6 + 1) (loc' := [(6, .int (v6 + 1)), (5, .int q3.1), (4, .int v6), (7, .int q3.1), (0, .ref v0), (1, .ref v1), (2, .int v2), (3, .int v3)]) o (zdd k_R_nearest 28 rfl) 7 rfl (by rw [zki_1]) (by decide) rfl ?_
        refine zj_goto (tgt := 10) o (zdd k_R_nearest 29 rfl) (by decide) ?_
        exact zj_sub [4, 5, 6, 7, 2, 1, 0] rfl (hk10 h hr)
def f_R_nearest_10L : Nat → zSt → Nat → Nat → Int32 → Int32 → Int32 → Int32 → Int32 → Option (Int32 × zSt)
  | 0 => fun _ _ _ _ _ _ _ _ => none
  | n + 1 => f_R_nearest_10  (f_R_nearest_10L  n)
theorem r_R_nearest_10L {X : zCX} (o : zOK X "WantShelves$Rows" c_R_nearest n_R_nearest 5) : ∀ (n : Nat) {σ : zSt} {v0 : Nat} {v1 : Nat} {v2 : Int32} {v3 : Int32} {v4 : Int32} {v5 : Int32} {v6 : Int32} {z : Int32 × zSt}, f_R_nearest_10L n σ v0 v1 v2 v3 v4 v5 v6 = some z → zRX X 0 0 (some (.int z.1)) z.2 → zPJ X 0 0 10 [(0, .ref v0), (1, .ref v1), (2, .int v2), (3, .int v3), (4, .int v4), (5, .int v5), (6, .int v6)] [] σ
  | 0 => fun h _ => by cases h
  | n + 1 => fun h hr => r_R_nearest_10 o (r_R_nearest_10L o  n) h hr
def f_R_nearest (σ : zSt) (t : Nat) (p0 : Nat) (p1 : Int32) (p2 : Int32) : Option (Int32 × zSt) :=
zg σ 6 t (
f_R_nearest_10L zfu σ t p0 p1 p2 0 10 0)
set_option maxRecDepth 100000 in
set_option maxHeartbeats 4000000 in
theorem m_R_nearest {l : Launch} {b : Nat} {ex : Nat → Value} {D : va_G} {ca : Nat → ClassId} {σ : zSt} {t : Nat} {p0 : Nat} {p1 : Int32} {p2 : Int32} {z : Int32 × zSt} (h : f_R_nearest σ t p0 p1 p2 = some z) : zMT l b ex D ca 5 y_R_nearest c_R_nearest n_R_nearest r_ret_R_nearest [.ref t, .ref p0, .int p1, .int p2] σ (some (.int z.1)) z.2 0 0 := by
  obtain ⟨_, hg0⟩ := zg_some h
  have h := hg0
  refine zmt_of (by decide) (Nat.le_of_ble_eq_true rfl) ⟨.int, rfl, rfl⟩ (fun X o hin hrm _ _ _ _ _ hr => ?_)
  have hr := hr 0 0 (by decide) (by decide)
  have o : zOK X "WantShelves$Rows" c_R_nearest n_R_nearest 5 := o
  change zPJ X 0 0 0 [(0, .ref t), (1, .ref p0), (2, .int p1), (3, .int p2)] [] σ
  refine zj_iconst o (zdd k_R_nearest 0 rfl) zki_0 ?_
  refine zj_istore (loc' := [(4, .int 0), (0, .ref t), (1, .ref p0), (2, .int p1), (3, .int p2)]) o (zdd k_R_nearest 1 rfl) (by decide) rfl ?_
  refine zj_bipush o (zdd k_R_nearest 2 rfl) zkb_10 ?_
  refine zj_istore (loc' := [(5, .int 10), (4, .int 0), (0, .ref t), (1, .ref p0), (2, .int p1), (3, .int p2)]) o (zdd k_R_nearest 3 rfl) (by decide) rfl ?_
  refine zj_iconst o (zdd k_R_nearest 4 rfl) zki_0 ?_
  refine zj_istore (loc' := [(6, .int 0), (5, .int 10), (4, .int 0), (0, .ref t), (1, .ref p0), (2, .int p1), (3, .int p2)]) o (zdd k_R_nearest 5 rfl) (by decide) rfl ?_
  exact zj_sub [3, 4, 5, 6, 2, 1, 0] rfl (r_R_nearest_10L o  zfu h hr)
def f_R_takeBetter (σ : zSt) (t : Nat) (p0 : Nat) (p1 : Nat) (p2 : Int32) (p3 : Int32) : Option (Int32 × zSt) :=
zg σ 6 t (
((f_S_placeFor σ p0 p2 p3).bind fun q1 =>
if q1.1 = 0 then (
some (0, q1.2)) else
(f_R_nearest q1.2 t p0 p2 p3).bind fun q2 =>
(f_S_placeFor q2.2 p0 p2 p3).bind fun q3 =>
if q1.1 ≤ q3.1 then (
(zgI q3.2 6 t 1).bind fun x4 =>
if x4 = (-1) then (
(zgI q3.2 6 t 2).bind fun x7 =>
(zgP q3.2 4 p1 1).bind fun a8 =>
(zgI q3.2 6 t 2).bind fun x9 =>
(zaI q3.2 1 a8 x9).bind fun x10 =>
(f_S_weigh q3.2 p0 p1 x7 x10).bind fun σ11 =>
some (0, σ11)) else
(zgI q3.2 6 t 1).bind fun x5 =>
(f_R_wear q3.2 t p0 x5).bind fun σ6 =>
some (0, σ6)) else
(zsI q3.2 6 t 1 q2.1).bind fun σ12 =>
some (1, σ12)).bind fun q => (zbool q.1).bind fun x => some (x, q.2))
set_option maxRecDepth 100000 in
set_option maxHeartbeats 4000000 in
theorem m_R_takeBetter {l : Launch} {b : Nat} {ex : Nat → Value} {D : va_G} {ca : Nat → ClassId} {σ : zSt} {t : Nat} {p0 : Nat} {p1 : Nat} {p2 : Int32} {p3 : Int32} {z : Int32 × zSt} (h : f_R_takeBetter σ t p0 p1 p2 p3 = some z) : zMT l b ex D ca 6 y_R_takeBetter c_R_takeBetter n_R_takeBetter r_ret_R_takeBetter [.ref t, .ref p0, .ref p1, .int p2, .int p3] σ (some (.int z.1)) z.2 0 0 := by
  obtain ⟨_, hg0⟩ := zg_some h
  obtain ⟨z0, hbd, hz⟩ := zbd hg0
  obtain ⟨z1, hz1, hzz⟩ := zbd hz
  obtain ⟨hzb, rfl⟩ := zbool_some hz1
  cases hzz
  have h := hbd
  refine zmt_of (by decide) (Nat.le_of_ble_eq_true rfl) ⟨.boolean, rfl, zb_nar hzb⟩ (fun X o hin hrm _ _ _ _ _ hr => ?_)
  have hr := hr 0 0 (by decide) (by decide)
  have o : zOK X "WantShelves$Rows" c_R_takeBetter n_R_takeBetter 6 := o
  change zPJ X 0 0 0 [(0, .ref t), (1, .ref p0), (2, .ref p1), (3, .int p2), (4, .int p3)] [] σ
  refine zj_aload_n o (zdd k_R_takeBetter 0 rfl) rfl 1 rfl ?_
  refine zj_iload_n o (zdd k_R_takeBetter 1 rfl) rfl 3 rfl ?_
  refine zj_iload o (zdd k_R_takeBetter 2 rfl) 4 rfl ?_
  obtain ⟨q1, e_q1, h⟩ := zbd h
  refine zc_V o (zdd k_R_takeBetter 3 rfl) ml_R_76 mv_S_placeFor ⟨rfl, by decide⟩ (zg_some e_q1).1 (by decide) [.int p2, .int p3] [] rfl (Nat.le_of_ble_eq_true rfl) rfl (m_S_placeFor e_q1) ?_
  change zPJ X 0 0 _ _ [.int q1.1] _
  refine zj_istore (loc' := [(5, .int q1.1), (0, .ref t), (1, .ref p0), (2, .ref p1), (3, .int p2), (4, .int p3)]) o (zdd k_R_takeBetter 4 rfl) (by decide) rfl ?_
  refine zj_iload o (zdd k_R_takeBetter 5 rfl) 0 rfl ?_
  refine zj_if_ne (tgt := 16) o (zdd k_R_takeBetter 6 rfl) (by decide) (fun hc => ?_) (fun hc => ?_)
  · rw [if_neg hc] at h
    refine zj_aload_n o (zdd k_R_takeBetter 9 rfl) rfl 1 rfl ?_
    refine zj_aload_n o (zdd k_R_takeBetter 10 rfl) rfl 2 rfl ?_
    refine zj_iload_n o (zdd k_R_takeBetter 11 rfl) rfl 4 rfl ?_
    refine zj_iload o (zdd k_R_takeBetter 12 rfl) 5 rfl ?_
    obtain ⟨q2, e_q2, h⟩ := zbd h
    refine zc_V o (zdd k_R_takeBetter 13 rfl) ml_R_79 mv_R_nearest ⟨rfl, by decide⟩ (zg_some e_q2).1 (by decide) [.ref p0, .int p2, .int p3] [] rfl (Nat.le_of_ble_eq_true rfl) rfl (m_R_nearest e_q2) ?_
    change zPJ X 0 0 _ _ [.int q2.1] _
    refine zj_istore (loc' := [(6, .int q2.1), (5, .int q1.1), (0, .ref t), (1, .ref p0), (2, .ref p1), (3, .int p2), (4, .int p3)]) o (zdd k_R_takeBetter 14 rfl) (by decide) rfl ?_
    refine zj_aload_n o (zdd k_R_takeBetter 15 rfl) rfl 3 rfl ?_
    refine zj_iload_n o (zdd k_R_takeBetter 16 rfl) rfl 5 rfl ?_
    refine zj_iload o (zdd k_R_takeBetter 17 rfl) 6 rfl ?_
    obtain ⟨q3, e_q3, h⟩ := zbd h
    refine zc_V o (zdd k_R_takeBetter 18 rfl) ml_R_76 mv_S_placeFor ⟨rfl, by decide⟩ (zg_some e_q3).1 (by decide) [.int p2, .int p3] [] rfl (Nat.le_of_ble_eq_true rfl) rfl (m_S_placeFor e_q3) ?_
    change zPJ X 0 0 _ _ [.int q3.1] _
    refine zj_iload o (zdd k_R_takeBetter 19 rfl) 1 rfl ?_
    refine zj_icmp_ge (tgt := 46) o (zdd k_R_takeBetter 20 rfl) (by decide) (fun hc => ?_) (fun hc => ?_)
    · rw [if_pos hc] at h
      refine zj_aload_n o (zdd k_R_takeBetter 26 rfl) rfl 2 rfl ?_
      obtain ⟨x4, e_x4, h⟩ := zbd h
      refine zj_gI o (zdd k_R_takeBetter 27 rfl) fl_R_37 rfl e_x4 ?_
      refine zj_iconst o (zdd k_R_takeBetter 28 rfl) zki_m1 ?_
      refine zj_icmp_ne (tgt := 75) o (zdd k_R_takeBetter 29 rfl) (by decide) (fun hc => ?_) (fun hc => ?_)
      · rw [if_neg hc] at h
        refine zj_aload_n o (zdd k_R_takeBetter 41 rfl) rfl 2 rfl ?_
        refine zj_aload_n o (zdd k_R_takeBetter 42 rfl) rfl 3 rfl ?_
        refine zj_aload_n o (zdd k_R_takeBetter 43 rfl) rfl 2 rfl ?_
        obtain ⟨x5, e_x5, h⟩ := zbd h
        refine zj_gI o (zdd k_R_takeBetter 44 rfl) fl_R_37 rfl e_x5 ?_
        obtain ⟨σ6, e_σ6, h⟩ := zbd h
        refine zc_V o (zdd k_R_takeBetter 45 rfl) ml_R_72 mv_R_wear ⟨rfl, by decide⟩ (zg_some e_σ6).1 (by decide) [.ref p0, .int x5] [] rfl (Nat.le_of_ble_eq_true rfl) rfl (m_R_wear e_σ6) ?_
        change zPJ X 0 0 _ _ [] _
        refine zj_iconst o (zdd k_R_takeBetter 46 rfl) zki_0 ?_
        cases h
        exact zr_i o hr (zdd k_R_takeBetter 47 rfl)
      · rw [if_pos hc] at h
        refine zj_aload_n o (zdd k_R_takeBetter 30 rfl) rfl 3 rfl ?_
        refine zj_aload_n o (zdd k_R_takeBetter 31 rfl) rfl 4 rfl ?_
        refine zj_aload_n o (zdd k_R_takeBetter 32 rfl) rfl 2 rfl ?_
        obtain ⟨x7, e_x7, h⟩ := zbd h
        refine zj_gI o (zdd k_R_takeBetter 33 rfl) fl_R_21 rfl e_x7 ?_
        refine zj_aload_n o (zdd k_R_takeBetter 34 rfl) rfl 4 rfl ?_
        obtain ⟨a8, e_a8, h⟩ := zbd h
        refine zj_gP o (zdd k_R_takeBetter 35 rfl) fl_R_83 rfl e_a8 ?_
        refine zj_aload_n o (zdd k_R_takeBetter 36 rfl) rfl 2 rfl ?_
        obtain ⟨x9, e_x9, h⟩ := zbd h
        refine zj_gI o (zdd k_R_takeBetter 37 rfl) fl_R_21 rfl e_x9 ?_
        obtain ⟨x10, e_x10, h⟩ := zbd h
        refine zj_iald o (zdd k_R_takeBetter 38 rfl) e_x10 ?_
        obtain ⟨σ11, e_σ11, h⟩ := zbd h
        refine zc_V o (zdd k_R_takeBetter 39 rfl) ml_R_88 mv_S_weigh ⟨rfl, by decide⟩ (zg_some e_σ11).1 (by decide) [.ref p1, .int x7, .int x10] [] rfl (Nat.le_of_ble_eq_true rfl) rfl (m_S_weigh e_σ11) ?_
        change zPJ X 0 0 _ _ [] _
        refine zj_goto (tgt := 84) o (zdd k_R_takeBetter 40 rfl) (by decide) ?_
        refine zj_iconst o (zdd k_R_takeBetter 46 rfl) zki_0 ?_
        cases h
        exact zr_i o hr (zdd k_R_takeBetter 47 rfl)
    · rw [if_neg hc] at h
      refine zj_aload_n o (zdd k_R_takeBetter 21 rfl) rfl 2 rfl ?_
      refine zj_iload o (zdd k_R_takeBetter 22 rfl) 0 rfl ?_
      obtain ⟨σ12, e_σ12, h⟩ := zbd h
      refine zj_pI o (zdd k_R_takeBetter 23 rfl) fl_R_37 rfl rfl e_σ12 ?_
      refine zj_iconst o (zdd k_R_takeBetter 24 rfl) zki_1 ?_
      cases h
      exact zr_i o hr (zdd k_R_takeBetter 25 rfl)
  · rw [if_pos hc] at h
    refine zj_iconst o (zdd k_R_takeBetter 7 rfl) zki_0 ?_
    cases h
    exact zr_i o hr (zdd k_R_takeBetter 8 rfl)
def f_R_hasAhead (σ : zSt) (t : Nat) (p0 : Int32) (p1 : Int32) (p2 : Int32) : Option (Int32) :=
zg σ 6 t (
((zgP σ 6 t 6).bind fun a1 =>
(zaI σ 1 a1 ((p0 * 10) + p1)).bind fun x2 =>
(zgP σ 6 t 6).bind fun a3 =>
(zaI σ 1 a3 ((p0 * 10) + p2)).bind fun x4 =>
(f_S_comesAhead x2 p1 x4 p2).bind fun x5 =>
some x5).bind zbool)
set_option maxRecDepth 100000 in
set_option maxHeartbeats 4000000 in
theorem m_R_hasAhead {l : Launch} {b : Nat} {ex : Nat → Value} {D : va_G} {ca : Nat → ClassId} {σ : zSt} {t : Nat} {p0 : Int32} {p1 : Int32} {p2 : Int32} {z : Int32} (h : f_R_hasAhead σ t p0 p1 p2 = some z) : zMT l b ex D ca 2 y_R_hasAhead c_R_hasAhead n_R_hasAhead r_ret_R_hasAhead [.ref t, .int p0, .int p1, .int p2] σ (some (.int z)) σ 0 0 := by
  obtain ⟨_, hg0⟩ := zg_some h
  obtain ⟨z0, hbd, hz⟩ := zbd hg0
  obtain ⟨hzb, rfl⟩ := zbool_some hz
  have h := hbd
  refine zmt_of (by decide) (Nat.le_of_ble_eq_true rfl) ⟨.boolean, rfl, zb_nar hzb⟩ (fun X o hin hrm _ _ _ _ _ hr => ?_)
  have hr := hr 0 0 (by decide) (by decide)
  have o : zOK X "WantShelves$Rows" c_R_hasAhead n_R_hasAhead 2 := o
  change zPJ X 0 0 0 [(0, .ref t), (1, .int p0), (2, .int p1), (3, .int p2)] [] σ
  refine zj_aload_n o (zdd k_R_hasAhead 0 rfl) rfl 0 rfl ?_
  obtain ⟨a1, e_a1, h⟩ := zbd h
  refine zj_gP o (zdd k_R_hasAhead 1 rfl) fl_R_15 rfl e_a1 ?_
  refine zj_iload_n o (zdd k_R_hasAhead 2 rfl) rfl 1 rfl ?_
  refine zj_bipush o (zdd k_R_hasAhead 3 rfl) zkb_10 ?_
  refine zj_imul o (zdd k_R_hasAhead 4 rfl) ?_
  refine zj_iload_n o (zdd k_R_hasAhead 5 rfl) rfl 2 rfl ?_
  refine zj_iadd o (zdd k_R_hasAhead 6 rfl) ?_
  obtain ⟨x2, e_x2, h⟩ := zbd h
  refine zj_iald o (zdd k_R_hasAhead 7 rfl) e_x2 ?_
  refine zj_iload_n o (zdd k_R_hasAhead 8 rfl) rfl 2 rfl ?_
  refine zj_aload_n o (zdd k_R_hasAhead 9 rfl) rfl 0 rfl ?_
  obtain ⟨a3, e_a3, h⟩ := zbd h
  refine zj_gP o (zdd k_R_hasAhead 10 rfl) fl_R_15 rfl e_a3 ?_
  refine zj_iload_n o (zdd k_R_hasAhead 11 rfl) rfl 1 rfl ?_
  refine zj_bipush o (zdd k_R_hasAhead 12 rfl) zkb_10 ?_
  refine zj_imul o (zdd k_R_hasAhead 13 rfl) ?_
  refine zj_iload_n o (zdd k_R_hasAhead 14 rfl) rfl 3 rfl ?_
  refine zj_iadd o (zdd k_R_hasAhead 15 rfl) ?_
  obtain ⟨x4, e_x4, h⟩ := zbd h
  refine zj_iald o (zdd k_R_hasAhead 16 rfl) e_x4 ?_
  refine zj_iload_n o (zdd k_R_hasAhead 17 rfl) rfl 3 rfl ?_
  obtain ⟨x5, e_x5, h⟩ := zbd h
  refine zc_S o (zdd k_R_hasAhead 18 rfl) ml_R_120 ms_S_comesAhead (by decide) [.int x2, .int p1, .int x4, .int p2] [] rfl (Nat.le_of_ble_eq_true rfl) rfl (m_S_comesAhead e_x5) ?_
  change zPJ X 0 0 _ _ [.int x5] _
  cases h
  exact zr_i o hr (zdd k_R_hasAhead 19 rfl)
def f_R_isFitting_3 (k3 : zSt → Nat → Int32 → Nat → Int32 → Int32 → Option (Int32)) (σ : zSt) (v0 : Nat) (v1 : Int32) (v2 : Nat) (v3 : Int32) (v4 : Int32) : Option (Int32) :=
(zgI σ 3 v2 0).bind fun x1 =>
if x1 ≤ v4 then (
some 1) else
(zgI σ 6 v0 2).bind fun x2 =>
(f_L_counts σ v2 v4 x2 v3).bind fun x3 =>
if x3 = 0 then (
k3 σ v0 v1 v2 v3 (v4 + 1)) else
(zgP σ 3 v2 2).bind fun a4 =>
(zaI σ 1 a4 v4).bind fun x5 =>
(zgP σ 3 v2 3).bind fun a6 =>
(zaI σ 1 a6 v4).bind fun x7 =>
(f_R_hasAhead σ v0 v1 x5 x7).bind fun x8 =>
if x8 = 0 then (
some 0) else
k3 σ v0 v1 v2 v3 (v4 + 1)
set_option maxRecDepth 100000 in
set_option maxHeartbeats 4000000 in
theorem r_R_isFitting_3 {X : zCX} (o : zOK X "WantShelves$Rows" c_R_isFitting n_R_isFitting 3) {k3 : zSt → Nat → Int32 → Nat → Int32 → Int32 → Option (Int32)} (hk3 : ∀ {σ : zSt} {v0 : Nat} {v1 : Int32} {v2 : Nat} {v3 : Int32} {v4 : Int32} {z : Int32}, k3 σ v0 v1 v2 v3 v4 = some z → zRX X 0 0 (some (.int z)) σ → zPJ X 0 0 3 [(0, .ref v0), (1, .int v1), (2, .ref v2), (3, .int v3), (4, .int v4)] [] σ) {σ : zSt} {v0 : Nat} {v1 : Int32} {v2 : Nat} {v3 : Int32} {v4 : Int32} {z : Int32} (h : f_R_isFitting_3 k3 σ v0 v1 v2 v3 v4 = some z) (hr : zRX X 0 0 (some (.int z)) σ) : zPJ X 0 0 3 [(0, .ref v0), (1, .int v1), (2, .ref v2), (3, .int v3), (4, .int v4)] [] σ := by
  unfold f_R_isFitting_3 at h
  refine zj_iload o (zdd k_R_isFitting 2 rfl) 4 rfl ?_
  refine zj_aload_n o (zdd k_R_isFitting 3 rfl) rfl 2 rfl ?_
  obtain ⟨x1, e_x1, h⟩ := zbd h
  refine zj_gI o (zdd k_R_isFitting 4 rfl) fl_R_108 rfl e_x1 ?_
  refine zj_icmp_ge (tgt := 56) o (zdd k_R_isFitting 5 rfl) (by decide) (fun hc => ?_) (fun hc => ?_)
  · rw [if_pos hc] at h
    refine zj_iconst o (zdd k_R_isFitting 29 rfl) zki_1 ?_
    cases h
    exact zr_i o hr (zdd k_R_isFitting 30 rfl)
  · rw [if_neg hc] at h
    refine zj_aload_n o (zdd k_R_isFitting 6 rfl) rfl 2 rfl ?_
    refine zj_iload o (zdd k_R_isFitting 7 rfl) 4 rfl ?_
    refine zj_aload_n o (zdd k_R_isFitting 8 rfl) rfl 0 rfl ?_
    obtain ⟨x2, e_x2, h⟩ := zbd h
    refine zj_gI o (zdd k_R_isFitting 9 rfl) fl_R_21 rfl e_x2 ?_
    refine zj_iload_n o (zdd k_R_isFitting 10 rfl) rfl 3 rfl ?_
    obtain ⟨x3, e_x3, h⟩ := zbd h
    refine zc_V o (zdd k_R_isFitting 11 rfl) ml_R_111 mv_L_counts ⟨rfl, by decide⟩ (zg_some e_x3).1 (by decide) [.int v4, .int x2, .int v3] [] rfl (Nat.le_of_ble_eq_true rfl) rfl (m_L_counts e_x3) ?_
    change zPJ X 0 0 _ _ [.int x3] _
    refine zj_if_eq (tgt := 50) o (zdd k_R_isFitting 12 rfl) (by decide) (fun hc => ?_) (fun hc => ?_)
    · rw [if_pos hc] at h
      refine zj_iinc (v := v4 + 1) (loc' := [(4, .int (v4 + 1)), (0, .ref v0), (1, .int v1), (2, .ref v2), (3, .int v3)]) o (zdd k_R_isFitting 27 rfl) 4 rfl (by rw [zki_1]) (by decide) rfl ?_
      refine zj_goto (tgt := 3) o (zdd k_R_isFitting 28 rfl) (by decide) ?_
      exact zj_sub [1, 2, 3, 4, 0] rfl (hk3 h hr)
    · rw [if_neg hc] at h
      refine zj_aload_n o (zdd k_R_isFitting 13 rfl) rfl 0 rfl ?_
      refine zj_iload_n o (zdd k_R_isFitting 14 rfl) rfl 1 rfl ?_
      refine zj_aload_n o (zdd k_R_isFitting 15 rfl) rfl 2 rfl ?_
      obtain ⟨a4, e_a4, h⟩ := zbd h
      refine zj_gP o (zdd k_R_isFitting 16 rfl) fl_R_114 rfl e_a4 ?_
      refine zj_iload o (zdd k_R_isFitting 17 rfl) 4 rfl ?_
      obtain ⟨x5, e_x5, h⟩ := zbd h
      refine zj_iald o (zdd k_R_isFitting 18 rfl) e_x5 ?_
      refine zj_aload_n o (zdd k_R_isFitting 19 rfl) rfl 2 rfl ?_
      obtain ⟨a6, e_a6, h⟩ := zbd h
      refine zj_gP o (zdd k_R_isFitting 20 rfl) fl_R_117 rfl e_a6 ?_
      refine zj_iload o (zdd k_R_isFitting 21 rfl) 4 rfl ?_
      obtain ⟨x7, e_x7, h⟩ := zbd h
      refine zj_iald o (zdd k_R_isFitting 22 rfl) e_x7 ?_
      obtain ⟨x8, e_x8, h⟩ := zbd h
      refine zc_V o (zdd k_R_isFitting 23 rfl) ml_R_104 mv_R_hasAhead ⟨rfl, by decide⟩ (zg_some e_x8).1 (by decide) [.int v1, .int x5, .int x7] [] rfl (Nat.le_of_ble_eq_true rfl) rfl (m_R_hasAhead e_x8) ?_
      change zPJ X 0 0 _ _ [.int x8] _
      refine zj_if_ne (tgt := 50) o (zdd k_R_isFitting 24 rfl) (by decide) (fun hc => ?_) (fun hc => ?_)
      · rw [if_neg hc] at h
        refine zj_iinc (v := v4 + 1) (loc' := [(4, .int (v4 + 1)), (0, .ref v0), (1, .int v1), (2, .ref v2), (3, .int v3)]) o (zdd k_R_isFitting 27 rfl) 4 rfl (by rw [zki_1]) (by decide) rfl ?_
        refine zj_goto (tgt := 3) o (zdd k_R_isFitting 28 rfl) (by decide) ?_
        exact zj_sub [1, 2, 3, 4, 0] rfl (hk3 h hr)
      · rw [if_pos hc] at h
        refine zj_iconst o (zdd k_R_isFitting 25 rfl) zki_0 ?_
        cases h
        exact zr_i o hr (zdd k_R_isFitting 26 rfl)
def f_R_isFitting_3L : Nat → zSt → Nat → Int32 → Nat → Int32 → Int32 → Option (Int32)
  | 0 => fun _ _ _ _ _ _ => none
  | n + 1 => f_R_isFitting_3  (f_R_isFitting_3L  n)
theorem r_R_isFitting_3L {X : zCX} (o : zOK X "WantShelves$Rows" c_R_isFitting n_R_isFitting 3) : ∀ (n : Nat) {σ : zSt} {v0 : Nat} {v1 : Int32} {v2 : Nat} {v3 : Int32} {v4 : Int32} {z : Int32}, f_R_isFitting_3L n σ v0 v1 v2 v3 v4 = some z → zRX X 0 0 (some (.int z)) σ → zPJ X 0 0 3 [(0, .ref v0), (1, .int v1), (2, .ref v2), (3, .int v3), (4, .int v4)] [] σ
  | 0 => fun h _ => by cases h
  | n + 1 => fun h hr => r_R_isFitting_3 o (r_R_isFitting_3L o  n) h hr
def f_R_isFitting (σ : zSt) (t : Nat) (p0 : Int32) (p1 : Nat) (p2 : Int32) : Option (Int32) :=
zg σ 6 t (
(f_R_isFitting_3L zfu σ t p0 p1 p2 0).bind zbool)
set_option maxRecDepth 100000 in
set_option maxHeartbeats 4000000 in
theorem m_R_isFitting {l : Launch} {b : Nat} {ex : Nat → Value} {D : va_G} {ca : Nat → ClassId} {σ : zSt} {t : Nat} {p0 : Int32} {p1 : Nat} {p2 : Int32} {z : Int32} (h : f_R_isFitting σ t p0 p1 p2 = some z) : zMT l b ex D ca 3 y_R_isFitting c_R_isFitting n_R_isFitting r_ret_R_isFitting [.ref t, .int p0, .ref p1, .int p2] σ (some (.int z)) σ 0 0 := by
  obtain ⟨_, hg0⟩ := zg_some h
  obtain ⟨z0, hbd, hz⟩ := zbd hg0
  obtain ⟨hzb, rfl⟩ := zbool_some hz
  have h := hbd
  refine zmt_of (by decide) (Nat.le_of_ble_eq_true rfl) ⟨.boolean, rfl, zb_nar hzb⟩ (fun X o hin hrm _ _ _ _ _ hr => ?_)
  have hr := hr 0 0 (by decide) (by decide)
  have o : zOK X "WantShelves$Rows" c_R_isFitting n_R_isFitting 3 := o
  change zPJ X 0 0 0 [(0, .ref t), (1, .int p0), (2, .ref p1), (3, .int p2)] [] σ
  refine zj_iconst o (zdd k_R_isFitting 0 rfl) zki_0 ?_
  refine zj_istore (loc' := [(4, .int 0), (0, .ref t), (1, .int p0), (2, .ref p1), (3, .int p2)]) o (zdd k_R_isFitting 1 rfl) (by decide) rfl ?_
  exact zj_sub [1, 2, 3, 4, 0] rfl (r_R_isFitting_3L o  zfu h hr)
def f_R_keepFitting_7 (k7 : zSt → Nat → Nat → Int32 → Int32 → Option (zSt)) (σ : zSt) (v0 : Nat) (v1 : Nat) (v2 : Int32) (v3 : Int32) : Option (zSt) :=
(zgI σ 6 v0 4).bind fun x1 =>
if x1 ≤ v3 then (
some σ) else
(f_R_isFitting σ v0 v3 v1 v2).bind fun x2 =>
if x2 = 0 then (
k7 σ v0 v1 v2 (v3 + 1)) else
(zgP σ 6 v0 7).bind fun a3 =>
(zgI σ 6 v0 0).bind fun x4 =>
(zwI σ 1 a3 x4 v3).bind fun σ5 =>
(zgI σ5 6 v0 0).bind fun x6 =>
(zsI σ5 6 v0 0 (x6 + 1)).bind fun σ7 =>
k7 σ7 v0 v1 v2 (v3 + 1)
set_option maxRecDepth 100000 in
set_option maxHeartbeats 4000000 in
theorem r_R_keepFitting_7 {X : zCX} (o : zOK X "WantShelves$Rows" c_R_keepFitting n_R_keepFitting 4) {k7 : zSt → Nat → Nat → Int32 → Int32 → Option (zSt)} (hk7 : ∀ {σ : zSt} {v0 : Nat} {v1 : Nat} {v2 : Int32} {v3 : Int32} {z : zSt}, k7 σ v0 v1 v2 v3 = some z → zRX X 0 0 none z → zPJ X 0 0 7 [(0, .ref v0), (1, .ref v1), (2, .int v2), (3, .int v3)] [] σ) {σ : zSt} {v0 : Nat} {v1 : Nat} {v2 : Int32} {v3 : Int32} {z : zSt} (h : f_R_keepFitting_7 k7 σ v0 v1 v2 v3 = some z) (hr : zRX X 0 0 none z) : zPJ X 0 0 7 [(0, .ref v0), (1, .ref v1), (2, .int v2), (3, .int v3)] [] σ := by
  unfold f_R_keepFitting_7 at h
  refine zj_iload_n o (zdd k_R_keepFitting 5 rfl) rfl 3 rfl ?_
  refine zj_aload_n o (zdd k_R_keepFitting 6 rfl) rfl 0 rfl ?_
  obtain ⟨x1, e_x1, h⟩ := zbd h
  refine zj_gI o (zdd k_R_keepFitting 7 rfl) fl_R_54 rfl e_x1 ?_
  refine zj_icmp_ge (tgt := 51) o (zdd k_R_keepFitting 8 rfl) (by decide) (fun hc => ?_) (fun hc => ?_)
  · rw [if_pos hc] at h
    cases h
    exact zr_v o hr (zdd k_R_keepFitting 29 rfl)
  · rw [if_neg hc] at h
    refine zj_aload_n o (zdd k_R_keepFitting 9 rfl) rfl 0 rfl ?_
    refine zj_iload_n o (zdd k_R_keepFitting 10 rfl) rfl 3 rfl ?_
    refine zj_aload_n o (zdd k_R_keepFitting 11 rfl) rfl 1 rfl ?_
    refine zj_iload_n o (zdd k_R_keepFitting 12 rfl) rfl 2 rfl ?_
    obtain ⟨x2, e_x2, h⟩ := zbd h
    refine zc_V o (zdd k_R_keepFitting 13 rfl) ml_R_91 mv_R_isFitting ⟨rfl, by decide⟩ (zg_some e_x2).1 (by decide) [.int v3, .ref v1, .int v2] [] rfl (Nat.le_of_ble_eq_true rfl) rfl (m_R_isFitting e_x2) ?_
    change zPJ X 0 0 _ _ [.int x2] _
    refine zj_if_eq (tgt := 45) o (zdd k_R_keepFitting 14 rfl) (by decide) (fun hc => ?_) (fun hc => ?_)
    · rw [if_pos hc] at h
      refine zj_iinc (v := v3 + 1) (loc' := [(3, .int (v3 + 1)), (0, .ref v0), (1, .ref v1), (2, .int v2)]) o (zdd k_R_keepFitting 27 rfl) 3 rfl (by rw [zki_1]) (by decide) rfl ?_
      refine zj_goto (tgt := 7) o (zdd k_R_keepFitting 28 rfl) (by decide) ?_
      exact zj_sub [1, 2, 3, 0] rfl (hk7 h hr)
    · rw [if_neg hc] at h
      refine zj_aload_n o (zdd k_R_keepFitting 15 rfl) rfl 0 rfl ?_
      obtain ⟨a3, e_a3, h⟩ := zbd h
      refine zj_gP o (zdd k_R_keepFitting 16 rfl) fl_R_18 rfl e_a3 ?_
      refine zj_aload_n o (zdd k_R_keepFitting 17 rfl) rfl 0 rfl ?_
      obtain ⟨x4, e_x4, h⟩ := zbd h
      refine zj_gI o (zdd k_R_keepFitting 18 rfl) fl_R_40 rfl e_x4 ?_
      refine zj_iload_n o (zdd k_R_keepFitting 19 rfl) rfl 3 rfl ?_
      obtain ⟨σ5, e_σ5, h⟩ := zbd h
      refine zj_iast o (zdd k_R_keepFitting 20 rfl) e_σ5 ?_
      refine zj_aload_n o (zdd k_R_keepFitting 21 rfl) rfl 0 rfl ?_
      refine zj_dup o (zdd k_R_keepFitting 22 rfl) rfl ?_
      obtain ⟨x6, e_x6, h⟩ := zbd h
      refine zj_gI o (zdd k_R_keepFitting 23 rfl) fl_R_40 rfl e_x6 ?_
      refine zj_iconst o (zdd k_R_keepFitting 24 rfl) zki_1 ?_
      refine zj_iadd o (zdd k_R_keepFitting 25 rfl) ?_
      obtain ⟨σ7, e_σ7, h⟩ := zbd h
      refine zj_pI o (zdd k_R_keepFitting 26 rfl) fl_R_40 rfl rfl e_σ7 ?_
      refine zj_iinc (v := v3 + 1) (loc' := [(3, .int (v3 + 1)), (0, .ref v0), (1, .ref v1), (2, .int v2)]) o (zdd k_R_keepFitting 27 rfl) 3 rfl (by rw [zki_1]) (by decide) rfl ?_
      refine zj_goto (tgt := 7) o (zdd k_R_keepFitting 28 rfl) (by decide) ?_
      exact zj_sub [1, 2, 3, 0] rfl (hk7 h hr)
def f_R_keepFitting_7L : Nat → zSt → Nat → Nat → Int32 → Int32 → Option (zSt)
  | 0 => fun _ _ _ _ _ => none
  | n + 1 => f_R_keepFitting_7  (f_R_keepFitting_7L  n)
theorem r_R_keepFitting_7L {X : zCX} (o : zOK X "WantShelves$Rows" c_R_keepFitting n_R_keepFitting 4) : ∀ (n : Nat) {σ : zSt} {v0 : Nat} {v1 : Nat} {v2 : Int32} {v3 : Int32} {z : zSt}, f_R_keepFitting_7L n σ v0 v1 v2 v3 = some z → zRX X 0 0 none z → zPJ X 0 0 7 [(0, .ref v0), (1, .ref v1), (2, .int v2), (3, .int v3)] [] σ
  | 0 => fun h _ => by cases h
  | n + 1 => fun h hr => r_R_keepFitting_7 o (r_R_keepFitting_7L o  n) h hr
def f_R_keepFitting (σ : zSt) (t : Nat) (p0 : Nat) (p1 : Int32) : Option (zSt) :=
zg σ 6 t (
(zsI σ 6 t 0 0).bind fun σ1 =>
f_R_keepFitting_7L zfu σ1 t p0 p1 0)
set_option maxRecDepth 100000 in
set_option maxHeartbeats 4000000 in
theorem m_R_keepFitting {l : Launch} {b : Nat} {ex : Nat → Value} {D : va_G} {ca : Nat → ClassId} {σ : zSt} {t : Nat} {p0 : Nat} {p1 : Int32} {z : zSt} (h : f_R_keepFitting σ t p0 p1 = some z) : zMT l b ex D ca 4 y_R_keepFitting c_R_keepFitting n_R_keepFitting r_ret_R_keepFitting [.ref t, .ref p0, .int p1] σ none z 0 0 := by
  obtain ⟨_, hg0⟩ := zg_some h
  have h := hg0
  refine zmt_of (by decide) (Nat.le_of_ble_eq_true rfl) rfl (fun X o hin hrm _ _ _ _ _ hr => ?_)
  have hr := hr 0 0 (by decide) (by decide)
  have o : zOK X "WantShelves$Rows" c_R_keepFitting n_R_keepFitting 4 := o
  change zPJ X 0 0 0 [(0, .ref t), (1, .ref p0), (2, .int p1)] [] σ
  refine zj_aload_n o (zdd k_R_keepFitting 0 rfl) rfl 0 rfl ?_
  refine zj_iconst o (zdd k_R_keepFitting 1 rfl) zki_0 ?_
  obtain ⟨σ1, e_σ1, h⟩ := zbd h
  refine zj_pI o (zdd k_R_keepFitting 2 rfl) fl_R_40 rfl rfl e_σ1 ?_
  refine zj_iconst o (zdd k_R_keepFitting 3 rfl) zki_0 ?_
  refine zj_istore_n (loc' := [(3, .int 0), (0, .ref t), (1, .ref p0), (2, .int p1)]) o (zdd k_R_keepFitting 4 rfl) rfl (by decide) rfl ?_
  exact zj_sub [1, 2, 3, 0] rfl (r_R_keepFitting_7L o  zfu h hr)
def f_R_leastFitting_5 (k5 : zSt → Nat → Int32 → Int32 → Int32 → Option (Int32)) (σ : zSt) (v0 : Nat) (v1 : Int32) (v2 : Int32) (v3 : Int32) : Option (Int32) :=
(zgI σ 6 v0 0).bind fun x1 =>
if x1 ≤ v3 then (
some v2) else
(zgP σ 6 v0 7).bind fun a2 =>
(zaI σ 1 a2 v3).bind fun x3 =>
(f_R_cell σ v0 x3 v1).bind fun x4 =>
if v3 = 0 then (
k5 σ v0 v1 x4 (v3 + 1)) else
k5 σ v0 v1 (zmin v2 x4) (v3 + 1)
set_option maxRecDepth 100000 in
set_option maxHeartbeats 4000000 in
theorem r_R_leastFitting_5 {X : zCX} (o : zOK X "WantShelves$Rows" c_R_leastFitting n_R_leastFitting 2) {k5 : zSt → Nat → Int32 → Int32 → Int32 → Option (Int32)} (hk5 : ∀ {σ : zSt} {v0 : Nat} {v1 : Int32} {v2 : Int32} {v3 : Int32} {z : Int32}, k5 σ v0 v1 v2 v3 = some z → zRX X 0 0 (some (.int z)) σ → zPJ X 0 0 5 [(0, .ref v0), (1, .int v1), (2, .int v2), (3, .int v3)] [] σ) {σ : zSt} {v0 : Nat} {v1 : Int32} {v2 : Int32} {v3 : Int32} {z : Int32} (h : f_R_leastFitting_5 k5 σ v0 v1 v2 v3 = some z) (hr : zRX X 0 0 (some (.int z)) σ) : zPJ X 0 0 5 [(0, .ref v0), (1, .int v1), (2, .int v2), (3, .int v3)] [] σ := by
  unfold f_R_leastFitting_5 at h
  refine zj_iload_n o (zdd k_R_leastFitting 4 rfl) rfl 3 rfl ?_
  refine zj_aload_n o (zdd k_R_leastFitting 5 rfl) rfl 0 rfl ?_
  obtain ⟨x1, e_x1, h⟩ := zbd h
  refine zj_gI o (zdd k_R_leastFitting 6 rfl) fl_R_40 rfl e_x1 ?_
  refine zj_icmp_ge (tgt := 48) o (zdd k_R_leastFitting 7 rfl) (by decide) (fun hc => ?_) (fun hc => ?_)
  · rw [if_pos hc] at h
    refine zj_iload_n o (zdd k_R_leastFitting 26 rfl) rfl 2 rfl ?_
    cases h
    exact zr_i o hr (zdd k_R_leastFitting 27 rfl)
  · rw [if_neg hc] at h
    refine zj_aload_n o (zdd k_R_leastFitting 8 rfl) rfl 0 rfl ?_
    refine zj_aload_n o (zdd k_R_leastFitting 9 rfl) rfl 0 rfl ?_
    obtain ⟨a2, e_a2, h⟩ := zbd h
    refine zj_gP o (zdd k_R_leastFitting 10 rfl) fl_R_18 rfl e_a2 ?_
    refine zj_iload_n o (zdd k_R_leastFitting 11 rfl) rfl 3 rfl ?_
    obtain ⟨x3, e_x3, h⟩ := zbd h
    refine zj_iald o (zdd k_R_leastFitting 12 rfl) e_x3 ?_
    refine zj_iload_n o (zdd k_R_leastFitting 13 rfl) rfl 1 rfl ?_
    obtain ⟨x4, e_x4, h⟩ := zbd h
    refine zc_V o (zdd k_R_leastFitting 14 rfl) ml_R_57 mv_R_cell ⟨rfl, by decide⟩ (zg_some e_x4).1 (by decide) [.int x3, .int v1] [] rfl (Nat.le_of_ble_eq_true rfl) rfl (m_R_cell e_x4) ?_
    change zPJ X 0 0 _ _ [.int x4] _
    refine zj_istore (loc' := [(4, .int x4), (0, .ref v0), (1, .int v1), (2, .int v2), (3, .int v3)]) o (zdd k_R_leastFitting 15 rfl) (by decide) rfl ?_
    refine zj_iload_n o (zdd k_R_leastFitting 16 rfl) rfl 4 rfl ?_
    refine zj_if_ne (tgt := 35) o (zdd k_R_leastFitting 17 rfl) (by decide) (fun hc => ?_) (fun hc => ?_)
    · rw [if_neg hc] at h
      refine zj_iload_n o (zdd k_R_leastFitting 20 rfl) rfl 3 rfl ?_
      refine zj_iload o (zdd k_R_leastFitting 21 rfl) 0 rfl ?_
      refine zj_mmin o (zdd k_R_leastFitting 22 rfl) ml_R_96 (by decide) (Nat.le_of_ble_eq_true rfl) ?_
      refine zj_istore_n (loc' := [(2, .int (zmin v2 x4)), (4, .int x4), (0, .ref v0), (1, .int v1), (3, .int v3)]) o (zdd k_R_leastFitting 23 rfl) rfl (by decide) rfl ?_
      refine zj_iinc (v := v3 + 1) (loc' := [(3, .int (v3 + 1)), (2, .int (zmin v2 x4)), (4, .int x4), (0, .ref v0), (1, .int v1)]) o (zdd k_R_leastFitting 24 rfl) 4 rfl (by rw [zki_1]) (by decide) rfl ?_
      refine zj_goto (tgt := 5) o (zdd k_R_leastFitting 25 rfl) (by decide) ?_
      exact zj_sub [3, 4, 1, 0] rfl (hk5 h hr)
    · rw [if_pos hc] at h
      refine zj_iload o (zdd k_R_leastFitting 18 rfl) 0 rfl ?_
      refine zj_goto (tgt := 41) o (zdd k_R_leastFitting 19 rfl) (by decide) ?_
      refine zj_istore_n (loc' := [(2, .int x4), (4, .int x4), (0, .ref v0), (1, .int v1), (3, .int v3)]) o (zdd k_R_leastFitting 23 rfl) rfl (by decide) rfl ?_
      refine zj_iinc (v := v3 + 1) (loc' := [(3, .int (v3 + 1)), (2, .int x4), (4, .int x4), (0, .ref v0), (1, .int v1)]) o (zdd k_R_leastFitting 24 rfl) 4 rfl (by rw [zki_1]) (by decide) rfl ?_
      refine zj_goto (tgt := 5) o (zdd k_R_leastFitting 25 rfl) (by decide) ?_
      exact zj_sub [3, 4, 1, 0] rfl (hk5 h hr)
def f_R_leastFitting_5L : Nat → zSt → Nat → Int32 → Int32 → Int32 → Option (Int32)
  | 0 => fun _ _ _ _ _ => none
  | n + 1 => f_R_leastFitting_5  (f_R_leastFitting_5L  n)
theorem r_R_leastFitting_5L {X : zCX} (o : zOK X "WantShelves$Rows" c_R_leastFitting n_R_leastFitting 2) : ∀ (n : Nat) {σ : zSt} {v0 : Nat} {v1 : Int32} {v2 : Int32} {v3 : Int32} {z : Int32}, f_R_leastFitting_5L n σ v0 v1 v2 v3 = some z → zRX X 0 0 (some (.int z)) σ → zPJ X 0 0 5 [(0, .ref v0), (1, .int v1), (2, .int v2), (3, .int v3)] [] σ
  | 0 => fun h _ => by cases h
  | n + 1 => fun h hr => r_R_leastFitting_5 o (r_R_leastFitting_5L o  n) h hr
def f_R_leastFitting (σ : zSt) (t : Nat) (p0 : Int32) : Option (Int32) :=
zg σ 6 t (
f_R_leastFitting_5L zfu σ t p0 (-1000000) 0)
set_option maxRecDepth 100000 in
set_option maxHeartbeats 4000000 in
theorem m_R_leastFitting {l : Launch} {b : Nat} {ex : Nat → Value} {D : va_G} {ca : Nat → ClassId} {σ : zSt} {t : Nat} {p0 : Int32} {z : Int32} (h : f_R_leastFitting σ t p0 = some z) : zMT l b ex D ca 2 y_R_leastFitting c_R_leastFitting n_R_leastFitting r_ret_R_leastFitting [.ref t, .int p0] σ (some (.int z)) σ 0 0 := by
  obtain ⟨_, hg0⟩ := zg_some h
  have h := hg0
  refine zmt_of (by decide) (Nat.le_of_ble_eq_true rfl) ⟨.int, rfl, rfl⟩ (fun X o hin hrm _ _ _ _ _ hr => ?_)
  have hr := hr 0 0 (by decide) (by decide)
  have o : zOK X "WantShelves$Rows" c_R_leastFitting n_R_leastFitting 2 := o
  change zPJ X 0 0 0 [(0, .ref t), (1, .int p0)] [] σ
  refine zj_ldc o (zdd k_R_leastFitting 0 rfl) co_R_95 ?_
  refine zj_istore_n (loc' := [(2, .int (-1000000)), (0, .ref t), (1, .int p0)]) o (zdd k_R_leastFitting 1 rfl) rfl (by decide) rfl ?_
  refine zj_iconst o (zdd k_R_leastFitting 2 rfl) zki_0 ?_
  refine zj_istore_n (loc' := [(3, .int 0), (2, .int (-1000000)), (0, .ref t), (1, .int p0)]) o (zdd k_R_leastFitting 3 rfl) rfl (by decide) rfl ?_
  exact zj_sub [2, 3, 1, 0] rfl (r_R_leastFitting_5L o  zfu h hr)
def f_R_mostFitting_5 (k5 : zSt → Nat → Int32 → Int32 → Int32 → Option (Int32)) (σ : zSt) (v0 : Nat) (v1 : Int32) (v2 : Int32) (v3 : Int32) : Option (Int32) :=
(zgI σ 6 v0 0).bind fun x1 =>
if x1 ≤ v3 then (
some v2) else
(zgP σ 6 v0 7).bind fun a2 =>
(zaI σ 1 a2 v3).bind fun x3 =>
(f_R_cell σ v0 x3 v1).bind fun x4 =>
k5 σ v0 v1 (zmax v2 x4) (v3 + 1)
set_option maxRecDepth 100000 in
set_option maxHeartbeats 4000000 in
theorem r_R_mostFitting_5 {X : zCX} (o : zOK X "WantShelves$Rows" c_R_mostFitting n_R_mostFitting 2) {k5 : zSt → Nat → Int32 → Int32 → Int32 → Option (Int32)} (hk5 : ∀ {σ : zSt} {v0 : Nat} {v1 : Int32} {v2 : Int32} {v3 : Int32} {z : Int32}, k5 σ v0 v1 v2 v3 = some z → zRX X 0 0 (some (.int z)) σ → zPJ X 0 0 5 [(0, .ref v0), (1, .int v1), (2, .int v2), (3, .int v3)] [] σ) {σ : zSt} {v0 : Nat} {v1 : Int32} {v2 : Int32} {v3 : Int32} {z : Int32} (h : f_R_mostFitting_5 k5 σ v0 v1 v2 v3 = some z) (hr : zRX X 0 0 (some (.int z)) σ) : zPJ X 0 0 5 [(0, .ref v0), (1, .int v1), (2, .int v2), (3, .int v3)] [] σ := by
  unfold f_R_mostFitting_5 at h
  refine zj_iload_n o (zdd k_R_mostFitting 4 rfl) rfl 3 rfl ?_
  refine zj_aload_n o (zdd k_R_mostFitting 5 rfl) rfl 0 rfl ?_
  obtain ⟨x1, e_x1, h⟩ := zbd h
  refine zj_gI o (zdd k_R_mostFitting 6 rfl) fl_R_40 rfl e_x1 ?_
  refine zj_icmp_ge (tgt := 35) o (zdd k_R_mostFitting 7 rfl) (by decide) (fun hc => ?_) (fun hc => ?_)
  · rw [if_pos hc] at h
    refine zj_iload_n o (zdd k_R_mostFitting 20 rfl) rfl 2 rfl ?_
    cases h
    exact zr_i o hr (zdd k_R_mostFitting 21 rfl)
  · rw [if_neg hc] at h
    refine zj_iload_n o (zdd k_R_mostFitting 8 rfl) rfl 2 rfl ?_
    refine zj_aload_n o (zdd k_R_mostFitting 9 rfl) rfl 0 rfl ?_
    refine zj_aload_n o (zdd k_R_mostFitting 10 rfl) rfl 0 rfl ?_
    obtain ⟨a2, e_a2, h⟩ := zbd h
    refine zj_gP o (zdd k_R_mostFitting 11 rfl) fl_R_18 rfl e_a2 ?_
    refine zj_iload_n o (zdd k_R_mostFitting 12 rfl) rfl 3 rfl ?_
    obtain ⟨x3, e_x3, h⟩ := zbd h
    refine zj_iald o (zdd k_R_mostFitting 13 rfl) e_x3 ?_
    refine zj_iload_n o (zdd k_R_mostFitting 14 rfl) rfl 1 rfl ?_
    obtain ⟨x4, e_x4, h⟩ := zbd h
    refine zc_V o (zdd k_R_mostFitting 15 rfl) ml_R_57 mv_R_cell ⟨rfl, by decide⟩ (zg_some e_x4).1 (by decide) [.int x3, .int v1] [.int v2] rfl (Nat.le_of_ble_eq_true rfl) rfl (m_R_cell e_x4) ?_
    change zPJ X 0 0 _ _ [.int x4, .int v2] _
    refine zj_mmax o (zdd k_R_mostFitting 16 rfl) ml_R_101 (by decide) (Nat.le_of_ble_eq_true rfl) ?_
    refine zj_istore_n (loc' := [(2, .int (zmax v2 x4)), (0, .ref v0), (1, .int v1), (3, .int v3)]) o (zdd k_R_mostFitting 17 rfl) rfl (by decide) rfl ?_
    refine zj_iinc (v := v3 + 1) (loc' := [(3, .int (v3 + 1)), (2, .int (zmax v2 x4)), (0, .ref v0), (1, .int v1)]) o (zdd k_R_mostFitting 18 rfl) 3 rfl (by rw [zki_1]) (by decide) rfl ?_
    refine zj_goto (tgt := 5) o (zdd k_R_mostFitting 19 rfl) (by decide) ?_
    exact zj_sub [2, 3, 1, 0] rfl (hk5 h hr)
def f_R_mostFitting_5L : Nat → zSt → Nat → Int32 → Int32 → Int32 → Option (Int32)
  | 0 => fun _ _ _ _ _ => none
  | n + 1 => f_R_mostFitting_5  (f_R_mostFitting_5L  n)
theorem r_R_mostFitting_5L {X : zCX} (o : zOK X "WantShelves$Rows" c_R_mostFitting n_R_mostFitting 2) : ∀ (n : Nat) {σ : zSt} {v0 : Nat} {v1 : Int32} {v2 : Int32} {v3 : Int32} {z : Int32}, f_R_mostFitting_5L n σ v0 v1 v2 v3 = some z → zRX X 0 0 (some (.int z)) σ → zPJ X 0 0 5 [(0, .ref v0), (1, .int v1), (2, .int v2), (3, .int v3)] [] σ
  | 0 => fun h _ => by cases h
  | n + 1 => fun h hr => r_R_mostFitting_5 o (r_R_mostFitting_5L o  n) h hr
def f_R_mostFitting (σ : zSt) (t : Nat) (p0 : Int32) : Option (Int32) :=
zg σ 6 t (
f_R_mostFitting_5L zfu σ t p0 (-1000000) 0)
set_option maxRecDepth 100000 in
set_option maxHeartbeats 4000000 in
theorem m_R_mostFitting {l : Launch} {b : Nat} {ex : Nat → Value} {D : va_G} {ca : Nat → ClassId} {σ : zSt} {t : Nat} {p0 : Int32} {z : Int32} (h : f_R_mostFitting σ t p0 = some z) : zMT l b ex D ca 2 y_R_mostFitting c_R_mostFitting n_R_mostFitting r_ret_R_mostFitting [.ref t, .int p0] σ (some (.int z)) σ 0 0 := by
  obtain ⟨_, hg0⟩ := zg_some h
  have h := hg0
  refine zmt_of (by decide) (Nat.le_of_ble_eq_true rfl) ⟨.int, rfl, rfl⟩ (fun X o hin hrm _ _ _ _ _ hr => ?_)
  have hr := hr 0 0 (by decide) (by decide)
  have o : zOK X "WantShelves$Rows" c_R_mostFitting n_R_mostFitting 2 := o
  change zPJ X 0 0 0 [(0, .ref t), (1, .int p0)] [] σ
  refine zj_ldc o (zdd k_R_mostFitting 0 rfl) co_R_95 ?_
  refine zj_istore_n (loc' := [(2, .int (-1000000)), (0, .ref t), (1, .int p0)]) o (zdd k_R_mostFitting 1 rfl) rfl (by decide) rfl ?_
  refine zj_iconst o (zdd k_R_mostFitting 2 rfl) zki_0 ?_
  refine zj_istore_n (loc' := [(3, .int 0), (2, .int (-1000000)), (0, .ref t), (1, .int p0)]) o (zdd k_R_mostFitting 3 rfl) rfl (by decide) rfl ?_
  exact zj_sub [2, 3, 1, 0] rfl (r_R_mostFitting_5L o  zfu h hr)
def f_R_leftAtMost_39 (σ : zSt) (v0 : Nat) (v3 : Int32) : Option (Int32) :=
(zgI σ 6 v0 0).bind fun x1 =>
some (zmax v3 (x1 - v3))
set_option maxRecDepth 100000 in
set_option maxHeartbeats 4000000 in
theorem r_R_leftAtMost_39 {X : zCX} (o : zOK X "WantShelves$Rows" c_R_leftAtMost n_R_leftAtMost 3) {σ : zSt} {v0 : Nat} {v3 : Int32} {z : Int32} (h : f_R_leftAtMost_39 σ v0 v3 = some z) (hr : zRX X 0 0 (some (.int z)) σ) : zPJ X 0 0 39 [(0, .ref v0), (3, .int v3)] [] σ := by
  unfold f_R_leftAtMost_39 at h
  refine zj_iload_n o (zdd k_R_leftAtMost 20 rfl) rfl 1 rfl ?_
  refine zj_aload_n o (zdd k_R_leftAtMost 21 rfl) rfl 0 rfl ?_
  obtain ⟨x1, e_x1, h⟩ := zbd h
  refine zj_gI o (zdd k_R_leftAtMost 22 rfl) fl_R_40 rfl e_x1 ?_
  refine zj_iload_n o (zdd k_R_leftAtMost 23 rfl) rfl 1 rfl ?_
  refine zj_isub o (zdd k_R_leftAtMost 24 rfl) ?_
  refine zj_mmax o (zdd k_R_leftAtMost 25 rfl) ml_R_101 (by decide) (Nat.le_of_ble_eq_true rfl) ?_
  cases h
  exact zr_i o hr (zdd k_R_leftAtMost 26 rfl)
def f_R_leftAtMost_5 (k5 : zSt → Nat → Int32 → Int32 → Int32 → Int32 → Option (Int32)) (σ : zSt) (v0 : Nat) (v1 : Int32) (v2 : Int32) (v3 : Int32) (v4 : Int32) : Option (Int32) :=
(zgI σ 6 v0 0).bind fun x1 =>
if x1 ≤ v4 then (
f_R_leftAtMost_39 σ v0 v3) else
(zgP σ 6 v0 7).bind fun a2 =>
(zaI σ 1 a2 v4).bind fun x3 =>
(f_R_hasAhead σ v0 x3 v1 v2).bind fun x4 =>
if x4 = 0 then (
k5 σ v0 v1 v2 v3 (v4 + 1)) else
k5 σ v0 v1 v2 (v3 + 1) (v4 + 1)
set_option maxRecDepth 100000 in
set_option maxHeartbeats 4000000 in
theorem r_R_leftAtMost_5 {X : zCX} (o : zOK X "WantShelves$Rows" c_R_leftAtMost n_R_leftAtMost 3) {k5 : zSt → Nat → Int32 → Int32 → Int32 → Int32 → Option (Int32)} (hk5 : ∀ {σ : zSt} {v0 : Nat} {v1 : Int32} {v2 : Int32} {v3 : Int32} {v4 : Int32} {z : Int32}, k5 σ v0 v1 v2 v3 v4 = some z → zRX X 0 0 (some (.int z)) σ → zPJ X 0 0 5 [(0, .ref v0), (1, .int v1), (2, .int v2), (3, .int v3), (4, .int v4)] [] σ) {σ : zSt} {v0 : Nat} {v1 : Int32} {v2 : Int32} {v3 : Int32} {v4 : Int32} {z : Int32} (h : f_R_leftAtMost_5 k5 σ v0 v1 v2 v3 v4 = some z) (hr : zRX X 0 0 (some (.int z)) σ) : zPJ X 0 0 5 [(0, .ref v0), (1, .int v1), (2, .int v2), (3, .int v3), (4, .int v4)] [] σ := by
  unfold f_R_leftAtMost_5 at h
  refine zj_iload o (zdd k_R_leftAtMost 4 rfl) 4 rfl ?_
  refine zj_aload_n o (zdd k_R_leftAtMost 5 rfl) rfl 0 rfl ?_
  obtain ⟨x1, e_x1, h⟩ := zbd h
  refine zj_gI o (zdd k_R_leftAtMost 6 rfl) fl_R_40 rfl e_x1 ?_
  refine zj_icmp_ge (tgt := 39) o (zdd k_R_leftAtMost 7 rfl) (by decide) (fun hc => ?_) (fun hc => ?_)
  · rw [if_pos hc] at h
    exact zj_sub [0, 3] rfl (r_R_leftAtMost_39 o  h hr)
  · rw [if_neg hc] at h
    refine zj_aload_n o (zdd k_R_leftAtMost 8 rfl) rfl 0 rfl ?_
    refine zj_aload_n o (zdd k_R_leftAtMost 9 rfl) rfl 0 rfl ?_
    obtain ⟨a2, e_a2, h⟩ := zbd h
    refine zj_gP o (zdd k_R_leftAtMost 10 rfl) fl_R_18 rfl e_a2 ?_
    refine zj_iload o (zdd k_R_leftAtMost 11 rfl) 4 rfl ?_
    obtain ⟨x3, e_x3, h⟩ := zbd h
    refine zj_iald o (zdd k_R_leftAtMost 12 rfl) e_x3 ?_
    refine zj_iload_n o (zdd k_R_leftAtMost 13 rfl) rfl 1 rfl ?_
    refine zj_iload_n o (zdd k_R_leftAtMost 14 rfl) rfl 2 rfl ?_
    obtain ⟨x4, e_x4, h⟩ := zbd h
    refine zc_V o (zdd k_R_leftAtMost 15 rfl) ml_R_104 mv_R_hasAhead ⟨rfl, by decide⟩ (zg_some e_x4).1 (by decide) [.int x3, .int v1, .int v2] [] rfl (Nat.le_of_ble_eq_true rfl) rfl (m_R_hasAhead e_x4) ?_
    change zPJ X 0 0 _ _ [.int x4] _
    refine zj_if_eq (tgt := 33) o (zdd k_R_leftAtMost 16 rfl) (by decide) (fun hc => ?_) (fun hc => ?_)
    · rw [if_pos hc] at h
      refine zj_iinc (v := v4 + 1) (loc' := [(4, .int (v4 + 1)), (0, .ref v0), (1, .int v1), (2, .int v2), (3, .int v3)]) o (zdd k_R_leftAtMost 18 rfl) 4 rfl (by rw [zki_1]) (by decide) rfl ?_
      refine zj_goto (tgt := 5) o (zdd k_R_leftAtMost 19 rfl) (by decide) ?_
      exact zj_sub [1, 2, 3, 4, 0] rfl (hk5 h hr)
    · rw [if_neg hc] at h
      refine zj_iinc (v := v3 + 1) (loc' := [(3, .int (v3 + 1)), (0, .ref v0), (1, .int v1), (2, .int v2), (4, .int v4)]) o (zdd k_R_leftAtMost 17 rfl) 3 rfl (by rw [zki_1]) (by decide) rfl ?_
      refine zj_iinc (v := v4 + 1) (loc' := [(4, .int (v4 + 1)), (3, .int (v3 + 1)), (0, .ref v0), (1, .int v1), (2, .int v2)]) o (zdd k_R_leftAtMost 18 rfl) 4 rfl (by rw [zki_1]) (by decide) rfl ?_
      refine zj_goto (tgt := 5) o (zdd k_R_leftAtMost 19 rfl) (by decide) ?_
      exact zj_sub [2, 3, 4, 1, 0] rfl (hk5 h hr)
def f_R_leftAtMost_5L : Nat → zSt → Nat → Int32 → Int32 → Int32 → Int32 → Option (Int32)
  | 0 => fun _ _ _ _ _ _ => none
  | n + 1 => f_R_leftAtMost_5  (f_R_leftAtMost_5L  n)
theorem r_R_leftAtMost_5L {X : zCX} (o : zOK X "WantShelves$Rows" c_R_leftAtMost n_R_leftAtMost 3) : ∀ (n : Nat) {σ : zSt} {v0 : Nat} {v1 : Int32} {v2 : Int32} {v3 : Int32} {v4 : Int32} {z : Int32}, f_R_leftAtMost_5L n σ v0 v1 v2 v3 v4 = some z → zRX X 0 0 (some (.int z)) σ → zPJ X 0 0 5 [(0, .ref v0), (1, .int v1), (2, .int v2), (3, .int v3), (4, .int v4)] [] σ
  | 0 => fun h _ => by cases h
  | n + 1 => fun h hr => r_R_leftAtMost_5 o (r_R_leftAtMost_5L o  n) h hr
def f_R_leftAtMost (σ : zSt) (t : Nat) (p0 : Int32) (p1 : Int32) : Option (Int32) :=
zg σ 6 t (
f_R_leftAtMost_5L zfu σ t p0 p1 0 0)
set_option maxRecDepth 100000 in
set_option maxHeartbeats 4000000 in
theorem m_R_leftAtMost {l : Launch} {b : Nat} {ex : Nat → Value} {D : va_G} {ca : Nat → ClassId} {σ : zSt} {t : Nat} {p0 : Int32} {p1 : Int32} {z : Int32} (h : f_R_leftAtMost σ t p0 p1 = some z) : zMT l b ex D ca 3 y_R_leftAtMost c_R_leftAtMost n_R_leftAtMost r_ret_R_leftAtMost [.ref t, .int p0, .int p1] σ (some (.int z)) σ 0 0 := by
  obtain ⟨_, hg0⟩ := zg_some h
  have h := hg0
  refine zmt_of (by decide) (Nat.le_of_ble_eq_true rfl) ⟨.int, rfl, rfl⟩ (fun X o hin hrm _ _ _ _ _ hr => ?_)
  have hr := hr 0 0 (by decide) (by decide)
  have o : zOK X "WantShelves$Rows" c_R_leftAtMost n_R_leftAtMost 3 := o
  change zPJ X 0 0 0 [(0, .ref t), (1, .int p0), (2, .int p1)] [] σ
  refine zj_iconst o (zdd k_R_leftAtMost 0 rfl) zki_0 ?_
  refine zj_istore_n (loc' := [(3, .int 0), (0, .ref t), (1, .int p0), (2, .int p1)]) o (zdd k_R_leftAtMost 1 rfl) rfl (by decide) rfl ?_
  refine zj_iconst o (zdd k_R_leftAtMost 2 rfl) zki_0 ?_
  refine zj_istore (loc' := [(4, .int 0), (3, .int 0), (0, .ref t), (1, .int p0), (2, .int p1)]) o (zdd k_R_leftAtMost 3 rfl) (by decide) rfl ?_
  exact zj_sub [2, 3, 4, 1, 0] rfl (r_R_leftAtMost_5L o  zfu h hr)
