def f_M_putBook (σ : zSt) (t : Nat) (p0 : Int32) : Option (zSt) :=
zg σ 12 t (
(zgP σ 12 t 53).bind fun a1 =>
(zgI σ 12 t 54).bind fun x2 =>
(zwI σ 1 a1 p0 x2).bind fun σ3 =>
(zgP σ3 12 t 52).bind fun a4 =>
(zgI σ3 12 t 54).bind fun x5 =>
(zwI σ3 1 a4 x5 p0).bind fun σ6 =>
(zgI σ6 12 t 54).bind fun x7 =>
(zsI σ6 12 t 54 (x7 + 1)).bind fun σ8 =>
some σ8)
set_option maxRecDepth 100000 in
set_option maxHeartbeats 4000000 in
theorem m_M_putBook {l : Launch} {b : Nat} {ex : Nat → Value} {D : va_G} {ca : Nat → ClassId} {σ : zSt} {t : Nat} {p0 : Int32} {z : zSt} (h : f_M_putBook σ t p0 = some z) : zMT l b ex D ca 1 y_M_putBook c_M_putBook n_M_putBook r_ret_M_putBook [.ref t, .int p0] σ none z 0 0 := by
  obtain ⟨_, hg0⟩ := zg_some h
  have h := hg0
  refine zmt_of (by decide) (Nat.le_of_ble_eq_true rfl) rfl (fun X o hin hrm _ _ _ _ _ hr => ?_)
  have hr := hr 0 0 (by decide) (by decide)
  have o : zOK X "WantShelvesModel" c_M_putBook n_M_putBook 1 := o
  change zPJ X 0 0 0 [(0, .ref t), (1, .int p0)] [] σ
  refine zj_aload_n o (zdd k_M_putBook 0 rfl) rfl 0 rfl ?_
  obtain ⟨a1, e_a1, h⟩ := zbd h
  refine zj_gP o (zdd k_M_putBook 1 rfl) fl_M_90 rfl e_a1 ?_
  refine zj_iload_n o (zdd k_M_putBook 2 rfl) rfl 1 rfl ?_
  refine zj_aload_n o (zdd k_M_putBook 3 rfl) rfl 0 rfl ?_
  obtain ⟨x2, e_x2, h⟩ := zbd h
  refine zj_gI o (zdd k_M_putBook 4 rfl) fl_M_460 rfl e_x2 ?_
  obtain ⟨σ3, e_σ3, h⟩ := zbd h
  refine zj_iast o (zdd k_M_putBook 5 rfl) e_σ3 ?_
  refine zj_aload_n o (zdd k_M_putBook 6 rfl) rfl 0 rfl ?_
  obtain ⟨a4, e_a4, h⟩ := zbd h
  refine zj_gP o (zdd k_M_putBook 7 rfl) fl_M_87 rfl e_a4 ?_
  refine zj_aload_n o (zdd k_M_putBook 8 rfl) rfl 0 rfl ?_
  obtain ⟨x5, e_x5, h⟩ := zbd h
  refine zj_gI o (zdd k_M_putBook 9 rfl) fl_M_460 rfl e_x5 ?_
  refine zj_iload_n o (zdd k_M_putBook 10 rfl) rfl 1 rfl ?_
  obtain ⟨σ6, e_σ6, h⟩ := zbd h
  refine zj_iast o (zdd k_M_putBook 11 rfl) e_σ6 ?_
  refine zj_aload_n o (zdd k_M_putBook 12 rfl) rfl 0 rfl ?_
  refine zj_dup o (zdd k_M_putBook 13 rfl) rfl ?_
  obtain ⟨x7, e_x7, h⟩ := zbd h
  refine zj_gI o (zdd k_M_putBook 14 rfl) fl_M_460 rfl e_x7 ?_
  refine zj_iconst o (zdd k_M_putBook 15 rfl) zki_1 ?_
  refine zj_iadd o (zdd k_M_putBook 16 rfl) ?_
  obtain ⟨σ8, e_σ8, h⟩ := zbd h
  refine zj_pI o (zdd k_M_putBook 17 rfl) fl_M_460 rfl rfl e_σ8 ?_
  cases h
  exact zr_v o hr (zdd k_M_putBook 18 rfl)
def f_M_isLeft (σ : zSt) (t : Nat) (p0 : Int32) : Option (Int32) :=
zg σ 12 t (
((f_M_isOut σ t p0).bind fun x1 =>
if x1 = 0 then (
(zgP σ 12 t 53).bind fun a2 =>
(zaI σ 1 a2 p0).bind fun x3 =>
if 0 ≤ x3 then (
some 0) else
some 1) else
some 0).bind zbool)
set_option maxRecDepth 100000 in
set_option maxHeartbeats 4000000 in
theorem m_M_isLeft {l : Launch} {b : Nat} {ex : Nat → Value} {D : va_G} {ca : Nat → ClassId} {σ : zSt} {t : Nat} {p0 : Int32} {z : Int32} (h : f_M_isLeft σ t p0 = some z) : zMT l b ex D ca 2 y_M_isLeft c_M_isLeft n_M_isLeft r_ret_M_isLeft [.ref t, .int p0] σ (some (.int z)) σ 0 0 := by
  obtain ⟨_, hg0⟩ := zg_some h
  obtain ⟨z0, hbd, hz⟩ := zbd hg0
  obtain ⟨hzb, rfl⟩ := zbool_some hz
  have h := hbd
  refine zmt_of (by decide) (Nat.le_of_ble_eq_true rfl) ⟨.boolean, rfl, zb_nar hzb⟩ (fun X o hin hrm _ _ _ _ _ hr => ?_)
  have hr := hr 0 0 (by decide) (by decide)
  have o : zOK X "WantShelvesModel" c_M_isLeft n_M_isLeft 2 := o
  change zPJ X 0 0 0 [(0, .ref t), (1, .int p0)] [] σ
  refine zj_aload_n o (zdd k_M_isLeft 0 rfl) rfl 0 rfl ?_
  refine zj_iload_n o (zdd k_M_isLeft 1 rfl) rfl 1 rfl ?_
  obtain ⟨x1, e_x1, h⟩ := zbd h
  refine zc_V o (zdd k_M_isLeft 2 rfl) ml_M_463 mv_M_isOut ⟨rfl, by decide⟩ (zg_some e_x1).1 (by decide) [.int p0] [] rfl (Nat.le_of_ble_eq_true rfl) rfl (m_M_isOut e_x1) ?_
  change zPJ X 0 0 _ _ [.int x1] _
  refine zj_if_ne (tgt := 21) o (zdd k_M_isLeft 3 rfl) (by decide) (fun hc => ?_) (fun hc => ?_)
  · rw [if_neg hc] at h
    refine zj_iconst o (zdd k_M_isLeft 11 rfl) zki_0 ?_
    cases h
    exact zr_i o hr (zdd k_M_isLeft 12 rfl)
  · rw [if_pos hc] at h
    refine zj_aload_n o (zdd k_M_isLeft 4 rfl) rfl 0 rfl ?_
    obtain ⟨a2, e_a2, h⟩ := zbd h
    refine zj_gP o (zdd k_M_isLeft 5 rfl) fl_M_90 rfl e_a2 ?_
    refine zj_iload_n o (zdd k_M_isLeft 6 rfl) rfl 1 rfl ?_
    obtain ⟨x3, e_x3, h⟩ := zbd h
    refine zj_iald o (zdd k_M_isLeft 7 rfl) e_x3 ?_
    refine zj_if_ge (tgt := 21) o (zdd k_M_isLeft 8 rfl) (by decide) (fun hc => ?_) (fun hc => ?_)
    · rw [if_pos hc] at h
      refine zj_iconst o (zdd k_M_isLeft 11 rfl) zki_0 ?_
      cases h
      exact zr_i o hr (zdd k_M_isLeft 12 rfl)
    · rw [if_neg hc] at h
      refine zj_iconst o (zdd k_M_isLeft 9 rfl) zki_1 ?_
      refine zj_goto (tgt := 22) o (zdd k_M_isLeft 10 rfl) (by decide) ?_
      cases h
      exact zr_i o hr (zdd k_M_isLeft 12 rfl)
def f_M_firstOf_4 (k4 : zSt → Nat → Int32 → Int32 → Int32 → Option (Int32)) (σ : zSt) (v0 : Nat) (v1 : Int32) (v2 : Int32) (v3 : Int32) : Option (Int32) :=
(zgI σ 12 v0 42).bind fun x1 =>
if x1 ≤ v3 then (
some v2) else
(f_M_isLeft σ v0 v3).bind fun x2 =>
if x2 = 0 then (
k4 σ v0 v1 v2 (v3 + 1)) else
if v2 < 0 then (
k4 σ v0 v1 v3 (v3 + 1)) else
(f_M_isAhead σ v0 v1 v3 v2).bind fun x3 =>
if x3 = 0 then (
k4 σ v0 v1 v2 (v3 + 1)) else
k4 σ v0 v1 v3 (v3 + 1)
set_option maxRecDepth 100000 in
set_option maxHeartbeats 4000000 in
theorem r_M_firstOf_4 {X : zCX} (o : zOK X "WantShelvesModel" c_M_firstOf n_M_firstOf 3) {k4 : zSt → Nat → Int32 → Int32 → Int32 → Option (Int32)} (hk4 : ∀ {σ : zSt} {v0 : Nat} {v1 : Int32} {v2 : Int32} {v3 : Int32} {z : Int32}, k4 σ v0 v1 v2 v3 = some z → zRX X 0 0 (some (.int z)) σ → zPJ X 0 0 4 [(0, .ref v0), (1, .int v1), (2, .int v2), (3, .int v3)] [] σ) {σ : zSt} {v0 : Nat} {v1 : Int32} {v2 : Int32} {v3 : Int32} {z : Int32} (h : f_M_firstOf_4 k4 σ v0 v1 v2 v3 = some z) (hr : zRX X 0 0 (some (.int z)) σ) : zPJ X 0 0 4 [(0, .ref v0), (1, .int v1), (2, .int v2), (3, .int v3)] [] σ := by
  unfold f_M_firstOf_4 at h
  refine zj_iload_n o (zdd k_M_firstOf 4 rfl) rfl 3 rfl ?_
  refine zj_aload_n o (zdd k_M_firstOf 5 rfl) rfl 0 rfl ?_
  obtain ⟨x1, e_x1, h⟩ := zbd h
  refine zj_gI o (zdd k_M_firstOf 6 rfl) fl_M_391 rfl e_x1 ?_
  refine zj_icmp_ge (tgt := 42) o (zdd k_M_firstOf 7 rfl) (by decide) (fun hc => ?_) (fun hc => ?_)
  · rw [if_pos hc] at h
    refine zj_iload_n o (zdd k_M_firstOf 24 rfl) rfl 2 rfl ?_
    cases h
    exact zr_i o hr (zdd k_M_firstOf 25 rfl)
  · rw [if_neg hc] at h
    refine zj_aload_n o (zdd k_M_firstOf 8 rfl) rfl 0 rfl ?_
    refine zj_iload_n o (zdd k_M_firstOf 9 rfl) rfl 3 rfl ?_
    obtain ⟨x2, e_x2, h⟩ := zbd h
    refine zc_V o (zdd k_M_firstOf 10 rfl) ml_M_466 mv_M_isLeft ⟨rfl, by decide⟩ (zg_some e_x2).1 (by decide) [.int v3] [] rfl (Nat.le_of_ble_eq_true rfl) rfl (m_M_isLeft e_x2) ?_
    change zPJ X 0 0 _ _ [.int x2] _
    refine zj_if_eq (tgt := 36) o (zdd k_M_firstOf 11 rfl) (by decide) (fun hc => ?_) (fun hc => ?_)
    · rw [if_pos hc] at h
      refine zj_iinc (v := v3 + 1) (loc' := [(3, .int (v3 + 1)), (0, .ref v0), (1, .int v1), (2, .int v2)]) o (zdd k_M_firstOf 22 rfl) 3 rfl (by rw [zki_1]) (by decide) rfl ?_
      refine zj_goto (tgt := 4) o (zdd k_M_firstOf 23 rfl) (by decide) ?_
      exact zj_sub [1, 2, 3, 0] rfl (hk4 h hr)
    · rw [if_neg hc] at h
      refine zj_iload_n o (zdd k_M_firstOf 12 rfl) rfl 2 rfl ?_
      refine zj_if_lt (tgt := 34) o (zdd k_M_firstOf 13 rfl) (by decide) (fun hc => ?_) (fun hc => ?_)
      · rw [if_pos hc] at h
        refine zj_iload_n o (zdd k_M_firstOf 20 rfl) rfl 3 rfl ?_
        refine zj_istore_n (loc' := [(2, .int v3), (0, .ref v0), (1, .int v1), (3, .int v3)]) o (zdd k_M_firstOf 21 rfl) rfl (by decide) rfl ?_
        refine zj_iinc (v := v3 + 1) (loc' := [(3, .int (v3 + 1)), (2, .int v3), (0, .ref v0), (1, .int v1)]) o (zdd k_M_firstOf 22 rfl) 3 rfl (by rw [zki_1]) (by decide) rfl ?_
        refine zj_goto (tgt := 4) o (zdd k_M_firstOf 23 rfl) (by decide) ?_
        exact zj_sub [2, 3, 1, 0] rfl (hk4 h hr)
      · rw [if_neg hc] at h
        refine zj_aload_n o (zdd k_M_firstOf 14 rfl) rfl 0 rfl ?_
        refine zj_iload_n o (zdd k_M_firstOf 15 rfl) rfl 1 rfl ?_
        refine zj_iload_n o (zdd k_M_firstOf 16 rfl) rfl 3 rfl ?_
        refine zj_iload_n o (zdd k_M_firstOf 17 rfl) rfl 2 rfl ?_
        obtain ⟨x3, e_x3, h⟩ := zbd h
        refine zc_V o (zdd k_M_firstOf 18 rfl) ml_M_469 mv_M_isAhead ⟨rfl, by decide⟩ (zg_some e_x3).1 (by decide) [.int v1, .int v3, .int v2] [] rfl (Nat.le_of_ble_eq_true rfl) rfl (m_M_isAhead e_x3) ?_
        change zPJ X 0 0 _ _ [.int x3] _
        refine zj_if_eq (tgt := 36) o (zdd k_M_firstOf 19 rfl) (by decide) (fun hc => ?_) (fun hc => ?_)
        · rw [if_pos hc] at h
          refine zj_iinc (v := v3 + 1) (loc' := [(3, .int (v3 + 1)), (0, .ref v0), (1, .int v1), (2, .int v2)]) o (zdd k_M_firstOf 22 rfl) 3 rfl (by rw [zki_1]) (by decide) rfl ?_
          refine zj_goto (tgt := 4) o (zdd k_M_firstOf 23 rfl) (by decide) ?_
          exact zj_sub [1, 2, 3, 0] rfl (hk4 h hr)
        · rw [if_neg hc] at h
          refine zj_iload_n o (zdd k_M_firstOf 20 rfl) rfl 3 rfl ?_
          refine zj_istore_n (loc' := [(2, .int v3), (0, .ref v0), (1, .int v1), (3, .int v3)]) o (zdd k_M_firstOf 21 rfl) rfl (by decide) rfl ?_
          refine zj_iinc (v := v3 + 1) (loc' := [(3, .int (v3 + 1)), (2, .int v3), (0, .ref v0), (1, .int v1)]) o (zdd k_M_firstOf 22 rfl) 3 rfl (by rw [zki_1]) (by decide) rfl ?_
          refine zj_goto (tgt := 4) o (zdd k_M_firstOf 23 rfl) (by decide) ?_
          exact zj_sub [2, 3, 1, 0] rfl (hk4 h hr)
def f_M_firstOf_4L : Nat → zSt → Nat → Int32 → Int32 → Int32 → Option (Int32)
  | 0 => fun _ _ _ _ _ => none
  | n + 1 => f_M_firstOf_4  (f_M_firstOf_4L  n)
theorem r_M_firstOf_4L {X : zCX} (o : zOK X "WantShelvesModel" c_M_firstOf n_M_firstOf 3) : ∀ (n : Nat) {σ : zSt} {v0 : Nat} {v1 : Int32} {v2 : Int32} {v3 : Int32} {z : Int32}, f_M_firstOf_4L n σ v0 v1 v2 v3 = some z → zRX X 0 0 (some (.int z)) σ → zPJ X 0 0 4 [(0, .ref v0), (1, .int v1), (2, .int v2), (3, .int v3)] [] σ
  | 0 => fun h _ => by cases h
  | n + 1 => fun h hr => r_M_firstOf_4 o (r_M_firstOf_4L o  n) h hr
def f_M_firstOf (σ : zSt) (t : Nat) (p0 : Int32) : Option (Int32) :=
zg σ 12 t (
f_M_firstOf_4L zfu σ t p0 (-1) 0)
set_option maxRecDepth 100000 in
set_option maxHeartbeats 4000000 in
theorem m_M_firstOf {l : Launch} {b : Nat} {ex : Nat → Value} {D : va_G} {ca : Nat → ClassId} {σ : zSt} {t : Nat} {p0 : Int32} {z : Int32} (h : f_M_firstOf σ t p0 = some z) : zMT l b ex D ca 3 y_M_firstOf c_M_firstOf n_M_firstOf r_ret_M_firstOf [.ref t, .int p0] σ (some (.int z)) σ 0 0 := by
  obtain ⟨_, hg0⟩ := zg_some h
  have h := hg0
  refine zmt_of (by decide) (Nat.le_of_ble_eq_true rfl) ⟨.int, rfl, rfl⟩ (fun X o hin hrm _ _ _ _ _ hr => ?_)
  have hr := hr 0 0 (by decide) (by decide)
  have o : zOK X "WantShelvesModel" c_M_firstOf n_M_firstOf 3 := o
  change zPJ X 0 0 0 [(0, .ref t), (1, .int p0)] [] σ
  refine zj_iconst o (zdd k_M_firstOf 0 rfl) zki_m1 ?_
  refine zj_istore_n (loc' := [(2, .int (-1)), (0, .ref t), (1, .int p0)]) o (zdd k_M_firstOf 1 rfl) rfl (by decide) rfl ?_
  refine zj_iconst o (zdd k_M_firstOf 2 rfl) zki_0 ?_
  refine zj_istore_n (loc' := [(3, .int 0), (2, .int (-1)), (0, .ref t), (1, .int p0)]) o (zdd k_M_firstOf 3 rfl) rfl (by decide) rfl ?_
  exact zj_sub [2, 3, 1, 0] rfl (r_M_firstOf_4L o  zfu h hr)
def f_M_joint_8 (k8 : zSt → Nat → Int32 → Int32 → Int32 → Int32 → Int32 → Option (Int32)) (σ : zSt) (v0 : Nat) (v1 : Int32) (v2 : Int32) (v3 : Int32) (v4 : Int32) (v5 : Int32) : Option (Int32) :=
(zgI σ 12 v0 43).bind fun x1 =>
if x1 ≤ v5 then (
some v3) else
if (v1 >>> (v5 &&& 31)) &&& 1 = 0 then (
k8 σ v0 v1 v2 v3 v4 (v5 + 1)) else
(zgP σ 12 v0 51).bind fun a2 =>
(zaI σ 1 a2 ((10 * v5) + v2)).bind fun x3 =>
if v4 = 0 then (
k8 σ v0 v1 v2 x3 1 (v5 + 1)) else
(zgI σ 12 v0 44).bind fun x4 =>
if x4 = 0 then (
k8 σ v0 v1 v2 (v3 + x3) 1 (v5 + 1)) else
(zgI σ 12 v0 44).bind fun x5 =>
if x5 = 1 then (
if v3 ≤ x3 then (
k8 σ v0 v1 v2 v3 1 (v5 + 1)) else
k8 σ v0 v1 v2 x3 1 (v5 + 1)) else
if x3 ≤ v3 then (
k8 σ v0 v1 v2 v3 1 (v5 + 1)) else
k8 σ v0 v1 v2 x3 1 (v5 + 1)
set_option maxRecDepth 100000 in
set_option maxHeartbeats 4000000 in
theorem r_M_joint_8 {X : zCX} (o : zOK X "WantShelvesModel" c_M_joint n_M_joint 1) {k8 : zSt → Nat → Int32 → Int32 → Int32 → Int32 → Int32 → Option (Int32)} (hk8 : ∀ {σ : zSt} {v0 : Nat} {v1 : Int32} {v2 : Int32} {v3 : Int32} {v4 : Int32} {v5 : Int32} {z : Int32}, k8 σ v0 v1 v2 v3 v4 v5 = some z → zRX X 0 0 (some (.int z)) σ → zPJ X 0 0 8 [(0, .ref v0), (1, .int v1), (2, .int v2), (3, .int v3), (4, .int v4), (5, .int v5)] [] σ) {σ : zSt} {v0 : Nat} {v1 : Int32} {v2 : Int32} {v3 : Int32} {v4 : Int32} {v5 : Int32} {z : Int32} (h : f_M_joint_8 k8 σ v0 v1 v2 v3 v4 v5 = some z) (hr : zRX X 0 0 (some (.int z)) σ) : zPJ X 0 0 8 [(0, .ref v0), (1, .int v1), (2, .int v2), (3, .int v3), (4, .int v4), (5, .int v5)] [] σ := by
  unfold f_M_joint_8 at h
  refine zj_iload o (zdd k_M_joint 6 rfl) 5 rfl ?_
  refine zj_aload_n o (zdd k_M_joint 7 rfl) rfl 0 rfl ?_
  obtain ⟨x1, e_x1, h⟩ := zbd h
  refine zj_gI o (zdd k_M_joint 8 rfl) fl_M_394 rfl e_x1 ?_
  refine zj_icmp_ge (tgt := 112) o (zdd k_M_joint 9 rfl) (by decide) (fun hc => ?_) (fun hc => ?_)
  · rw [if_pos hc] at h
    refine zj_iload_n o (zdd k_M_joint 59 rfl) rfl 3 rfl ?_
    cases h
    exact zr_i o hr (zdd k_M_joint 60 rfl)
  · rw [if_neg hc] at h
    refine zj_iload_n o (zdd k_M_joint 10 rfl) rfl 1 rfl ?_
    refine zj_iload o (zdd k_M_joint 11 rfl) 5 rfl ?_
    refine zj_ishr o (zdd k_M_joint 12 rfl) ?_
    refine zj_iconst o (zdd k_M_joint 13 rfl) zki_1 ?_
    refine zj_iand o (zdd k_M_joint 14 rfl) ?_
    refine zj_if_ne (tgt := 29) o (zdd k_M_joint 15 rfl) (by decide) (fun hc => ?_) (fun hc => ?_)
    · rw [if_neg hc] at h
      refine zj_aload_n o (zdd k_M_joint 17 rfl) rfl 0 rfl ?_
      obtain ⟨a2, e_a2, h⟩ := zbd h
      refine zj_gP o (zdd k_M_joint 18 rfl) fl_M_84 rfl e_a2 ?_
      refine zj_bipush o (zdd k_M_joint 19 rfl) zkb_10 ?_
      refine zj_iload o (zdd k_M_joint 20 rfl) 5 rfl ?_
      refine zj_imul o (zdd k_M_joint 21 rfl) ?_
      refine zj_iload_n o (zdd k_M_joint 22 rfl) rfl 2 rfl ?_
      refine zj_iadd o (zdd k_M_joint 23 rfl) ?_
      obtain ⟨x3, e_x3, h⟩ := zbd h
      refine zj_iald o (zdd k_M_joint 24 rfl) e_x3 ?_
      refine zj_istore (loc' := [(6, .int x3), (0, .ref v0), (1, .int v1), (2, .int v2), (3, .int v3), (4, .int v4), (5, .int v5)]) o (zdd k_M_joint 25 rfl) (by decide) rfl ?_
      refine zj_iload o (zdd k_M_joint 26 rfl) 5 rfl ?_
      refine zj_if_ne (tgt := 53) o (zdd k_M_joint 27 rfl) (by decide) (fun hc => ?_) (fun hc => ?_)
      · rw [if_neg hc] at h
        refine zj_aload_n o (zdd k_M_joint 30 rfl) rfl 1 rfl ?_
        obtain ⟨x4, e_x4, h⟩ := zbd h
        refine zj_gI o (zdd k_M_joint 31 rfl) fl_M_397 rfl e_x4 ?_
        refine zj_if_ne (tgt := 67) o (zdd k_M_joint 32 rfl) (by decide) (fun hc => ?_) (fun hc => ?_)
        · rw [if_neg hc] at h
          refine zj_aload_n o (zdd k_M_joint 37 rfl) rfl 1 rfl ?_
          obtain ⟨x5, e_x5, h⟩ := zbd h
          refine zj_gI o (zdd k_M_joint 38 rfl) fl_M_397 rfl e_x5 ?_
          refine zj_iconst o (zdd k_M_joint 39 rfl) zki_1 ?_
          refine zj_icmp_ne (tgt := 90) o (zdd k_M_joint 40 rfl) (by decide) (fun hc => ?_) (fun hc => ?_)
          · rw [if_neg hc] at h
            refine zj_iload o (zdd k_M_joint 48 rfl) 0 rfl ?_
            refine zj_iload_n o (zdd k_M_joint 49 rfl) rfl 4 rfl ?_
            refine zj_icmp_le (tgt := 101) o (zdd k_M_joint 50 rfl) (by decide) (fun hc => ?_) (fun hc => ?_)
            · rw [if_pos hc] at h
              refine zj_iload_n o (zdd k_M_joint 53 rfl) rfl 4 rfl ?_
              refine zj_istore_n (loc' := [(3, .int v3), (6, .int x3), (0, .ref v0), (1, .int v1), (2, .int v2), (4, .int v4), (5, .int v5)]) o (zdd k_M_joint 54 rfl) rfl (by decide) rfl ?_
              refine zj_iconst o (zdd k_M_joint 55 rfl) zki_1 ?_
              refine zj_istore (loc' := [(4, .int 1), (3, .int v3), (6, .int x3), (0, .ref v0), (1, .int v1), (2, .int v2), (5, .int v5)]) o (zdd k_M_joint 56 rfl) (by decide) rfl ?_
              refine zj_iinc (v := v5 + 1) (loc' := [(5, .int (v5 + 1)), (4, .int 1), (3, .int v3), (6, .int x3), (0, .ref v0), (1, .int v1), (2, .int v2)]) o (zdd k_M_joint 57 rfl) 6 rfl (by rw [zki_1]) (by decide) rfl ?_
              refine zj_goto (tgt := 8) o (zdd k_M_joint 58 rfl) (by decide) ?_
              exact zj_sub [4, 5, 6, 2, 1, 0] rfl (hk8 h hr)
            · rw [if_neg hc] at h
              refine zj_iload o (zdd k_M_joint 51 rfl) 0 rfl ?_
              refine zj_goto (tgt := 102) o (zdd k_M_joint 52 rfl) (by decide) ?_
              refine zj_istore_n (loc' := [(3, .int x3), (6, .int x3), (0, .ref v0), (1, .int v1), (2, .int v2), (4, .int v4), (5, .int v5)]) o (zdd k_M_joint 54 rfl) rfl (by decide) rfl ?_
              refine zj_iconst o (zdd k_M_joint 55 rfl) zki_1 ?_
              refine zj_istore (loc' := [(4, .int 1), (3, .int x3), (6, .int x3), (0, .ref v0), (1, .int v1), (2, .int v2), (5, .int v5)]) o (zdd k_M_joint 56 rfl) (by decide) rfl ?_
              refine zj_iinc (v := v5 + 1) (loc' := [(5, .int (v5 + 1)), (4, .int 1), (3, .int x3), (6, .int x3), (0, .ref v0), (1, .int v1), (2, .int v2)]) o (zdd k_M_joint 57 rfl) 6 rfl (by rw [zki_1]) (by decide) rfl ?_
              refine zj_goto (tgt := 8) o (zdd k_M_joint 58 rfl) (by decide) ?_
              exact zj_sub [4, 5, 6, 2, 1, 0] rfl (hk8 h hr)
          · rw [if_pos hc] at h
            refine zj_iload o (zdd k_M_joint 41 rfl) 0 rfl ?_
            refine zj_iload_n o (zdd k_M_joint 42 rfl) rfl 4 rfl ?_
            refine zj_icmp_ge (tgt := 86) o (zdd k_M_joint 43 rfl) (by decide) (fun hc => ?_) (fun hc => ?_)
            · rw [if_pos hc] at h
              refine zj_iload_n o (zdd k_M_joint 46 rfl) rfl 4 rfl ?_
              refine zj_goto (tgt := 102) o (zdd k_M_joint 47 rfl) (by decide) ?_
              refine zj_istore_n (loc' := [(3, .int v3), (6, .int x3), (0, .ref v0), (1, .int v1), (2, .int v2), (4, .int v4), (5, .int v5)]) o (zdd k_M_joint 54 rfl) rfl (by decide) rfl ?_
              refine zj_iconst o (zdd k_M_joint 55 rfl) zki_1 ?_
              refine zj_istore (loc' := [(4, .int 1), (3, .int v3), (6, .int x3), (0, .ref v0), (1, .int v1), (2, .int v2), (5, .int v5)]) o (zdd k_M_joint 56 rfl) (by decide) rfl ?_
              refine zj_iinc (v := v5 + 1) (loc' := [(5, .int (v5 + 1)), (4, .int 1), (3, .int v3), (6, .int x3), (0, .ref v0), (1, .int v1), (2, .int v2)]) o (zdd k_M_joint 57 rfl) 6 rfl (by rw [zki_1]) (by decide) rfl ?_
              refine zj_goto (tgt := 8) o (zdd k_M_joint 58 rfl) (by decide) ?_
              exact zj_sub [4, 5, 6, 2, 1, 0] rfl (hk8 h hr)
            · rw [if_neg hc] at h
              refine zj_iload o (zdd k_M_joint 44 rfl) 0 rfl ?_
              refine zj_goto (tgt := 102) o (zdd k_M_joint 45 rfl) (by decide) ?_
              refine zj_istore_n (loc' := [(3, .int x3), (6, .int x3), (0, .ref v0), (1, .int v1), (2, .int v2), (4, .int v4), (5, .int v5)]) o (zdd k_M_joint 54 rfl) rfl (by decide) rfl ?_
              refine zj_iconst o (zdd k_M_joint 55 rfl) zki_1 ?_
              refine zj_istore (loc' := [(4, .int 1), (3, .int x3), (6, .int x3), (0, .ref v0), (1, .int v1), (2, .int v2), (5, .int v5)]) o (zdd k_M_joint 56 rfl) (by decide) rfl ?_
              refine zj_iinc (v := v5 + 1) (loc' := [(5, .int (v5 + 1)), (4, .int 1), (3, .int x3), (6, .int x3), (0, .ref v0), (1, .int v1), (2, .int v2)]) o (zdd k_M_joint 57 rfl) 6 rfl (by rw [zki_1]) (by decide) rfl ?_
              refine zj_goto (tgt := 8) o (zdd k_M_joint 58 rfl) (by decide) ?_
              exact zj_sub [4, 5, 6, 2, 1, 0] rfl (hk8 h hr)
        · rw [if_pos hc] at h
          refine zj_iload_n o (zdd k_M_joint 33 rfl) rfl 4 rfl ?_
          refine zj_iload o (zdd k_M_joint 34 rfl) 0 rfl ?_
          refine zj_iadd o (zdd k_M_joint 35 rfl) ?_
          refine zj_goto (tgt := 102) o (zdd k_M_joint 36 rfl) (by decide) ?_
          refine zj_istore_n (loc' := [(3, .int (v3 + x3)), (6, .int x3), (0, .ref v0), (1, .int v1), (2, .int v2), (4, .int v4), (5, .int v5)]) o (zdd k_M_joint 54 rfl) rfl (by decide) rfl ?_
          refine zj_iconst o (zdd k_M_joint 55 rfl) zki_1 ?_
          refine zj_istore (loc' := [(4, .int 1), (3, .int (v3 + x3)), (6, .int x3), (0, .ref v0), (1, .int v1), (2, .int v2), (5, .int v5)]) o (zdd k_M_joint 56 rfl) (by decide) rfl ?_
          refine zj_iinc (v := v5 + 1) (loc' := [(5, .int (v5 + 1)), (4, .int 1), (3, .int (v3 + x3)), (6, .int x3), (0, .ref v0), (1, .int v1), (2, .int v2)]) o (zdd k_M_joint 57 rfl) 6 rfl (by rw [zki_1]) (by decide) rfl ?_
          refine zj_goto (tgt := 8) o (zdd k_M_joint 58 rfl) (by decide) ?_
          exact zj_sub [4, 5, 6, 2, 1, 0] rfl (hk8 h hr)
      · rw [if_pos hc] at h
        refine zj_iload o (zdd k_M_joint 28 rfl) 0 rfl ?_
        refine zj_goto (tgt := 102) o (zdd k_M_joint 29 rfl) (by decide) ?_
        refine zj_istore_n (loc' := [(3, .int x3), (6, .int x3), (0, .ref v0), (1, .int v1), (2, .int v2), (4, .int v4), (5, .int v5)]) o (zdd k_M_joint 54 rfl) rfl (by decide) rfl ?_
        refine zj_iconst o (zdd k_M_joint 55 rfl) zki_1 ?_
        refine zj_istore (loc' := [(4, .int 1), (3, .int x3), (6, .int x3), (0, .ref v0), (1, .int v1), (2, .int v2), (5, .int v5)]) o (zdd k_M_joint 56 rfl) (by decide) rfl ?_
        refine zj_iinc (v := v5 + 1) (loc' := [(5, .int (v5 + 1)), (4, .int 1), (3, .int x3), (6, .int x3), (0, .ref v0), (1, .int v1), (2, .int v2)]) o (zdd k_M_joint 57 rfl) 6 rfl (by rw [zki_1]) (by decide) rfl ?_
        refine zj_goto (tgt := 8) o (zdd k_M_joint 58 rfl) (by decide) ?_
        exact zj_sub [4, 5, 6, 2, 1, 0] rfl (hk8 h hr)
    · rw [if_pos hc] at h
      refine zj_goto (tgt := 106) o (zdd k_M_joint 16 rfl) (by decide) ?_
      refine zj_iinc (v := v5 + 1) (loc' := [(5, .int (v5 + 1)), (0, .ref v0), (1, .int v1), (2, .int v2), (3, .int v3), (4, .int v4)]) o (zdd k_M_joint 57 rfl) 5 rfl (by rw [zki_1]) (by decide) rfl ?_
      refine zj_goto (tgt := 8) o (zdd k_M_joint 58 rfl) (by decide) ?_
      exact zj_sub [1, 2, 3, 4, 5, 0] rfl (hk8 h hr)
def f_M_joint_8L : Nat → zSt → Nat → Int32 → Int32 → Int32 → Int32 → Int32 → Option (Int32)
  | 0 => fun _ _ _ _ _ _ _ => none
  | n + 1 => f_M_joint_8  (f_M_joint_8L  n)
theorem r_M_joint_8L {X : zCX} (o : zOK X "WantShelvesModel" c_M_joint n_M_joint 1) : ∀ (n : Nat) {σ : zSt} {v0 : Nat} {v1 : Int32} {v2 : Int32} {v3 : Int32} {v4 : Int32} {v5 : Int32} {z : Int32}, f_M_joint_8L n σ v0 v1 v2 v3 v4 v5 = some z → zRX X 0 0 (some (.int z)) σ → zPJ X 0 0 8 [(0, .ref v0), (1, .int v1), (2, .int v2), (3, .int v3), (4, .int v4), (5, .int v5)] [] σ
  | 0 => fun h _ => by cases h
  | n + 1 => fun h hr => r_M_joint_8 o (r_M_joint_8L o  n) h hr
def f_M_joint (σ : zSt) (t : Nat) (p0 : Int32) (p1 : Int32) : Option (Int32) :=
zg σ 12 t (
f_M_joint_8L zfu σ t p0 p1 0 0 0)
set_option maxRecDepth 100000 in
set_option maxHeartbeats 4000000 in
theorem m_M_joint {l : Launch} {b : Nat} {ex : Nat → Value} {D : va_G} {ca : Nat → ClassId} {σ : zSt} {t : Nat} {p0 : Int32} {p1 : Int32} {z : Int32} (h : f_M_joint σ t p0 p1 = some z) : zMT l b ex D ca 1 y_M_joint c_M_joint n_M_joint r_ret_M_joint [.ref t, .int p0, .int p1] σ (some (.int z)) σ 0 0 := by
  obtain ⟨_, hg0⟩ := zg_some h
  have h := hg0
  refine zmt_of (by decide) (Nat.le_of_ble_eq_true rfl) ⟨.int, rfl, rfl⟩ (fun X o hin hrm _ _ _ _ _ hr => ?_)
  have hr := hr 0 0 (by decide) (by decide)
  have o : zOK X "WantShelvesModel" c_M_joint n_M_joint 1 := o
  change zPJ X 0 0 0 [(0, .ref t), (1, .int p0), (2, .int p1)] [] σ
  refine zj_iconst o (zdd k_M_joint 0 rfl) zki_0 ?_
  refine zj_istore_n (loc' := [(3, .int 0), (0, .ref t), (1, .int p0), (2, .int p1)]) o (zdd k_M_joint 1 rfl) rfl (by decide) rfl ?_
  refine zj_iconst o (zdd k_M_joint 2 rfl) zki_0 ?_
  refine zj_istore (loc' := [(4, .int 0), (3, .int 0), (0, .ref t), (1, .int p0), (2, .int p1)]) o (zdd k_M_joint 3 rfl) (by decide) rfl ?_
  refine zj_iconst o (zdd k_M_joint 4 rfl) zki_0 ?_
  refine zj_istore (loc' := [(5, .int 0), (4, .int 0), (3, .int 0), (0, .ref t), (1, .int p0), (2, .int p1)]) o (zdd k_M_joint 5 rfl) (by decide) rfl ?_
  exact zj_sub [3, 4, 5, 2, 1, 0] rfl (r_M_joint_8L o  zfu h hr)
def f_M_firstJoint_4 (k4 : zSt → Nat → Int32 → Int32 → Int32 → Option (Int32)) (σ : zSt) (v0 : Nat) (v1 : Int32) (v2 : Int32) (v3 : Int32) : Option (Int32) :=
(zgI σ 12 v0 42).bind fun x1 =>
if x1 ≤ v3 then (
some v2) else
(f_M_isLeft σ v0 v3).bind fun x2 =>
if x2 = 0 then (
k4 σ v0 v1 v2 (v3 + 1)) else
if v2 < 0 then (
k4 σ v0 v1 v3 (v3 + 1)) else
(f_M_joint σ v0 v1 v3).bind fun x3 =>
(f_M_joint σ v0 v1 v2).bind fun x4 =>
if x3 ≤ x4 then (
k4 σ v0 v1 v2 (v3 + 1)) else
k4 σ v0 v1 v3 (v3 + 1)
set_option maxRecDepth 100000 in
set_option maxHeartbeats 4000000 in
theorem r_M_firstJoint_4 {X : zCX} (o : zOK X "WantShelvesModel" c_M_firstJoint n_M_firstJoint 3) {k4 : zSt → Nat → Int32 → Int32 → Int32 → Option (Int32)} (hk4 : ∀ {σ : zSt} {v0 : Nat} {v1 : Int32} {v2 : Int32} {v3 : Int32} {z : Int32}, k4 σ v0 v1 v2 v3 = some z → zRX X 0 0 (some (.int z)) σ → zPJ X 0 0 4 [(0, .ref v0), (1, .int v1), (2, .int v2), (3, .int v3)] [] σ) {σ : zSt} {v0 : Nat} {v1 : Int32} {v2 : Int32} {v3 : Int32} {z : Int32} (h : f_M_firstJoint_4 k4 σ v0 v1 v2 v3 = some z) (hr : zRX X 0 0 (some (.int z)) σ) : zPJ X 0 0 4 [(0, .ref v0), (1, .int v1), (2, .int v2), (3, .int v3)] [] σ := by
  unfold f_M_firstJoint_4 at h
  refine zj_iload_n o (zdd k_M_firstJoint 4 rfl) rfl 3 rfl ?_
  refine zj_aload_n o (zdd k_M_firstJoint 5 rfl) rfl 0 rfl ?_
  obtain ⟨x1, e_x1, h⟩ := zbd h
  refine zj_gI o (zdd k_M_firstJoint 6 rfl) fl_M_391 rfl e_x1 ?_
  refine zj_icmp_ge (tgt := 47) o (zdd k_M_firstJoint 7 rfl) (by decide) (fun hc => ?_) (fun hc => ?_)
  · rw [if_pos hc] at h
    refine zj_iload_n o (zdd k_M_firstJoint 27 rfl) rfl 2 rfl ?_
    cases h
    exact zr_i o hr (zdd k_M_firstJoint 28 rfl)
  · rw [if_neg hc] at h
    refine zj_aload_n o (zdd k_M_firstJoint 8 rfl) rfl 0 rfl ?_
    refine zj_iload_n o (zdd k_M_firstJoint 9 rfl) rfl 3 rfl ?_
    obtain ⟨x2, e_x2, h⟩ := zbd h
    refine zc_V o (zdd k_M_firstJoint 10 rfl) ml_M_466 mv_M_isLeft ⟨rfl, by decide⟩ (zg_some e_x2).1 (by decide) [.int v3] [] rfl (Nat.le_of_ble_eq_true rfl) rfl (m_M_isLeft e_x2) ?_
    change zPJ X 0 0 _ _ [.int x2] _
    refine zj_if_eq (tgt := 41) o (zdd k_M_firstJoint 11 rfl) (by decide) (fun hc => ?_) (fun hc => ?_)
    · rw [if_pos hc] at h
      refine zj_iinc (v := v3 + 1) (loc' := [(3, .int (v3 + 1)), (0, .ref v0), (1, .int v1), (2, .int v2)]) o (zdd k_M_firstJoint 25 rfl) 3 rfl (by rw [zki_1]) (by decide) rfl ?_
      refine zj_goto (tgt := 4) o (zdd k_M_firstJoint 26 rfl) (by decide) ?_
      exact zj_sub [1, 2, 3, 0] rfl (hk4 h hr)
    · rw [if_neg hc] at h
      refine zj_iload_n o (zdd k_M_firstJoint 12 rfl) rfl 2 rfl ?_
      refine zj_if_lt (tgt := 39) o (zdd k_M_firstJoint 13 rfl) (by decide) (fun hc => ?_) (fun hc => ?_)
      · rw [if_pos hc] at h
        refine zj_iload_n o (zdd k_M_firstJoint 23 rfl) rfl 3 rfl ?_
        refine zj_istore_n (loc' := [(2, .int v3), (0, .ref v0), (1, .int v1), (3, .int v3)]) o (zdd k_M_firstJoint 24 rfl) rfl (by decide) rfl ?_
        refine zj_iinc (v := v3 + 1) (loc' := [(3, .int (v3 + 1)), (2, .int v3), (0, .ref v0), (1, .int v1)]) o (zdd k_M_firstJoint 25 rfl) 3 rfl (by rw [zki_1]) (by decide) rfl ?_
        refine zj_goto (tgt := 4) o (zdd k_M_firstJoint 26 rfl) (by decide) ?_
        exact zj_sub [2, 3, 1, 0] rfl (hk4 h hr)
      · rw [if_neg hc] at h
        refine zj_aload_n o (zdd k_M_firstJoint 14 rfl) rfl 0 rfl ?_
        refine zj_iload_n o (zdd k_M_firstJoint 15 rfl) rfl 1 rfl ?_
        refine zj_iload_n o (zdd k_M_firstJoint 16 rfl) rfl 3 rfl ?_
        obtain ⟨x3, e_x3, h⟩ := zbd h
        refine zc_V o (zdd k_M_firstJoint 17 rfl) ml_M_472 mv_M_joint ⟨rfl, by decide⟩ (zg_some e_x3).1 (by decide) [.int v1, .int v3] [] rfl (Nat.le_of_ble_eq_true rfl) rfl (m_M_joint e_x3) ?_
        change zPJ X 0 0 _ _ [.int x3] _
        refine zj_aload_n o (zdd k_M_firstJoint 18 rfl) rfl 0 rfl ?_
        refine zj_iload_n o (zdd k_M_firstJoint 19 rfl) rfl 1 rfl ?_
        refine zj_iload_n o (zdd k_M_firstJoint 20 rfl) rfl 2 rfl ?_
        obtain ⟨x4, e_x4, h⟩ := zbd h
        refine zc_V o (zdd k_M_firstJoint 21 rfl) ml_M_472 mv_M_joint ⟨rfl, by decide⟩ (zg_some e_x4).1 (by decide) [.int v1, .int v2] [.int x3] rfl (Nat.le_of_ble_eq_true rfl) rfl (m_M_joint e_x4) ?_
        change zPJ X 0 0 _ _ [.int x4, .int x3] _
        refine zj_icmp_le (tgt := 41) o (zdd k_M_firstJoint 22 rfl) (by decide) (fun hc => ?_) (fun hc => ?_)
        · rw [if_pos hc] at h
          refine zj_iinc (v := v3 + 1) (loc' := [(3, .int (v3 + 1)), (0, .ref v0), (1, .int v1), (2, .int v2)]) o (zdd k_M_firstJoint 25 rfl) 3 rfl (by rw [zki_1]) (by decide) rfl ?_
          refine zj_goto (tgt := 4) o (zdd k_M_firstJoint 26 rfl) (by decide) ?_
          exact zj_sub [1, 2, 3, 0] rfl (hk4 h hr)
        · rw [if_neg hc] at h
          refine zj_iload_n o (zdd k_M_firstJoint 23 rfl) rfl 3 rfl ?_
          refine zj_istore_n (loc' := [(2, .int v3), (0, .ref v0), (1, .int v1), (3, .int v3)]) o (zdd k_M_firstJoint 24 rfl) rfl (by decide) rfl ?_
          refine zj_iinc (v := v3 + 1) (loc' := [(3, .int (v3 + 1)), (2, .int v3), (0, .ref v0), (1, .int v1)]) o (zdd k_M_firstJoint 25 rfl) 3 rfl (by rw [zki_1]) (by decide) rfl ?_
          refine zj_goto (tgt := 4) o (zdd k_M_firstJoint 26 rfl) (by decide) ?_
          exact zj_sub [2, 3, 1, 0] rfl (hk4 h hr)
def f_M_firstJoint_4L : Nat → zSt → Nat → Int32 → Int32 → Int32 → Option (Int32)
  | 0 => fun _ _ _ _ _ => none
  | n + 1 => f_M_firstJoint_4  (f_M_firstJoint_4L  n)
theorem r_M_firstJoint_4L {X : zCX} (o : zOK X "WantShelvesModel" c_M_firstJoint n_M_firstJoint 3) : ∀ (n : Nat) {σ : zSt} {v0 : Nat} {v1 : Int32} {v2 : Int32} {v3 : Int32} {z : Int32}, f_M_firstJoint_4L n σ v0 v1 v2 v3 = some z → zRX X 0 0 (some (.int z)) σ → zPJ X 0 0 4 [(0, .ref v0), (1, .int v1), (2, .int v2), (3, .int v3)] [] σ
  | 0 => fun h _ => by cases h
  | n + 1 => fun h hr => r_M_firstJoint_4 o (r_M_firstJoint_4L o  n) h hr
def f_M_firstJoint (σ : zSt) (t : Nat) (p0 : Int32) : Option (Int32) :=
zg σ 12 t (
f_M_firstJoint_4L zfu σ t p0 (-1) 0)
set_option maxRecDepth 100000 in
set_option maxHeartbeats 4000000 in
theorem m_M_firstJoint {l : Launch} {b : Nat} {ex : Nat → Value} {D : va_G} {ca : Nat → ClassId} {σ : zSt} {t : Nat} {p0 : Int32} {z : Int32} (h : f_M_firstJoint σ t p0 = some z) : zMT l b ex D ca 3 y_M_firstJoint c_M_firstJoint n_M_firstJoint r_ret_M_firstJoint [.ref t, .int p0] σ (some (.int z)) σ 0 0 := by
  obtain ⟨_, hg0⟩ := zg_some h
  have h := hg0
  refine zmt_of (by decide) (Nat.le_of_ble_eq_true rfl) ⟨.int, rfl, rfl⟩ (fun X o hin hrm _ _ _ _ _ hr => ?_)
  have hr := hr 0 0 (by decide) (by decide)
  have o : zOK X "WantShelvesModel" c_M_firstJoint n_M_firstJoint 3 := o
  change zPJ X 0 0 0 [(0, .ref t), (1, .int p0)] [] σ
  refine zj_iconst o (zdd k_M_firstJoint 0 rfl) zki_m1 ?_
  refine zj_istore_n (loc' := [(2, .int (-1)), (0, .ref t), (1, .int p0)]) o (zdd k_M_firstJoint 1 rfl) rfl (by decide) rfl ?_
  refine zj_iconst o (zdd k_M_firstJoint 2 rfl) zki_0 ?_
  refine zj_istore_n (loc' := [(3, .int 0), (2, .int (-1)), (0, .ref t), (1, .int p0)]) o (zdd k_M_firstJoint 3 rfl) rfl (by decide) rfl ?_
  exact zj_sub [2, 3, 1, 0] rfl (r_M_firstJoint_4L o  zfu h hr)
def f_M_nextOf_7 (k7 : zSt → Int32 → Int32 → Option (Int32)) (σ : zSt) (v1 : Int32) (v3 : Int32) : Option (Int32) :=
if (v1 >>> (v3 &&& 31)) &&& 1 = 0 then (
k7 σ v1 (zrem (v3 + 1) 6)) else
some v3
set_option maxRecDepth 100000 in
set_option maxHeartbeats 4000000 in
theorem r_M_nextOf_7 {X : zCX} (o : zOK X "WantShelvesModel" c_M_nextOf n_M_nextOf 1) {k7 : zSt → Int32 → Int32 → Option (Int32)} (hk7 : ∀ {σ : zSt} {v1 : Int32} {v3 : Int32} {z : Int32}, k7 σ v1 v3 = some z → zRX X 0 0 (some (.int z)) σ → zPJ X 0 0 7 [(1, .int v1), (3, .int v3)] [] σ) {σ : zSt} {v1 : Int32} {v3 : Int32} {z : Int32} (h : f_M_nextOf_7 k7 σ v1 v3 = some z) (hr : zRX X 0 0 (some (.int z)) σ) : zPJ X 0 0 7 [(1, .int v1), (3, .int v3)] [] σ := by
  unfold f_M_nextOf_7 at h
  refine zj_iload_n o (zdd k_M_nextOf 6 rfl) rfl 0 rfl ?_
  refine zj_iload_n o (zdd k_M_nextOf 7 rfl) rfl 1 rfl ?_
  refine zj_ishr o (zdd k_M_nextOf 8 rfl) ?_
  refine zj_iconst o (zdd k_M_nextOf 9 rfl) zki_1 ?_
  refine zj_iand o (zdd k_M_nextOf 10 rfl) ?_
  refine zj_if_ne (tgt := 25) o (zdd k_M_nextOf 11 rfl) (by decide) (fun hc => ?_) (fun hc => ?_)
  · rw [if_neg hc] at h
    refine zj_iload_n o (zdd k_M_nextOf 19 rfl) rfl 1 rfl ?_
    cases h
    exact zr_i o hr (zdd k_M_nextOf 20 rfl)
  · rw [if_pos hc] at h
    refine zj_iload_n o (zdd k_M_nextOf 12 rfl) rfl 1 rfl ?_
    refine zj_iconst o (zdd k_M_nextOf 13 rfl) zki_1 ?_
    refine zj_iadd o (zdd k_M_nextOf 14 rfl) ?_
    refine zj_bipush o (zdd k_M_nextOf 15 rfl) zkb_6 ?_
    refine zj_irem o (zdd k_M_nextOf 16 rfl) (by decide) ?_
    change zPJ X 0 0 _ _ [.int (zrem (v3 + 1) 6)] _
    refine zj_istore_n (loc' := [(3, .int (zrem (v3 + 1) 6)), (1, .int v1)]) o (zdd k_M_nextOf 17 rfl) rfl (by decide) rfl ?_
    refine zj_goto (tgt := 7) o (zdd k_M_nextOf 18 rfl) (by decide) ?_
    exact zj_sub [1, 0] rfl (hk7 h hr)
def f_M_nextOf_7L : Nat → zSt → Int32 → Int32 → Option (Int32)
  | 0 => fun _ _ _ => none
  | n + 1 => f_M_nextOf_7  (f_M_nextOf_7L  n)
theorem r_M_nextOf_7L {X : zCX} (o : zOK X "WantShelvesModel" c_M_nextOf n_M_nextOf 1) : ∀ (n : Nat) {σ : zSt} {v1 : Int32} {v3 : Int32} {z : Int32}, f_M_nextOf_7L n σ v1 v3 = some z → zRX X 0 0 (some (.int z)) σ → zPJ X 0 0 7 [(1, .int v1), (3, .int v3)] [] σ
  | 0 => fun h _ => by cases h
  | n + 1 => fun h hr => r_M_nextOf_7 o (r_M_nextOf_7L o  n) h hr
def f_M_nextOf (σ : zSt) (t : Nat) (p0 : Int32) (p1 : Int32) : Option (Int32) :=
zg σ 12 t (
f_M_nextOf_7L zfu σ p0 (zrem (p1 + 1) 6))
set_option maxRecDepth 100000 in
set_option maxHeartbeats 4000000 in
theorem m_M_nextOf {l : Launch} {b : Nat} {ex : Nat → Value} {D : va_G} {ca : Nat → ClassId} {σ : zSt} {t : Nat} {p0 : Int32} {p1 : Int32} {z : Int32} (h : f_M_nextOf σ t p0 p1 = some z) : zMT l b ex D ca 1 y_M_nextOf c_M_nextOf n_M_nextOf r_ret_M_nextOf [.ref t, .int p0, .int p1] σ (some (.int z)) σ 0 0 := by
  obtain ⟨_, hg0⟩ := zg_some h
  have h := hg0
  refine zmt_of (by decide) (Nat.le_of_ble_eq_true rfl) ⟨.int, rfl, rfl⟩ (fun X o hin hrm _ _ _ _ _ hr => ?_)
  have hr := hr 0 0 (by decide) (by decide)
  have o : zOK X "WantShelvesModel" c_M_nextOf n_M_nextOf 1 := o
  change zPJ X 0 0 0 [(0, .ref t), (1, .int p0), (2, .int p1)] [] σ
  refine zj_iload_n o (zdd k_M_nextOf 0 rfl) rfl 2 rfl ?_
  refine zj_iconst o (zdd k_M_nextOf 1 rfl) zki_1 ?_
  refine zj_iadd o (zdd k_M_nextOf 2 rfl) ?_
  refine zj_bipush o (zdd k_M_nextOf 3 rfl) zkb_6 ?_
  refine zj_irem o (zdd k_M_nextOf 4 rfl) (by decide) ?_
  change zPJ X 0 0 _ _ [.int (zrem (p1 + 1) 6)] _
  refine zj_istore_n (loc' := [(3, .int (zrem (p1 + 1) 6)), (0, .ref t), (1, .int p0), (2, .int p1)]) o (zdd k_M_nextOf 5 rfl) rfl (by decide) rfl ?_
  exact zj_sub [2, 0] rfl (r_M_nextOf_7L o  zfu h hr)
def f_M_layOrder_83 (k30 : zSt → Nat → Int32 → Int32 → Int32 → Option (zSt)) (σ : zSt) (v0 : Nat) (v1 : Int32) (v2 : Int32) (v4 : Int32) (s0 : Int32) : Option (zSt) :=
if s0 = 0 then (
k30 σ v0 v1 v2 s0) else
(f_M_putBook σ v0 v4).bind fun σ1 =>
k30 σ1 v0 v1 v2 s0
set_option maxRecDepth 100000 in
set_option maxHeartbeats 4000000 in
theorem r_M_layOrder_83 {X : zCX} (o : zOK X "WantShelvesModel" c_M_layOrder n_M_layOrder 4) {k30 : zSt → Nat → Int32 → Int32 → Int32 → Option (zSt)} (hk30 : ∀ {σ : zSt} {v0 : Nat} {v1 : Int32} {v2 : Int32} {v3 : Int32} {z : zSt}, k30 σ v0 v1 v2 v3 = some z → zRX X 0 0 none z → zPJ X 0 0 30 [(0, .ref v0), (1, .int v1), (2, .int v2), (3, .int v3)] [] σ) {σ : zSt} {v0 : Nat} {v1 : Int32} {v2 : Int32} {v4 : Int32} {s0 : Int32} {z : zSt} (h : f_M_layOrder_83 k30 σ v0 v1 v2 v4 s0 = some z) (hr : zRX X 0 0 none z) : zPJ X 0 0 83 [(0, .ref v0), (1, .int v1), (2, .int v2), (4, .int v4)] [.int s0] σ := by
  unfold f_M_layOrder_83 at h
  refine zj_istore_n (loc' := [(3, .int s0), (0, .ref v0), (1, .int v1), (2, .int v2), (4, .int v4)]) o (zdd k_M_layOrder 48 rfl) rfl (by decide) rfl ?_
  refine zj_iload_n o (zdd k_M_layOrder 49 rfl) rfl 0 rfl ?_
  refine zj_if_eq (tgt := 94) o (zdd k_M_layOrder 50 rfl) (by decide) (fun hc => ?_) (fun hc => ?_)
  · rw [if_pos hc] at h
    refine zj_goto (tgt := 30) o (zdd k_M_layOrder 54 rfl) (by decide) ?_
    exact zj_sub [1, 2, 3, 0] rfl (hk30 h hr)
  · rw [if_neg hc] at h
    refine zj_aload_n o (zdd k_M_layOrder 51 rfl) rfl 1 rfl ?_
    refine zj_iload o (zdd k_M_layOrder 52 rfl) 4 rfl ?_
    obtain ⟨σ1, e_σ1, h⟩ := zbd h
    refine zc_V o (zdd k_M_layOrder 53 rfl) ml_M_484 mv_M_putBook ⟨rfl, by decide⟩ (zg_some e_σ1).1 (by decide) [.int v4] [] rfl (Nat.le_of_ble_eq_true rfl) rfl (m_M_putBook e_σ1) ?_
    change zPJ X 0 0 _ _ [] _
    refine zj_goto (tgt := 30) o (zdd k_M_layOrder 54 rfl) (by decide) ?_
    exact zj_sub [1, 2, 3, 0] rfl (hk30 h hr)
def f_M_layOrder_73 (k30 : zSt → Nat → Int32 → Int32 → Int32 → Option (zSt)) (σ : zSt) (v0 : Nat) (v1 : Int32) (v2 : Int32) (v4 : Int32) : Option (zSt) :=
if v4 < 0 then (
f_M_layOrder_83 k30 σ v0 v1 v2 v4 0) else
f_M_layOrder_83 k30 σ v0 v1 v2 v4 1
set_option maxRecDepth 100000 in
set_option maxHeartbeats 4000000 in
theorem r_M_layOrder_73 {X : zCX} (o : zOK X "WantShelvesModel" c_M_layOrder n_M_layOrder 4) {k30 : zSt → Nat → Int32 → Int32 → Int32 → Option (zSt)} (hk30 : ∀ {σ : zSt} {v0 : Nat} {v1 : Int32} {v2 : Int32} {v3 : Int32} {z : zSt}, k30 σ v0 v1 v2 v3 = some z → zRX X 0 0 none z → zPJ X 0 0 30 [(0, .ref v0), (1, .int v1), (2, .int v2), (3, .int v3)] [] σ) {σ : zSt} {v0 : Nat} {v1 : Int32} {v2 : Int32} {v4 : Int32} {z : zSt} (h : f_M_layOrder_73 k30 σ v0 v1 v2 v4 = some z) (hr : zRX X 0 0 none z) : zPJ X 0 0 73 [(0, .ref v0), (1, .int v1), (2, .int v2), (4, .int v4)] [] σ := by
  unfold f_M_layOrder_73 at h
  refine zj_iload o (zdd k_M_layOrder 43 rfl) 3 rfl ?_
  refine zj_if_lt (tgt := 82) o (zdd k_M_layOrder 44 rfl) (by decide) (fun hc => ?_) (fun hc => ?_)
  · rw [if_pos hc] at h
    refine zj_iconst o (zdd k_M_layOrder 47 rfl) zki_0 ?_
    exact zj_sub [0, 1, 2, 3] rfl (r_M_layOrder_83 o hk30 h hr)
  · rw [if_neg hc] at h
    refine zj_iconst o (zdd k_M_layOrder 45 rfl) zki_1 ?_
    refine zj_goto (tgt := 83) o (zdd k_M_layOrder 46 rfl) (by decide) ?_
    exact zj_sub [0, 1, 2, 3] rfl (r_M_layOrder_83 o hk30 h hr)
def f_M_layOrder_66 (k30 : zSt → Nat → Int32 → Int32 → Int32 → Option (zSt)) (σ : zSt) (v0 : Nat) (v1 : Int32) (v2 : Int32) : Option (zSt) :=
(f_M_firstJoint σ v0 v1).bind fun x1 =>
f_M_layOrder_73 k30 σ v0 v1 v2 x1
set_option maxRecDepth 100000 in
set_option maxHeartbeats 4000000 in
theorem r_M_layOrder_66 {X : zCX} (o : zOK X "WantShelvesModel" c_M_layOrder n_M_layOrder 4) {k30 : zSt → Nat → Int32 → Int32 → Int32 → Option (zSt)} (hk30 : ∀ {σ : zSt} {v0 : Nat} {v1 : Int32} {v2 : Int32} {v3 : Int32} {z : zSt}, k30 σ v0 v1 v2 v3 = some z → zRX X 0 0 none z → zPJ X 0 0 30 [(0, .ref v0), (1, .int v1), (2, .int v2), (3, .int v3)] [] σ) {σ : zSt} {v0 : Nat} {v1 : Int32} {v2 : Int32} {z : zSt} (h : f_M_layOrder_66 k30 σ v0 v1 v2 = some z) (hr : zRX X 0 0 none z) : zPJ X 0 0 66 [(0, .ref v0), (1, .int v1), (2, .int v2)] [] σ := by
  unfold f_M_layOrder_66 at h
  refine zj_aload_n o (zdd k_M_layOrder 39 rfl) rfl 0 rfl ?_
  refine zj_iload_n o (zdd k_M_layOrder 40 rfl) rfl 1 rfl ?_
  obtain ⟨x1, e_x1, h⟩ := zbd h
  refine zc_V o (zdd k_M_layOrder 41 rfl) ml_M_481 mv_M_firstJoint ⟨rfl, by decide⟩ (zg_some e_x1).1 (by decide) [.int v1] [] rfl (Nat.le_of_ble_eq_true rfl) rfl (m_M_firstJoint e_x1) ?_
  change zPJ X 0 0 _ _ [.int x1] _
  refine zj_istore (loc' := [(4, .int x1), (0, .ref v0), (1, .int v1), (2, .int v2)]) o (zdd k_M_layOrder 42 rfl) (by decide) rfl ?_
  exact zj_sub [1, 2, 3, 0] rfl (r_M_layOrder_73 o hk30 h hr)
def f_M_layOrder_30 (k30 : zSt → Nat → Int32 → Int32 → Int32 → Option (zSt)) (σ : zSt) (v0 : Nat) (v1 : Int32) (v2 : Int32) (v3 : Int32) : Option (zSt) :=
if v3 = 0 then (
some σ) else
(zgI σ 12 v0 44).bind fun x1 =>
if x1 = 3 then (
if v1 = 0 then (
f_M_layOrder_66 k30 σ v0 v1 v2) else
(f_M_nextOf σ v0 v1 v2).bind fun x2 =>
(f_M_firstOf σ v0 x2).bind fun x3 =>
f_M_layOrder_73 k30 σ v0 v1 x2 x3) else
f_M_layOrder_66 k30 σ v0 v1 v2
set_option maxRecDepth 100000 in
set_option maxHeartbeats 4000000 in
theorem r_M_layOrder_30 {X : zCX} (o : zOK X "WantShelvesModel" c_M_layOrder n_M_layOrder 4) {k30 : zSt → Nat → Int32 → Int32 → Int32 → Option (zSt)} (hk30 : ∀ {σ : zSt} {v0 : Nat} {v1 : Int32} {v2 : Int32} {v3 : Int32} {z : zSt}, k30 σ v0 v1 v2 v3 = some z → zRX X 0 0 none z → zPJ X 0 0 30 [(0, .ref v0), (1, .int v1), (2, .int v2), (3, .int v3)] [] σ) {σ : zSt} {v0 : Nat} {v1 : Int32} {v2 : Int32} {v3 : Int32} {z : zSt} (h : f_M_layOrder_30 k30 σ v0 v1 v2 v3 = some z) (hr : zRX X 0 0 none z) : zPJ X 0 0 30 [(0, .ref v0), (1, .int v1), (2, .int v2), (3, .int v3)] [] σ := by
  unfold f_M_layOrder_30 at h
  refine zj_iload_n o (zdd k_M_layOrder 19 rfl) rfl 3 rfl ?_
  refine zj_if_eq (tgt := 97) o (zdd k_M_layOrder 20 rfl) (by decide) (fun hc => ?_) (fun hc => ?_)
  · rw [if_pos hc] at h
    cases h
    exact zr_v o hr (zdd k_M_layOrder 55 rfl)
  · rw [if_neg hc] at h
    refine zj_iconst o (zdd k_M_layOrder 21 rfl) zki_m1 ?_
    refine zj_istore (loc' := [(4, .int (-1)), (0, .ref v0), (1, .int v1), (2, .int v2), (3, .int v3)]) o (zdd k_M_layOrder 22 rfl) (by decide) rfl ?_
    refine zj_aload_n o (zdd k_M_layOrder 23 rfl) rfl 1 rfl ?_
    obtain ⟨x1, e_x1, h⟩ := zbd h
    refine zj_gI o (zdd k_M_layOrder 24 rfl) fl_M_397 rfl e_x1 ?_
    refine zj_iconst o (zdd k_M_layOrder 25 rfl) zki_3 ?_
    refine zj_icmp_ne (tgt := 66) o (zdd k_M_layOrder 26 rfl) (by decide) (fun hc => ?_) (fun hc => ?_)
    · rw [if_neg hc] at h
      exact zj_sub [1, 2, 3] rfl (r_M_layOrder_66 o hk30 h hr)
    · rw [if_pos hc] at h
      refine zj_iload_n o (zdd k_M_layOrder 27 rfl) rfl 2 rfl ?_
      refine zj_if_eq (tgt := 66) o (zdd k_M_layOrder 28 rfl) (by decide) (fun hc => ?_) (fun hc => ?_)
      · rw [if_pos hc] at h
        exact zj_sub [1, 2, 3] rfl (r_M_layOrder_66 o hk30 h hr)
      · rw [if_neg hc] at h
        refine zj_aload_n o (zdd k_M_layOrder 29 rfl) rfl 1 rfl ?_
        refine zj_iload_n o (zdd k_M_layOrder 30 rfl) rfl 2 rfl ?_
        refine zj_iload_n o (zdd k_M_layOrder 31 rfl) rfl 3 rfl ?_
        obtain ⟨x2, e_x2, h⟩ := zbd h
        refine zc_V o (zdd k_M_layOrder 32 rfl) ml_M_475 mv_M_nextOf ⟨rfl, by decide⟩ (zg_some e_x2).1 (by decide) [.int v1, .int v2] [] rfl (Nat.le_of_ble_eq_true rfl) rfl (m_M_nextOf e_x2) ?_
        change zPJ X 0 0 _ _ [.int x2] _
        refine zj_istore_n (loc' := [(2, .int x2), (4, .int (-1)), (0, .ref v0), (1, .int v1), (3, .int v3)]) o (zdd k_M_layOrder 33 rfl) rfl (by decide) rfl ?_
        refine zj_aload_n o (zdd k_M_layOrder 34 rfl) rfl 2 rfl ?_
        refine zj_iload_n o (zdd k_M_layOrder 35 rfl) rfl 0 rfl ?_
        obtain ⟨x3, e_x3, h⟩ := zbd h
        refine zc_V o (zdd k_M_layOrder 36 rfl) ml_M_478 mv_M_firstOf ⟨rfl, by decide⟩ (zg_some e_x3).1 (by decide) [.int x2] [] rfl (Nat.le_of_ble_eq_true rfl) rfl (m_M_firstOf e_x3) ?_
        change zPJ X 0 0 _ _ [.int x3] _
        refine zj_istore (loc' := [(4, .int x3), (2, .int x2), (0, .ref v0), (1, .int v1), (3, .int v3)]) o (zdd k_M_layOrder 37 rfl) (by decide) rfl ?_
        refine zj_goto (tgt := 73) o (zdd k_M_layOrder 38 rfl) (by decide) ?_
        exact zj_sub [2, 3, 1, 0] rfl (r_M_layOrder_73 o hk30 h hr)
def f_M_layOrder_30L : Nat → zSt → Nat → Int32 → Int32 → Int32 → Option (zSt)
  | 0 => fun _ _ _ _ _ => none
  | n + 1 => f_M_layOrder_30  (f_M_layOrder_30L  n)
theorem r_M_layOrder_30L {X : zCX} (o : zOK X "WantShelvesModel" c_M_layOrder n_M_layOrder 4) : ∀ (n : Nat) {σ : zSt} {v0 : Nat} {v1 : Int32} {v2 : Int32} {v3 : Int32} {z : zSt}, f_M_layOrder_30L n σ v0 v1 v2 v3 = some z → zRX X 0 0 none z → zPJ X 0 0 30 [(0, .ref v0), (1, .int v1), (2, .int v2), (3, .int v3)] [] σ
  | 0 => fun h _ => by cases h
  | n + 1 => fun h hr => r_M_layOrder_30 o (r_M_layOrder_30L o  n) h hr
def f_M_layOrder_7 (k7 : zSt → Nat → Int32 → Int32 → Option (zSt)) (σ : zSt) (v0 : Nat) (v1 : Int32) (v2 : Int32) : Option (zSt) :=
if 10 ≤ v2 then (
f_M_layOrder_30L zfu σ v0 v1 (-1) 1) else
(zgP σ 12 v0 53).bind fun a1 =>
(zwI σ 1 a1 v2 (-1)).bind fun σ2 =>
k7 σ2 v0 v1 (v2 + 1)
set_option maxRecDepth 100000 in
set_option maxHeartbeats 4000000 in
theorem r_M_layOrder_7 {X : zCX} (o : zOK X "WantShelvesModel" c_M_layOrder n_M_layOrder 4) {k7 : zSt → Nat → Int32 → Int32 → Option (zSt)} (hk7 : ∀ {σ : zSt} {v0 : Nat} {v1 : Int32} {v2 : Int32} {z : zSt}, k7 σ v0 v1 v2 = some z → zRX X 0 0 none z → zPJ X 0 0 7 [(0, .ref v0), (1, .int v1), (2, .int v2)] [] σ) {σ : zSt} {v0 : Nat} {v1 : Int32} {v2 : Int32} {z : zSt} (h : f_M_layOrder_7 k7 σ v0 v1 v2 = some z) (hr : zRX X 0 0 none z) : zPJ X 0 0 7 [(0, .ref v0), (1, .int v1), (2, .int v2)] [] σ := by
  unfold f_M_layOrder_7 at h
  refine zj_iload_n o (zdd k_M_layOrder 5 rfl) rfl 2 rfl ?_
  refine zj_bipush o (zdd k_M_layOrder 6 rfl) zkb_10 ?_
  refine zj_icmp_ge (tgt := 26) o (zdd k_M_layOrder 7 rfl) (by decide) (fun hc => ?_) (fun hc => ?_)
  · rw [if_pos hc] at h
    refine zj_iconst o (zdd k_M_layOrder 15 rfl) zki_m1 ?_
    refine zj_istore_n (loc' := [(2, .int (-1)), (0, .ref v0), (1, .int v1)]) o (zdd k_M_layOrder 16 rfl) rfl (by decide) rfl ?_
    refine zj_iconst o (zdd k_M_layOrder 17 rfl) zki_1 ?_
    refine zj_istore_n (loc' := [(3, .int 1), (2, .int (-1)), (0, .ref v0), (1, .int v1)]) o (zdd k_M_layOrder 18 rfl) rfl (by decide) rfl ?_
    exact zj_sub [2, 3, 1, 0] rfl (r_M_layOrder_30L o  zfu h hr)
  · rw [if_neg hc] at h
    refine zj_aload_n o (zdd k_M_layOrder 8 rfl) rfl 0 rfl ?_
    obtain ⟨a1, e_a1, h⟩ := zbd h
    refine zj_gP o (zdd k_M_layOrder 9 rfl) fl_M_90 rfl e_a1 ?_
    refine zj_iload_n o (zdd k_M_layOrder 10 rfl) rfl 2 rfl ?_
    refine zj_iconst o (zdd k_M_layOrder 11 rfl) zki_m1 ?_
    obtain ⟨σ2, e_σ2, h⟩ := zbd h
    refine zj_iast o (zdd k_M_layOrder 12 rfl) e_σ2 ?_
    refine zj_iinc (v := v2 + 1) (loc' := [(2, .int (v2 + 1)), (0, .ref v0), (1, .int v1)]) o (zdd k_M_layOrder 13 rfl) 2 rfl (by rw [zki_1]) (by decide) rfl ?_
    refine zj_goto (tgt := 7) o (zdd k_M_layOrder 14 rfl) (by decide) ?_
    exact zj_sub [1, 2, 0] rfl (hk7 h hr)
def f_M_layOrder_7L : Nat → zSt → Nat → Int32 → Int32 → Option (zSt)
  | 0 => fun _ _ _ _ => none
  | n + 1 => f_M_layOrder_7  (f_M_layOrder_7L  n)
theorem r_M_layOrder_7L {X : zCX} (o : zOK X "WantShelvesModel" c_M_layOrder n_M_layOrder 4) : ∀ (n : Nat) {σ : zSt} {v0 : Nat} {v1 : Int32} {v2 : Int32} {z : zSt}, f_M_layOrder_7L n σ v0 v1 v2 = some z → zRX X 0 0 none z → zPJ X 0 0 7 [(0, .ref v0), (1, .int v1), (2, .int v2)] [] σ
  | 0 => fun h _ => by cases h
  | n + 1 => fun h hr => r_M_layOrder_7 o (r_M_layOrder_7L o  n) h hr
def f_M_layOrder (σ : zSt) (t : Nat) (p0 : Int32) : Option (zSt) :=
zg σ 12 t (
(zsI σ 12 t 54 0).bind fun σ1 =>
f_M_layOrder_7L zfu σ1 t p0 0)
set_option maxRecDepth 100000 in
set_option maxHeartbeats 4000000 in
theorem m_M_layOrder {l : Launch} {b : Nat} {ex : Nat → Value} {D : va_G} {ca : Nat → ClassId} {σ : zSt} {t : Nat} {p0 : Int32} {z : zSt} (h : f_M_layOrder σ t p0 = some z) : zMT l b ex D ca 4 y_M_layOrder c_M_layOrder n_M_layOrder r_ret_M_layOrder [.ref t, .int p0] σ none z 0 0 := by
  obtain ⟨_, hg0⟩ := zg_some h
  have h := hg0
  refine zmt_of (by decide) (Nat.le_of_ble_eq_true rfl) rfl (fun X o hin hrm _ _ _ _ _ hr => ?_)
  have hr := hr 0 0 (by decide) (by decide)
  have o : zOK X "WantShelvesModel" c_M_layOrder n_M_layOrder 4 := o
  change zPJ X 0 0 0 [(0, .ref t), (1, .int p0)] [] σ
  refine zj_aload_n o (zdd k_M_layOrder 0 rfl) rfl 0 rfl ?_
  refine zj_iconst o (zdd k_M_layOrder 1 rfl) zki_0 ?_
  obtain ⟨σ1, e_σ1, h⟩ := zbd h
  refine zj_pI o (zdd k_M_layOrder 2 rfl) fl_M_460 rfl rfl e_σ1 ?_
  refine zj_iconst o (zdd k_M_layOrder 3 rfl) zki_0 ?_
  refine zj_istore_n (loc' := [(2, .int 0), (0, .ref t), (1, .int p0)]) o (zdd k_M_layOrder 4 rfl) rfl (by decide) rfl ?_
  exact zj_sub [1, 2, 0] rfl (r_M_layOrder_7L o  zfu h hr)
def f_M_stepsTo (σ : zSt) (t : Nat) (p0 : Int32) : Option (Int32) :=
zg σ 12 t (
(zgI σ 12 t 45).bind fun x1 =>
(znz x1).bind fun n2 =>
some ((p0 + 1) + (2 * (p0 / x1))))
set_option maxRecDepth 100000 in
set_option maxHeartbeats 4000000 in
theorem m_M_stepsTo {l : Launch} {b : Nat} {ex : Nat → Value} {D : va_G} {ca : Nat → ClassId} {σ : zSt} {t : Nat} {p0 : Int32} {z : Int32} (h : f_M_stepsTo σ t p0 = some z) : zMT l b ex D ca 1 y_M_stepsTo c_M_stepsTo n_M_stepsTo r_ret_M_stepsTo [.ref t, .int p0] σ (some (.int z)) σ 0 0 := by
  obtain ⟨_, hg0⟩ := zg_some h
  have h := hg0
  refine zmt_of (by decide) (Nat.le_of_ble_eq_true rfl) ⟨.int, rfl, rfl⟩ (fun X o hin hrm _ _ _ _ _ hr => ?_)
  have hr := hr 0 0 (by decide) (by decide)
  have o : zOK X "WantShelvesModel" c_M_stepsTo n_M_stepsTo 1 := o
  change zPJ X 0 0 0 [(0, .ref t), (1, .int p0)] [] σ
  refine zj_iload_n o (zdd k_M_stepsTo 0 rfl) rfl 1 rfl ?_
  refine zj_iconst o (zdd k_M_stepsTo 1 rfl) zki_1 ?_
  refine zj_iadd o (zdd k_M_stepsTo 2 rfl) ?_
  refine zj_iconst o (zdd k_M_stepsTo 3 rfl) zki_2 ?_
  refine zj_iload_n o (zdd k_M_stepsTo 4 rfl) rfl 1 rfl ?_
  refine zj_aload_n o (zdd k_M_stepsTo 5 rfl) rfl 0 rfl ?_
  obtain ⟨x1, e_x1, h⟩ := zbd h
  refine zj_gI o (zdd k_M_stepsTo 6 rfl) fl_M_72 rfl e_x1 ?_
  obtain ⟨n2, e_n2, h⟩ := zbd h
  refine zj_idiv o (zdd k_M_stepsTo 7 rfl) (znz_some e_n2).1 ?_
  refine zj_imul o (zdd k_M_stepsTo 8 rfl) ?_
  refine zj_iadd o (zdd k_M_stepsTo 9 rfl) ?_
  cases h
  exact zr_i o hr (zdd k_M_stepsTo 10 rfl)
def f_M_key (σ : zSt) (t : Nat) (p0 : Int32) (p1 : Int32) : Option (Int32 × zSt) :=
zg σ 12 t (
(f_M_isReader σ t p0).bind fun x1 =>
if x1 = 0 then (
some ((-1000000), σ)) else
(f_M_isBook σ t p1).bind fun x2 =>
if x2 = 0 then (
some ((-1000000), σ)) else
(f_M_layOwn σ t p0).bind fun σ3 =>
(zgP σ3 12 t 51).bind fun a4 =>
(zaI σ3 1 a4 ((10 * p0) + p1)).bind fun x5 =>
some (x5, σ3))
set_option maxRecDepth 100000 in
set_option maxHeartbeats 4000000 in
theorem m_M_key {l : Launch} {b : Nat} {ex : Nat → Value} {D : va_G} {ca : Nat → ClassId} {σ : zSt} {t : Nat} {p0 : Int32} {p1 : Int32} {z : Int32 × zSt} (h : f_M_key σ t p0 p1 = some z) : zMT l b ex D ca 7 y_M_key c_M_key n_M_key r_ret_M_key [.ref t, .int p0, .int p1] σ (some (.int z.1)) z.2 0 0 := by
  obtain ⟨_, hg0⟩ := zg_some h
  have h := hg0
  refine zmt_of (by decide) (Nat.le_of_ble_eq_true rfl) ⟨.int, rfl, rfl⟩ (fun X o hin hrm _ _ _ _ _ hr => ?_)
  have hr := hr 0 0 (by decide) (by decide)
  have o : zOK X "WantShelvesModel" c_M_key n_M_key 7 := o
  change zPJ X 0 0 0 [(0, .ref t), (1, .int p0), (2, .int p1)] [] σ
  refine zj_aload_n o (zdd k_M_key 0 rfl) rfl 0 rfl ?_
  refine zj_iload_n o (zdd k_M_key 1 rfl) rfl 1 rfl ?_
  obtain ⟨x1, e_x1, h⟩ := zbd h
  refine zc_V o (zdd k_M_key 2 rfl) ml_M_441 mv_M_isReader ⟨rfl, by decide⟩ (zg_some e_x1).1 (by decide) [.int p0] [] rfl (Nat.le_of_ble_eq_true rfl) rfl (m_M_isReader e_x1) ?_
  change zPJ X 0 0 _ _ [.int x1] _
  refine zj_if_eq (tgt := 16) o (zdd k_M_key 3 rfl) (by decide) (fun hc => ?_) (fun hc => ?_)
  · rw [if_pos hc] at h
    refine zj_ldcw o (zdd k_M_key 8 rfl) co_M_444 ?_
    cases h
    exact zr_i o hr (zdd k_M_key 9 rfl)
  · rw [if_neg hc] at h
    refine zj_aload_n o (zdd k_M_key 4 rfl) rfl 0 rfl ?_
    refine zj_iload_n o (zdd k_M_key 5 rfl) rfl 2 rfl ?_
    obtain ⟨x2, e_x2, h⟩ := zbd h
    refine zc_V o (zdd k_M_key 6 rfl) ml_M_435 mv_M_isBook ⟨rfl, by decide⟩ (zg_some e_x2).1 (by decide) [.int p1] [] rfl (Nat.le_of_ble_eq_true rfl) rfl (m_M_isBook e_x2) ?_
    change zPJ X 0 0 _ _ [.int x2] _
    refine zj_if_ne (tgt := 20) o (zdd k_M_key 7 rfl) (by decide) (fun hc => ?_) (fun hc => ?_)
    · rw [if_neg hc] at h
      refine zj_aload_n o (zdd k_M_key 10 rfl) rfl 0 rfl ?_
      refine zj_iload_n o (zdd k_M_key 11 rfl) rfl 1 rfl ?_
      obtain ⟨σ3, e_σ3, h⟩ := zbd h
      refine zc_V o (zdd k_M_key 12 rfl) ml_M_457 mv_M_layOwn ⟨rfl, by decide⟩ (zg_some e_σ3).1 (by decide) [.int p0] [] rfl (Nat.le_of_ble_eq_true rfl) rfl (m_M_layOwn e_σ3) ?_
      change zPJ X 0 0 _ _ [] _
      refine zj_aload_n o (zdd k_M_key 13 rfl) rfl 0 rfl ?_
      obtain ⟨a4, e_a4, h⟩ := zbd h
      refine zj_gP o (zdd k_M_key 14 rfl) fl_M_84 rfl e_a4 ?_
      refine zj_bipush o (zdd k_M_key 15 rfl) zkb_10 ?_
      refine zj_iload_n o (zdd k_M_key 16 rfl) rfl 1 rfl ?_
      refine zj_imul o (zdd k_M_key 17 rfl) ?_
      refine zj_iload_n o (zdd k_M_key 18 rfl) rfl 2 rfl ?_
      refine zj_iadd o (zdd k_M_key 19 rfl) ?_
      obtain ⟨x5, e_x5, h⟩ := zbd h
      refine zj_iald o (zdd k_M_key 20 rfl) e_x5 ?_
      cases h
      exact zr_i o hr (zdd k_M_key 21 rfl)
    · rw [if_pos hc] at h
      refine zj_ldcw o (zdd k_M_key 8 rfl) co_M_444 ?_
      cases h
      exact zr_i o hr (zdd k_M_key 9 rfl)
def f_M_place (σ : zSt) (t : Nat) (p0 : Int32) (p1 : Int32) : Option (Int32 × zSt) :=
zg σ 12 t (
(f_M_isParty σ t p0).bind fun x1 =>
if x1 = 0 then (
some ((-1), σ)) else
(f_M_isBook σ t p1).bind fun x2 =>
if x2 = 0 then (
some ((-1), σ)) else
(f_M_layAll σ t).bind fun σ3 =>
(f_M_layOrder σ3 t p0).bind fun σ4 =>
(zgP σ4 12 t 53).bind fun a5 =>
(zaI σ4 1 a5 p1).bind fun x6 =>
some (x6, σ4))
set_option maxRecDepth 100000 in
set_option maxHeartbeats 4000000 in
theorem m_M_place {l : Launch} {b : Nat} {ex : Nat → Value} {D : va_G} {ca : Nat → ClassId} {σ : zSt} {t : Nat} {p0 : Int32} {p1 : Int32} {z : Int32 × zSt} (h : f_M_place σ t p0 p1 = some z) : zMT l b ex D ca 8 y_M_place c_M_place n_M_place r_ret_M_place [.ref t, .int p0, .int p1] σ (some (.int z.1)) z.2 0 0 := by
  obtain ⟨_, hg0⟩ := zg_some h
  have h := hg0
  refine zmt_of (by decide) (Nat.le_of_ble_eq_true rfl) ⟨.int, rfl, rfl⟩ (fun X o hin hrm _ _ _ _ _ hr => ?_)
  have hr := hr 0 0 (by decide) (by decide)
  have o : zOK X "WantShelvesModel" c_M_place n_M_place 8 := o
  change zPJ X 0 0 0 [(0, .ref t), (1, .int p0), (2, .int p1)] [] σ
  refine zj_aload_n o (zdd k_M_place 0 rfl) rfl 0 rfl ?_
  refine zj_iload_n o (zdd k_M_place 1 rfl) rfl 1 rfl ?_
  obtain ⟨x1, e_x1, h⟩ := zbd h
  refine zc_V o (zdd k_M_place 2 rfl) ml_M_487 mv_M_isParty ⟨rfl, by decide⟩ (zg_some e_x1).1 (by decide) [.int p0] [] rfl (Nat.le_of_ble_eq_true rfl) rfl (m_M_isParty e_x1) ?_
  change zPJ X 0 0 _ _ [.int x1] _
  refine zj_if_eq (tgt := 16) o (zdd k_M_place 3 rfl) (by decide) (fun hc => ?_) (fun hc => ?_)
  · rw [if_pos hc] at h
    refine zj_iconst o (zdd k_M_place 8 rfl) zki_m1 ?_
    cases h
    exact zr_i o hr (zdd k_M_place 9 rfl)
  · rw [if_neg hc] at h
    refine zj_aload_n o (zdd k_M_place 4 rfl) rfl 0 rfl ?_
    refine zj_iload_n o (zdd k_M_place 5 rfl) rfl 2 rfl ?_
    obtain ⟨x2, e_x2, h⟩ := zbd h
    refine zc_V o (zdd k_M_place 6 rfl) ml_M_435 mv_M_isBook ⟨rfl, by decide⟩ (zg_some e_x2).1 (by decide) [.int p1] [] rfl (Nat.le_of_ble_eq_true rfl) rfl (m_M_isBook e_x2) ?_
    change zPJ X 0 0 _ _ [.int x2] _
    refine zj_if_ne (tgt := 18) o (zdd k_M_place 7 rfl) (by decide) (fun hc => ?_) (fun hc => ?_)
    · rw [if_neg hc] at h
      refine zj_aload_n o (zdd k_M_place 10 rfl) rfl 0 rfl ?_
      obtain ⟨σ3, e_σ3, h⟩ := zbd h
      refine zc_V o (zdd k_M_place 11 rfl) ml_M_490 mv_M_layAll ⟨rfl, by decide⟩ (zg_some e_σ3).1 (by decide) [] [] rfl (Nat.le_of_ble_eq_true rfl) rfl (m_M_layAll e_σ3) ?_
      change zPJ X 0 0 _ _ [] _
      refine zj_aload_n o (zdd k_M_place 12 rfl) rfl 0 rfl ?_
      refine zj_iload_n o (zdd k_M_place 13 rfl) rfl 1 rfl ?_
      obtain ⟨σ4, e_σ4, h⟩ := zbd h
      refine zc_V o (zdd k_M_place 14 rfl) ml_M_493 mv_M_layOrder ⟨rfl, by decide⟩ (zg_some e_σ4).1 (by decide) [.int p0] [] rfl (Nat.le_of_ble_eq_true rfl) rfl (m_M_layOrder e_σ4) ?_
      change zPJ X 0 0 _ _ [] _
      refine zj_aload_n o (zdd k_M_place 15 rfl) rfl 0 rfl ?_
      obtain ⟨a5, e_a5, h⟩ := zbd h
      refine zj_gP o (zdd k_M_place 16 rfl) fl_M_90 rfl e_a5 ?_
      refine zj_iload_n o (zdd k_M_place 17 rfl) rfl 2 rfl ?_
      obtain ⟨x6, e_x6, h⟩ := zbd h
      refine zj_iald o (zdd k_M_place 18 rfl) e_x6 ?_
      cases h
      exact zr_i o hr (zdd k_M_place 19 rfl)
    · rw [if_pos hc] at h
      refine zj_iconst o (zdd k_M_place 8 rfl) zki_m1 ?_
      cases h
      exact zr_i o hr (zdd k_M_place 9 rfl)
def f_M_book (σ : zSt) (t : Nat) (p0 : Int32) (p1 : Int32) : Option (Int32 × zSt) :=
zg σ 12 t (
(f_M_isParty σ t p0).bind fun x1 =>
if x1 = 0 then (
some ((-1), σ)) else
(f_M_layAll σ t).bind fun σ2 =>
(f_M_layOrder σ2 t p0).bind fun σ3 =>
(zgI σ3 12 t 54).bind fun x4 =>
(f_M_isIn p1 0 (x4 - 1)).bind fun x5 =>
if x5 = 0 then (
some ((-1), σ3)) else
(zgP σ3 12 t 52).bind fun a6 =>
(zaI σ3 1 a6 p1).bind fun x7 =>
some (x7, σ3))
set_option maxRecDepth 100000 in
set_option maxHeartbeats 4000000 in
theorem m_M_book {l : Launch} {b : Nat} {ex : Nat → Value} {D : va_G} {ca : Nat → ClassId} {σ : zSt} {t : Nat} {p0 : Int32} {p1 : Int32} {z : Int32 × zSt} (h : f_M_book σ t p0 p1 = some z) : zMT l b ex D ca 8 y_M_book c_M_book n_M_book r_ret_M_book [.ref t, .int p0, .int p1] σ (some (.int z.1)) z.2 0 0 := by
  obtain ⟨_, hg0⟩ := zg_some h
  have h := hg0
  refine zmt_of (by decide) (Nat.le_of_ble_eq_true rfl) ⟨.int, rfl, rfl⟩ (fun X o hin hrm _ _ _ _ _ hr => ?_)
  have hr := hr 0 0 (by decide) (by decide)
  have o : zOK X "WantShelvesModel" c_M_book n_M_book 8 := o
  change zPJ X 0 0 0 [(0, .ref t), (1, .int p0), (2, .int p1)] [] σ
  refine zj_aload_n o (zdd k_M_book 0 rfl) rfl 0 rfl ?_
  refine zj_iload_n o (zdd k_M_book 1 rfl) rfl 1 rfl ?_
  obtain ⟨x1, e_x1, h⟩ := zbd h
  refine zc_V o (zdd k_M_book 2 rfl) ml_M_487 mv_M_isParty ⟨rfl, by decide⟩ (zg_some e_x1).1 (by decide) [.int p0] [] rfl (Nat.le_of_ble_eq_true rfl) rfl (m_M_isParty e_x1) ?_
  change zPJ X 0 0 _ _ [.int x1] _
  refine zj_if_ne (tgt := 10) o (zdd k_M_book 3 rfl) (by decide) (fun hc => ?_) (fun hc => ?_)
  · rw [if_neg hc] at h
    refine zj_aload_n o (zdd k_M_book 6 rfl) rfl 0 rfl ?_
    obtain ⟨σ2, e_σ2, h⟩ := zbd h
    refine zc_V o (zdd k_M_book 7 rfl) ml_M_490 mv_M_layAll ⟨rfl, by decide⟩ (zg_some e_σ2).1 (by decide) [] [] rfl (Nat.le_of_ble_eq_true rfl) rfl (m_M_layAll e_σ2) ?_
    change zPJ X 0 0 _ _ [] _
    refine zj_aload_n o (zdd k_M_book 8 rfl) rfl 0 rfl ?_
    refine zj_iload_n o (zdd k_M_book 9 rfl) rfl 1 rfl ?_
    obtain ⟨σ3, e_σ3, h⟩ := zbd h
    refine zc_V o (zdd k_M_book 10 rfl) ml_M_493 mv_M_layOrder ⟨rfl, by decide⟩ (zg_some e_σ3).1 (by decide) [.int p0] [] rfl (Nat.le_of_ble_eq_true rfl) rfl (m_M_layOrder e_σ3) ?_
    change zPJ X 0 0 _ _ [] _
    refine zj_iload_n o (zdd k_M_book 11 rfl) rfl 2 rfl ?_
    refine zj_iconst o (zdd k_M_book 12 rfl) zki_0 ?_
    refine zj_aload_n o (zdd k_M_book 13 rfl) rfl 0 rfl ?_
    obtain ⟨x4, e_x4, h⟩ := zbd h
    refine zj_gI o (zdd k_M_book 14 rfl) fl_M_460 rfl e_x4 ?_
    refine zj_iconst o (zdd k_M_book 15 rfl) zki_1 ?_
    refine zj_isub o (zdd k_M_book 16 rfl) ?_
    obtain ⟨x5, e_x5, h⟩ := zbd h
    refine zc_S o (zdd k_M_book 17 rfl) ml_M_425 ms_M_isIn (by decide) [.int p1, .int 0, .int (x4 - 1)] [] rfl (Nat.le_of_ble_eq_true rfl) rfl (m_M_isIn e_x5) ?_
    change zPJ X 0 0 _ _ [.int x5] _
    refine zj_if_eq (tgt := 42) o (zdd k_M_book 18 rfl) (by decide) (fun hc => ?_) (fun hc => ?_)
    · rw [if_pos hc] at h
      refine zj_iconst o (zdd k_M_book 24 rfl) zki_m1 ?_
      cases h
      exact zr_i o hr (zdd k_M_book 25 rfl)
    · rw [if_neg hc] at h
      refine zj_aload_n o (zdd k_M_book 19 rfl) rfl 0 rfl ?_
      obtain ⟨a6, e_a6, h⟩ := zbd h
      refine zj_gP o (zdd k_M_book 20 rfl) fl_M_87 rfl e_a6 ?_
      refine zj_iload_n o (zdd k_M_book 21 rfl) rfl 2 rfl ?_
      obtain ⟨x7, e_x7, h⟩ := zbd h
      refine zj_iald o (zdd k_M_book 22 rfl) e_x7 ?_
      refine zj_goto (tgt := 43) o (zdd k_M_book 23 rfl) (by decide) ?_
      cases h
      exact zr_i o hr (zdd k_M_book 25 rfl)
  · rw [if_pos hc] at h
    refine zj_iconst o (zdd k_M_book 4 rfl) zki_m1 ?_
    cases h
    exact zr_i o hr (zdd k_M_book 5 rfl)
def f_M_steps (σ : zSt) (t : Nat) (p0 : Int32) : Option (Int32 × zSt) :=
zg σ 12 t (
(f_M_isBook σ t p0).bind fun x1 =>
if x1 = 0 then (
some ((-1), σ)) else
(f_M_isOut σ t p0).bind fun x2 =>
if x2 = 0 then (
(f_M_layAll σ t).bind fun σ3 =>
(zgP σ3 12 t 49).bind fun a4 =>
(zaI σ3 1 a4 30).bind fun x5 =>
(f_M_layOrder σ3 t x5).bind fun σ6 =>
(zgP σ6 12 t 53).bind fun a7 =>
(zaI σ6 1 a7 p0).bind fun x8 =>
(f_M_stepsTo σ6 t x8).bind fun x9 =>
some (x9, σ6)) else
some ((-1), σ))
set_option maxRecDepth 100000 in
set_option maxHeartbeats 4000000 in
theorem m_M_steps {l : Launch} {b : Nat} {ex : Nat → Value} {D : va_G} {ca : Nat → ClassId} {σ : zSt} {t : Nat} {p0 : Int32} {z : Int32 × zSt} (h : f_M_steps σ t p0 = some z) : zMT l b ex D ca 8 y_M_steps c_M_steps n_M_steps r_ret_M_steps [.ref t, .int p0] σ (some (.int z.1)) z.2 0 0 := by
  obtain ⟨_, hg0⟩ := zg_some h
  have h := hg0
  refine zmt_of (by decide) (Nat.le_of_ble_eq_true rfl) ⟨.int, rfl, rfl⟩ (fun X o hin hrm _ _ _ _ _ hr => ?_)
  have hr := hr 0 0 (by decide) (by decide)
  have o : zOK X "WantShelvesModel" c_M_steps n_M_steps 8 := o
  change zPJ X 0 0 0 [(0, .ref t), (1, .int p0)] [] σ
  refine zj_aload_n o (zdd k_M_steps 0 rfl) rfl 0 rfl ?_
  refine zj_iload_n o (zdd k_M_steps 1 rfl) rfl 1 rfl ?_
  obtain ⟨x1, e_x1, h⟩ := zbd h
  refine zc_V o (zdd k_M_steps 2 rfl) ml_M_435 mv_M_isBook ⟨rfl, by decide⟩ (zg_some e_x1).1 (by decide) [.int p0] [] rfl (Nat.le_of_ble_eq_true rfl) rfl (m_M_isBook e_x1) ?_
  change zPJ X 0 0 _ _ [.int x1] _
  refine zj_if_eq (tgt := 16) o (zdd k_M_steps 3 rfl) (by decide) (fun hc => ?_) (fun hc => ?_)
  · rw [if_pos hc] at h
    refine zj_iconst o (zdd k_M_steps 8 rfl) zki_m1 ?_
    cases h
    exact zr_i o hr (zdd k_M_steps 9 rfl)
  · rw [if_neg hc] at h
    refine zj_aload_n o (zdd k_M_steps 4 rfl) rfl 0 rfl ?_
    refine zj_iload_n o (zdd k_M_steps 5 rfl) rfl 1 rfl ?_
    obtain ⟨x2, e_x2, h⟩ := zbd h
    refine zc_V o (zdd k_M_steps 6 rfl) ml_M_463 mv_M_isOut ⟨rfl, by decide⟩ (zg_some e_x2).1 (by decide) [.int p0] [] rfl (Nat.le_of_ble_eq_true rfl) rfl (m_M_isOut e_x2) ?_
    change zPJ X 0 0 _ _ [.int x2] _
    refine zj_if_eq (tgt := 18) o (zdd k_M_steps 7 rfl) (by decide) (fun hc => ?_) (fun hc => ?_)
    · rw [if_pos hc] at h
      refine zj_aload_n o (zdd k_M_steps 10 rfl) rfl 0 rfl ?_
      obtain ⟨σ3, e_σ3, h⟩ := zbd h
      refine zc_V o (zdd k_M_steps 11 rfl) ml_M_490 mv_M_layAll ⟨rfl, by decide⟩ (zg_some e_σ3).1 (by decide) [] [] rfl (Nat.le_of_ble_eq_true rfl) rfl (m_M_layAll e_σ3) ?_
      change zPJ X 0 0 _ _ [] _
      refine zj_aload_n o (zdd k_M_steps 12 rfl) rfl 0 rfl ?_
      refine zj_aload_n o (zdd k_M_steps 13 rfl) rfl 0 rfl ?_
      obtain ⟨a4, e_a4, h⟩ := zbd h
      refine zj_gP o (zdd k_M_steps 14 rfl) fl_M_78 rfl e_a4 ?_
      refine zj_bipush o (zdd k_M_steps 15 rfl) zkb_30 ?_
      obtain ⟨x5, e_x5, h⟩ := zbd h
      refine zj_iald o (zdd k_M_steps 16 rfl) e_x5 ?_
      obtain ⟨σ6, e_σ6, h⟩ := zbd h
      refine zc_V o (zdd k_M_steps 17 rfl) ml_M_493 mv_M_layOrder ⟨rfl, by decide⟩ (zg_some e_σ6).1 (by decide) [.int x5] [] rfl (Nat.le_of_ble_eq_true rfl) rfl (m_M_layOrder e_σ6) ?_
      change zPJ X 0 0 _ _ [] _
      refine zj_aload_n o (zdd k_M_steps 18 rfl) rfl 0 rfl ?_
      refine zj_aload_n o (zdd k_M_steps 19 rfl) rfl 0 rfl ?_
      obtain ⟨a7, e_a7, h⟩ := zbd h
      refine zj_gP o (zdd k_M_steps 20 rfl) fl_M_90 rfl e_a7 ?_
      refine zj_iload_n o (zdd k_M_steps 21 rfl) rfl 1 rfl ?_
      obtain ⟨x8, e_x8, h⟩ := zbd h
      refine zj_iald o (zdd k_M_steps 22 rfl) e_x8 ?_
      obtain ⟨x9, e_x9, h⟩ := zbd h
      refine zc_V o (zdd k_M_steps 23 rfl) ml_M_496 mv_M_stepsTo ⟨rfl, by decide⟩ (zg_some e_x9).1 (by decide) [.int x8] [] rfl (Nat.le_of_ble_eq_true rfl) rfl (m_M_stepsTo e_x9) ?_
      change zPJ X 0 0 _ _ [.int x9] _
      cases h
      exact zr_i o hr (zdd k_M_steps 24 rfl)
    · rw [if_neg hc] at h
      refine zj_iconst o (zdd k_M_steps 8 rfl) zki_m1 ?_
      cases h
      exact zr_i o hr (zdd k_M_steps 9 rfl)
def f_M_act_83 (σ : zSt) (v0 : Nat) : Option (zSt) :=
(zgI σ 12 v0 56).bind fun x1 =>
(zsI σ 12 v0 56 (x1 + 1)).bind fun σ2 =>
(zsI σ2 12 v0 57 0).bind fun σ3 =>
some σ3
set_option maxRecDepth 100000 in
set_option maxHeartbeats 4000000 in
theorem r_M_act_83 {X : zCX} (o : zOK X "WantShelvesModel" c_M_act n_M_act 1) {σ : zSt} {v0 : Nat} {z : zSt} (h : f_M_act_83 σ v0 = some z) (hr : zRX X 0 0 none z) : zPJ X 0 0 83 [(0, .ref v0)] [] σ := by
  unfold f_M_act_83 at h
  refine zj_aload_n o (zdd k_M_act 47 rfl) rfl 0 rfl ?_
  refine zj_dup o (zdd k_M_act 48 rfl) rfl ?_
  obtain ⟨x1, e_x1, h⟩ := zbd h
  refine zj_gI o (zdd k_M_act 49 rfl) fl_M_410 rfl e_x1 ?_
  refine zj_iconst o (zdd k_M_act 50 rfl) zki_1 ?_
  refine zj_iadd o (zdd k_M_act 51 rfl) ?_
  obtain ⟨σ2, e_σ2, h⟩ := zbd h
  refine zj_pI o (zdd k_M_act 52 rfl) fl_M_410 rfl rfl e_σ2 ?_
  refine zj_aload_n o (zdd k_M_act 53 rfl) rfl 0 rfl ?_
  refine zj_iconst o (zdd k_M_act 54 rfl) zki_0 ?_
  obtain ⟨σ3, e_σ3, h⟩ := zbd h
  refine zj_pI o (zdd k_M_act 55 rfl) fl_M_413 rfl rfl e_σ3 ?_
  cases h
  exact zr_v o hr (zdd k_M_act 56 rfl)
def f_M_act_51 (k51 : zSt → Nat → Int32 → Option (zSt)) (σ : zSt) (v0 : Nat) (v1 : Int32) : Option (zSt) :=
if 92 ≤ v1 then (
f_M_act_83 σ v0) else
(zgP σ 12 v0 55).bind fun a1 =>
(zgI σ 12 v0 56).bind fun x2 =>
(zgP σ 12 v0 49).bind fun a3 =>
(zaI σ 1 a3 v1).bind fun x4 =>
(zwI σ 1 a1 ((96 * x2) + v1) x4).bind fun σ5 =>
k51 σ5 v0 (v1 + 1)
set_option maxRecDepth 100000 in
set_option maxHeartbeats 4000000 in
theorem r_M_act_51 {X : zCX} (o : zOK X "WantShelvesModel" c_M_act n_M_act 1) {k51 : zSt → Nat → Int32 → Option (zSt)} (hk51 : ∀ {σ : zSt} {v0 : Nat} {v1 : Int32} {z : zSt}, k51 σ v0 v1 = some z → zRX X 0 0 none z → zPJ X 0 0 51 [(0, .ref v0), (1, .int v1)] [] σ) {σ : zSt} {v0 : Nat} {v1 : Int32} {z : zSt} (h : f_M_act_51 k51 σ v0 v1 = some z) (hr : zRX X 0 0 none z) : zPJ X 0 0 51 [(0, .ref v0), (1, .int v1)] [] σ := by
  unfold f_M_act_51 at h
  refine zj_iload_n o (zdd k_M_act 29 rfl) rfl 1 rfl ?_
  refine zj_bipush o (zdd k_M_act 30 rfl) zkb_92 ?_
  refine zj_icmp_ge (tgt := 83) o (zdd k_M_act 31 rfl) (by decide) (fun hc => ?_) (fun hc => ?_)
  · rw [if_pos hc] at h
    exact zj_sub [0] rfl (r_M_act_83 o  h hr)
  · rw [if_neg hc] at h
    refine zj_aload_n o (zdd k_M_act 32 rfl) rfl 0 rfl ?_
    obtain ⟨a1, e_a1, h⟩ := zbd h
    refine zj_gP o (zdd k_M_act 33 rfl) fl_M_93 rfl e_a1 ?_
    refine zj_bipush o (zdd k_M_act 34 rfl) zkb_96 ?_
    refine zj_aload_n o (zdd k_M_act 35 rfl) rfl 0 rfl ?_
    obtain ⟨x2, e_x2, h⟩ := zbd h
    refine zj_gI o (zdd k_M_act 36 rfl) fl_M_410 rfl e_x2 ?_
    refine zj_imul o (zdd k_M_act 37 rfl) ?_
    refine zj_iload_n o (zdd k_M_act 38 rfl) rfl 1 rfl ?_
    refine zj_iadd o (zdd k_M_act 39 rfl) ?_
    refine zj_aload_n o (zdd k_M_act 40 rfl) rfl 0 rfl ?_
    obtain ⟨a3, e_a3, h⟩ := zbd h
    refine zj_gP o (zdd k_M_act 41 rfl) fl_M_78 rfl e_a3 ?_
    refine zj_iload_n o (zdd k_M_act 42 rfl) rfl 1 rfl ?_
    obtain ⟨x4, e_x4, h⟩ := zbd h
    refine zj_iald o (zdd k_M_act 43 rfl) e_x4 ?_
    obtain ⟨σ5, e_σ5, h⟩ := zbd h
    refine zj_iast o (zdd k_M_act 44 rfl) e_σ5 ?_
    refine zj_iinc (v := v1 + 1) (loc' := [(1, .int (v1 + 1)), (0, .ref v0)]) o (zdd k_M_act 45 rfl) 1 rfl (by rw [zki_1]) (by decide) rfl ?_
    refine zj_goto (tgt := 51) o (zdd k_M_act 46 rfl) (by decide) ?_
    exact zj_sub [1, 0] rfl (hk51 h hr)
def f_M_act_51L : Nat → zSt → Nat → Int32 → Option (zSt)
  | 0 => fun _ _ _ => none
  | n + 1 => f_M_act_51  (f_M_act_51L  n)
theorem r_M_act_51L {X : zCX} (o : zOK X "WantShelvesModel" c_M_act n_M_act 1) : ∀ (n : Nat) {σ : zSt} {v0 : Nat} {v1 : Int32} {z : zSt}, f_M_act_51L n σ v0 v1 = some z → zRX X 0 0 none z → zPJ X 0 0 51 [(0, .ref v0), (1, .int v1)] [] σ
  | 0 => fun h _ => by cases h
  | n + 1 => fun h hr => r_M_act_51 o (r_M_act_51L o  n) h hr
def f_M_act_39 (σ : zSt) (v0 : Nat) : Option (zSt) :=
(zgI σ 12 v0 56).bind fun x1 =>
(zsI σ 12 v0 56 (x1 - 1)).bind fun σ2 =>
f_M_act_51L zfu σ2 v0 0
set_option maxRecDepth 100000 in
set_option maxHeartbeats 4000000 in
theorem r_M_act_39 {X : zCX} (o : zOK X "WantShelvesModel" c_M_act n_M_act 1) {σ : zSt} {v0 : Nat} {z : zSt} (h : f_M_act_39 σ v0 = some z) (hr : zRX X 0 0 none z) : zPJ X 0 0 39 [(0, .ref v0)] [] σ := by
  unfold f_M_act_39 at h
  refine zj_aload_n o (zdd k_M_act 21 rfl) rfl 0 rfl ?_
  refine zj_dup o (zdd k_M_act 22 rfl) rfl ?_
  obtain ⟨x1, e_x1, h⟩ := zbd h
  refine zj_gI o (zdd k_M_act 23 rfl) fl_M_410 rfl e_x1 ?_
  refine zj_iconst o (zdd k_M_act 24 rfl) zki_1 ?_
  refine zj_isub o (zdd k_M_act 25 rfl) ?_
  obtain ⟨σ2, e_σ2, h⟩ := zbd h
  refine zj_pI o (zdd k_M_act 26 rfl) fl_M_410 rfl rfl e_σ2 ?_
  refine zj_iconst o (zdd k_M_act 27 rfl) zki_0 ?_
  refine zj_istore_n (loc' := [(1, .int 0), (0, .ref v0)]) o (zdd k_M_act 28 rfl) rfl (by decide) rfl ?_
  exact zj_sub [1, 0] rfl (r_M_act_51L o  zfu h hr)
def f_M_act_11 (k11 : zSt → Nat → Int32 → Option (zSt)) (σ : zSt) (v0 : Nat) (v1 : Int32) : Option (zSt) :=
if 3744 ≤ v1 then (
f_M_act_39 σ v0) else
(zgP σ 12 v0 55).bind fun a1 =>
(zgP σ 12 v0 55).bind fun a2 =>
(zaI σ 1 a2 (96 + v1)).bind fun x3 =>
(zwI σ 1 a1 v1 x3).bind fun σ4 =>
k11 σ4 v0 (v1 + 1)
set_option maxRecDepth 100000 in
set_option maxHeartbeats 4000000 in
theorem r_M_act_11 {X : zCX} (o : zOK X "WantShelvesModel" c_M_act n_M_act 1) {k11 : zSt → Nat → Int32 → Option (zSt)} (hk11 : ∀ {σ : zSt} {v0 : Nat} {v1 : Int32} {z : zSt}, k11 σ v0 v1 = some z → zRX X 0 0 none z → zPJ X 0 0 11 [(0, .ref v0), (1, .int v1)] [] σ) {σ : zSt} {v0 : Nat} {v1 : Int32} {z : zSt} (h : f_M_act_11 k11 σ v0 v1 = some z) (hr : zRX X 0 0 none z) : zPJ X 0 0 11 [(0, .ref v0), (1, .int v1)] [] σ := by
  unfold f_M_act_11 at h
  refine zj_iload_n o (zdd k_M_act 6 rfl) rfl 1 rfl ?_
  refine zj_sipush o (zdd k_M_act 7 rfl) zks_3744 ?_
  refine zj_icmp_ge (tgt := 39) o (zdd k_M_act 8 rfl) (by decide) (fun hc => ?_) (fun hc => ?_)
  · rw [if_pos hc] at h
    exact zj_sub [0] rfl (r_M_act_39 o  h hr)
  · rw [if_neg hc] at h
    refine zj_aload_n o (zdd k_M_act 9 rfl) rfl 0 rfl ?_
    obtain ⟨a1, e_a1, h⟩ := zbd h
    refine zj_gP o (zdd k_M_act 10 rfl) fl_M_93 rfl e_a1 ?_
    refine zj_iload_n o (zdd k_M_act 11 rfl) rfl 1 rfl ?_
    refine zj_aload_n o (zdd k_M_act 12 rfl) rfl 0 rfl ?_
    obtain ⟨a2, e_a2, h⟩ := zbd h
    refine zj_gP o (zdd k_M_act 13 rfl) fl_M_93 rfl e_a2 ?_
    refine zj_bipush o (zdd k_M_act 14 rfl) zkb_96 ?_
    refine zj_iload_n o (zdd k_M_act 15 rfl) rfl 1 rfl ?_
    refine zj_iadd o (zdd k_M_act 16 rfl) ?_
    obtain ⟨x3, e_x3, h⟩ := zbd h
    refine zj_iald o (zdd k_M_act 17 rfl) e_x3 ?_
    obtain ⟨σ4, e_σ4, h⟩ := zbd h
    refine zj_iast o (zdd k_M_act 18 rfl) e_σ4 ?_
    refine zj_iinc (v := v1 + 1) (loc' := [(1, .int (v1 + 1)), (0, .ref v0)]) o (zdd k_M_act 19 rfl) 1 rfl (by rw [zki_1]) (by decide) rfl ?_
    refine zj_goto (tgt := 11) o (zdd k_M_act 20 rfl) (by decide) ?_
    exact zj_sub [1, 0] rfl (hk11 h hr)
def f_M_act_11L : Nat → zSt → Nat → Int32 → Option (zSt)
  | 0 => fun _ _ _ => none
  | n + 1 => f_M_act_11  (f_M_act_11L  n)
theorem r_M_act_11L {X : zCX} (o : zOK X "WantShelvesModel" c_M_act n_M_act 1) : ∀ (n : Nat) {σ : zSt} {v0 : Nat} {v1 : Int32} {z : zSt}, f_M_act_11L n σ v0 v1 = some z → zRX X 0 0 none z → zPJ X 0 0 11 [(0, .ref v0), (1, .int v1)] [] σ
  | 0 => fun h _ => by cases h
  | n + 1 => fun h hr => r_M_act_11 o (r_M_act_11L o  n) h hr
def f_M_act (σ : zSt) (t : Nat) : Option (zSt) :=
zg σ 12 t (
(zgI σ 12 t 56).bind fun x1 =>
if x1 = 40 then (
f_M_act_11L zfu σ t 0) else
f_M_act_51L zfu σ t 0)
set_option maxRecDepth 100000 in
set_option maxHeartbeats 4000000 in
theorem m_M_act {l : Launch} {b : Nat} {ex : Nat → Value} {D : va_G} {ca : Nat → ClassId} {σ : zSt} {t : Nat} {z : zSt} (h : f_M_act σ t = some z) : zMT l b ex D ca 1 y_M_act c_M_act n_M_act r_ret_M_act [.ref t] σ none z 0 0 := by
  obtain ⟨_, hg0⟩ := zg_some h
  have h := hg0
  refine zmt_of (by decide) (Nat.le_of_ble_eq_true rfl) rfl (fun X o hin hrm _ _ _ _ _ hr => ?_)
  have hr := hr 0 0 (by decide) (by decide)
  have o : zOK X "WantShelvesModel" c_M_act n_M_act 1 := o
  change zPJ X 0 0 0 [(0, .ref t)] [] σ
  refine zj_aload_n o (zdd k_M_act 0 rfl) rfl 0 rfl ?_
  obtain ⟨x1, e_x1, h⟩ := zbd h
  refine zj_gI o (zdd k_M_act 1 rfl) fl_M_410 rfl e_x1 ?_
  refine zj_bipush o (zdd k_M_act 2 rfl) zkb_40 ?_
  refine zj_icmp_ne (tgt := 49) o (zdd k_M_act 3 rfl) (by decide) (fun hc => ?_) (fun hc => ?_)
  · rw [if_neg hc] at h
    refine zj_iconst o (zdd k_M_act 27 rfl) zki_0 ?_
    refine zj_istore_n (loc' := [(1, .int 0), (0, .ref t)]) o (zdd k_M_act 28 rfl) rfl (by decide) rfl ?_
    exact zj_sub [1, 0] rfl (r_M_act_51L o  zfu h hr)
  · rw [if_pos hc] at h
    refine zj_iconst o (zdd k_M_act 4 rfl) zki_0 ?_
    refine zj_istore_n (loc' := [(1, .int 0), (0, .ref t)]) o (zdd k_M_act 5 rfl) rfl (by decide) rfl ?_
    exact zj_sub [1, 0] rfl (r_M_act_11L o  zfu h hr)
def f_M_exchange_2 (k2 : zSt → Nat → Int32 → Int32 → Option (zSt)) (σ : zSt) (v0 : Nat) (v1 : Int32) (v2 : Int32) : Option (zSt) :=
if 92 ≤ v2 then (
some σ) else
(zgP σ 12 v0 55).bind fun a1 =>
(zaI σ 1 a1 (v1 + v2)).bind fun x2 =>
(zgP σ 12 v0 55).bind fun a3 =>
(zgP σ 12 v0 49).bind fun a4 =>
(zaI σ 1 a4 v2).bind fun x5 =>
(zwI σ 1 a3 (v1 + v2) x5).bind fun σ6 =>
(zgP σ6 12 v0 49).bind fun a7 =>
(zwI σ6 1 a7 v2 x2).bind fun σ8 =>
k2 σ8 v0 v1 (v2 + 1)
set_option maxRecDepth 100000 in
set_option maxHeartbeats 4000000 in
theorem r_M_exchange_2 {X : zCX} (o : zOK X "WantShelvesModel" c_M_exchange n_M_exchange 1) {k2 : zSt → Nat → Int32 → Int32 → Option (zSt)} (hk2 : ∀ {σ : zSt} {v0 : Nat} {v1 : Int32} {v2 : Int32} {z : zSt}, k2 σ v0 v1 v2 = some z → zRX X 0 0 none z → zPJ X 0 0 2 [(0, .ref v0), (1, .int v1), (2, .int v2)] [] σ) {σ : zSt} {v0 : Nat} {v1 : Int32} {v2 : Int32} {z : zSt} (h : f_M_exchange_2 k2 σ v0 v1 v2 = some z) (hr : zRX X 0 0 none z) : zPJ X 0 0 2 [(0, .ref v0), (1, .int v1), (2, .int v2)] [] σ := by
  unfold f_M_exchange_2 at h
  refine zj_iload_n o (zdd k_M_exchange 2 rfl) rfl 2 rfl ?_
  refine zj_bipush o (zdd k_M_exchange 3 rfl) zkb_92 ?_
  refine zj_icmp_ge (tgt := 44) o (zdd k_M_exchange 4 rfl) (by decide) (fun hc => ?_) (fun hc => ?_)
  · rw [if_pos hc] at h
    cases h
    exact zr_v o hr (zdd k_M_exchange 29 rfl)
  · rw [if_neg hc] at h
    refine zj_aload_n o (zdd k_M_exchange 5 rfl) rfl 0 rfl ?_
    obtain ⟨a1, e_a1, h⟩ := zbd h
    refine zj_gP o (zdd k_M_exchange 6 rfl) fl_M_93 rfl e_a1 ?_
    refine zj_iload_n o (zdd k_M_exchange 7 rfl) rfl 1 rfl ?_
    refine zj_iload_n o (zdd k_M_exchange 8 rfl) rfl 2 rfl ?_
    refine zj_iadd o (zdd k_M_exchange 9 rfl) ?_
    obtain ⟨x2, e_x2, h⟩ := zbd h
    refine zj_iald o (zdd k_M_exchange 10 rfl) e_x2 ?_
    refine zj_istore_n (loc' := [(3, .int x2), (0, .ref v0), (1, .int v1), (2, .int v2)]) o (zdd k_M_exchange 11 rfl) rfl (by decide) rfl ?_
    refine zj_aload_n o (zdd k_M_exchange 12 rfl) rfl 1 rfl ?_
    obtain ⟨a3, e_a3, h⟩ := zbd h
    refine zj_gP o (zdd k_M_exchange 13 rfl) fl_M_93 rfl e_a3 ?_
    refine zj_iload_n o (zdd k_M_exchange 14 rfl) rfl 2 rfl ?_
    refine zj_iload_n o (zdd k_M_exchange 15 rfl) rfl 3 rfl ?_
    refine zj_iadd o (zdd k_M_exchange 16 rfl) ?_
    refine zj_aload_n o (zdd k_M_exchange 17 rfl) rfl 1 rfl ?_
    obtain ⟨a4, e_a4, h⟩ := zbd h
    refine zj_gP o (zdd k_M_exchange 18 rfl) fl_M_78 rfl e_a4 ?_
    refine zj_iload_n o (zdd k_M_exchange 19 rfl) rfl 3 rfl ?_
    obtain ⟨x5, e_x5, h⟩ := zbd h
    refine zj_iald o (zdd k_M_exchange 20 rfl) e_x5 ?_
    obtain ⟨σ6, e_σ6, h⟩ := zbd h
    refine zj_iast o (zdd k_M_exchange 21 rfl) e_σ6 ?_
    refine zj_aload_n o (zdd k_M_exchange 22 rfl) rfl 1 rfl ?_
    obtain ⟨a7, e_a7, h⟩ := zbd h
    refine zj_gP o (zdd k_M_exchange 23 rfl) fl_M_78 rfl e_a7 ?_
    refine zj_iload_n o (zdd k_M_exchange 24 rfl) rfl 3 rfl ?_
    refine zj_iload_n o (zdd k_M_exchange 25 rfl) rfl 0 rfl ?_
    obtain ⟨σ8, e_σ8, h⟩ := zbd h
    refine zj_iast o (zdd k_M_exchange 26 rfl) e_σ8 ?_
    refine zj_iinc (v := v2 + 1) (loc' := [(2, .int (v2 + 1)), (3, .int x2), (0, .ref v0), (1, .int v1)]) o (zdd k_M_exchange 27 rfl) 3 rfl (by rw [zki_1]) (by decide) rfl ?_
    refine zj_goto (tgt := 2) o (zdd k_M_exchange 28 rfl) (by decide) ?_
    exact zj_sub [2, 3, 0] rfl (hk2 h hr)
def f_M_exchange_2L : Nat → zSt → Nat → Int32 → Int32 → Option (zSt)
  | 0 => fun _ _ _ _ => none
  | n + 1 => f_M_exchange_2  (f_M_exchange_2L  n)
theorem r_M_exchange_2L {X : zCX} (o : zOK X "WantShelvesModel" c_M_exchange n_M_exchange 1) : ∀ (n : Nat) {σ : zSt} {v0 : Nat} {v1 : Int32} {v2 : Int32} {z : zSt}, f_M_exchange_2L n σ v0 v1 v2 = some z → zRX X 0 0 none z → zPJ X 0 0 2 [(0, .ref v0), (1, .int v1), (2, .int v2)] [] σ
  | 0 => fun h _ => by cases h
  | n + 1 => fun h hr => r_M_exchange_2 o (r_M_exchange_2L o  n) h hr
def f_M_exchange (σ : zSt) (t : Nat) (p0 : Int32) : Option (zSt) :=
zg σ 12 t (
f_M_exchange_2L zfu σ t p0 0)
set_option maxRecDepth 100000 in
set_option maxHeartbeats 4000000 in
theorem m_M_exchange {l : Launch} {b : Nat} {ex : Nat → Value} {D : va_G} {ca : Nat → ClassId} {σ : zSt} {t : Nat} {p0 : Int32} {z : zSt} (h : f_M_exchange σ t p0 = some z) : zMT l b ex D ca 1 y_M_exchange c_M_exchange n_M_exchange r_ret_M_exchange [.ref t, .int p0] σ none z 0 0 := by
  obtain ⟨_, hg0⟩ := zg_some h
  have h := hg0
  refine zmt_of (by decide) (Nat.le_of_ble_eq_true rfl) rfl (fun X o hin hrm _ _ _ _ _ hr => ?_)
  have hr := hr 0 0 (by decide) (by decide)
  have o : zOK X "WantShelvesModel" c_M_exchange n_M_exchange 1 := o
  change zPJ X 0 0 0 [(0, .ref t), (1, .int p0)] [] σ
  refine zj_iconst o (zdd k_M_exchange 0 rfl) zki_0 ?_
  refine zj_istore_n (loc' := [(2, .int 0), (0, .ref t), (1, .int p0)]) o (zdd k_M_exchange 1 rfl) rfl (by decide) rfl ?_
  exact zj_sub [1, 2, 0] rfl (r_M_exchange_2L o  zfu h hr)
def f_M_comes (σ : zSt) (t : Nat) (p0 : Int32) : Option (Int32 × zSt) :=
zg σ 12 t (
(f_M_isReader σ t p0).bind fun x1 =>
if x1 = 0 then (
some ((-1), σ)) else
(f_M_act σ t).bind fun σ2 =>
(zgP σ2 12 t 49).bind fun a3 =>
(zaI σ2 1 a3 30).bind fun x4 =>
(zwI σ2 1 a3 30 (x4 ^^^ (1 <<< (p0 &&& 31)))).bind fun σ5 =>
(zgP σ5 12 t 49).bind fun a6 =>
(zaI σ5 1 a6 30).bind fun x7 =>
some ((x7 >>> (p0 &&& 31)) &&& 1, σ5))
set_option maxRecDepth 100000 in
set_option maxHeartbeats 4000000 in
theorem m_M_comes {l : Launch} {b : Nat} {ex : Nat → Value} {D : va_G} {ca : Nat → ClassId} {σ : zSt} {t : Nat} {p0 : Int32} {z : Int32 × zSt} (h : f_M_comes σ t p0 = some z) : zMT l b ex D ca 3 y_M_comes c_M_comes n_M_comes r_ret_M_comes [.ref t, .int p0] σ (some (.int z.1)) z.2 0 0 := by
  obtain ⟨_, hg0⟩ := zg_some h
  have h := hg0
  refine zmt_of (by decide) (Nat.le_of_ble_eq_true rfl) ⟨.int, rfl, rfl⟩ (fun X o hin hrm _ _ _ _ _ hr => ?_)
  have hr := hr 0 0 (by decide) (by decide)
  have o : zOK X "WantShelvesModel" c_M_comes n_M_comes 3 := o
  change zPJ X 0 0 0 [(0, .ref t), (1, .int p0)] [] σ
  refine zj_aload_n o (zdd k_M_comes 0 rfl) rfl 0 rfl ?_
  refine zj_iload_n o (zdd k_M_comes 1 rfl) rfl 1 rfl ?_
  obtain ⟨x1, e_x1, h⟩ := zbd h
  refine zc_V o (zdd k_M_comes 2 rfl) ml_M_441 mv_M_isReader ⟨rfl, by decide⟩ (zg_some e_x1).1 (by decide) [.int p0] [] rfl (Nat.le_of_ble_eq_true rfl) rfl (m_M_isReader e_x1) ?_
  change zPJ X 0 0 _ _ [.int x1] _
  refine zj_if_ne (tgt := 10) o (zdd k_M_comes 3 rfl) (by decide) (fun hc => ?_) (fun hc => ?_)
  · rw [if_neg hc] at h
    refine zj_aload_n o (zdd k_M_comes 6 rfl) rfl 0 rfl ?_
    obtain ⟨σ2, e_σ2, h⟩ := zbd h
    refine zc_V o (zdd k_M_comes 7 rfl) ml_M_499 mv_M_act ⟨rfl, by decide⟩ (zg_some e_σ2).1 (by decide) [] [] rfl (Nat.le_of_ble_eq_true rfl) rfl (m_M_act e_σ2) ?_
    change zPJ X 0 0 _ _ [] _
    refine zj_aload_n o (zdd k_M_comes 8 rfl) rfl 0 rfl ?_
    obtain ⟨a3, e_a3, h⟩ := zbd h
    refine zj_gP o (zdd k_M_comes 9 rfl) fl_M_78 rfl e_a3 ?_
    refine zj_bipush o (zdd k_M_comes 10 rfl) zkb_30 ?_
    refine zj_dup2 o (zdd k_M_comes 11 rfl) rfl rfl ?_
    obtain ⟨x4, e_x4, h⟩ := zbd h
    refine zj_iald o (zdd k_M_comes 12 rfl) e_x4 ?_
    refine zj_iconst o (zdd k_M_comes 13 rfl) zki_1 ?_
    refine zj_iload_n o (zdd k_M_comes 14 rfl) rfl 1 rfl ?_
    refine zj_ishl o (zdd k_M_comes 15 rfl) ?_
    refine zj_ixor o (zdd k_M_comes 16 rfl) ?_
    obtain ⟨σ5, e_σ5, h⟩ := zbd h
    refine zj_iast o (zdd k_M_comes 17 rfl) e_σ5 ?_
    refine zj_aload_n o (zdd k_M_comes 18 rfl) rfl 0 rfl ?_
    obtain ⟨a6, e_a6, h⟩ := zbd h
    refine zj_gP o (zdd k_M_comes 19 rfl) fl_M_78 rfl e_a6 ?_
    refine zj_bipush o (zdd k_M_comes 20 rfl) zkb_30 ?_
    obtain ⟨x7, e_x7, h⟩ := zbd h
    refine zj_iald o (zdd k_M_comes 21 rfl) e_x7 ?_
    refine zj_iload_n o (zdd k_M_comes 22 rfl) rfl 1 rfl ?_
    refine zj_ishr o (zdd k_M_comes 23 rfl) ?_
    refine zj_iconst o (zdd k_M_comes 24 rfl) zki_1 ?_
    refine zj_iand o (zdd k_M_comes 25 rfl) ?_
    cases h
    exact zr_i o hr (zdd k_M_comes 26 rfl)
  · rw [if_pos hc] at h
    refine zj_iconst o (zdd k_M_comes 4 rfl) zki_m1 ?_
    cases h
    exact zr_i o hr (zdd k_M_comes 5 rfl)
def f_M_mood_24 (σ : zSt) (v0 : Nat) (v1 : Int32) (v2 : Int32) : Option (Int32 × zSt) :=
(f_M_act σ v0).bind fun σ1 =>
(zgP σ1 12 v0 49).bind fun a2 =>
(zaI σ1 1 a2 (24 + v1)).bind fun x3 =>
(zgP σ1 12 v0 49).bind fun a4 =>
(zwI σ1 1 a4 (24 + v1) v2).bind fun σ5 =>
some (x3, σ5)
set_option maxRecDepth 100000 in
set_option maxHeartbeats 4000000 in
theorem r_M_mood_24 {X : zCX} (o : zOK X "WantShelvesModel" c_M_mood n_M_mood 3) {σ : zSt} {v0 : Nat} {v1 : Int32} {v2 : Int32} {z : Int32 × zSt} (h : f_M_mood_24 σ v0 v1 v2 = some z) (hr : zRX X 0 0 (some (.int z.1)) z.2) : zPJ X 0 0 24 [(0, .ref v0), (1, .int v1), (2, .int v2)] [] σ := by
  unfold f_M_mood_24 at h
  refine zj_aload_n o (zdd k_M_mood 13 rfl) rfl 0 rfl ?_
  obtain ⟨σ1, e_σ1, h⟩ := zbd h
  refine zc_V o (zdd k_M_mood 14 rfl) ml_M_499 mv_M_act ⟨rfl, by decide⟩ (zg_some e_σ1).1 (by decide) [] [] rfl (Nat.le_of_ble_eq_true rfl) rfl (m_M_act e_σ1) ?_
  change zPJ X 0 0 _ _ [] _
  refine zj_aload_n o (zdd k_M_mood 15 rfl) rfl 0 rfl ?_
  obtain ⟨a2, e_a2, h⟩ := zbd h
  refine zj_gP o (zdd k_M_mood 16 rfl) fl_M_78 rfl e_a2 ?_
  refine zj_bipush o (zdd k_M_mood 17 rfl) zkb_24 ?_
  refine zj_iload_n o (zdd k_M_mood 18 rfl) rfl 1 rfl ?_
  refine zj_iadd o (zdd k_M_mood 19 rfl) ?_
  obtain ⟨x3, e_x3, h⟩ := zbd h
  refine zj_iald o (zdd k_M_mood 20 rfl) e_x3 ?_
  refine zj_istore_n (loc' := [(3, .int x3), (0, .ref v0), (1, .int v1), (2, .int v2)]) o (zdd k_M_mood 21 rfl) rfl (by decide) rfl ?_
  refine zj_aload_n o (zdd k_M_mood 22 rfl) rfl 1 rfl ?_
  obtain ⟨a4, e_a4, h⟩ := zbd h
  refine zj_gP o (zdd k_M_mood 23 rfl) fl_M_78 rfl e_a4 ?_
  refine zj_bipush o (zdd k_M_mood 24 rfl) zkb_24 ?_
  refine zj_iload_n o (zdd k_M_mood 25 rfl) rfl 2 rfl ?_
  refine zj_iadd o (zdd k_M_mood 26 rfl) ?_
  refine zj_iload_n o (zdd k_M_mood 27 rfl) rfl 3 rfl ?_
  obtain ⟨σ5, e_σ5, h⟩ := zbd h
  refine zj_iast o (zdd k_M_mood 28 rfl) e_σ5 ?_
  refine zj_iload_n o (zdd k_M_mood 29 rfl) rfl 0 rfl ?_
  cases h
  exact zr_i o hr (zdd k_M_mood 30 rfl)
def f_M_mood (σ : zSt) (t : Nat) (p0 : Int32) (p1 : Int32) : Option (Int32 × zSt) :=
zg σ 12 t (
(f_M_isReader σ t p0).bind fun x1 =>
if x1 = 0 then (
some ((-2), σ)) else
if p1 = (-1) then (
f_M_mood_24 σ t p0 p1) else
(f_M_isTopic σ t p1).bind fun x2 =>
if x2 = 0 then (
some ((-2), σ)) else
f_M_mood_24 σ t p0 p1)
set_option maxRecDepth 100000 in
set_option maxHeartbeats 4000000 in
theorem m_M_mood {l : Launch} {b : Nat} {ex : Nat → Value} {D : va_G} {ca : Nat → ClassId} {σ : zSt} {t : Nat} {p0 : Int32} {p1 : Int32} {z : Int32 × zSt} (h : f_M_mood σ t p0 p1 = some z) : zMT l b ex D ca 3 y_M_mood c_M_mood n_M_mood r_ret_M_mood [.ref t, .int p0, .int p1] σ (some (.int z.1)) z.2 0 0 := by
  obtain ⟨_, hg0⟩ := zg_some h
  have h := hg0
  refine zmt_of (by decide) (Nat.le_of_ble_eq_true rfl) ⟨.int, rfl, rfl⟩ (fun X o hin hrm _ _ _ _ _ hr => ?_)
  have hr := hr 0 0 (by decide) (by decide)
  have o : zOK X "WantShelvesModel" c_M_mood n_M_mood 3 := o
  change zPJ X 0 0 0 [(0, .ref t), (1, .int p0), (2, .int p1)] [] σ
  refine zj_aload_n o (zdd k_M_mood 0 rfl) rfl 0 rfl ?_
  refine zj_iload_n o (zdd k_M_mood 1 rfl) rfl 1 rfl ?_
  obtain ⟨x1, e_x1, h⟩ := zbd h
  refine zc_V o (zdd k_M_mood 2 rfl) ml_M_441 mv_M_isReader ⟨rfl, by decide⟩ (zg_some e_x1).1 (by decide) [.int p0] [] rfl (Nat.le_of_ble_eq_true rfl) rfl (m_M_isReader e_x1) ?_
  change zPJ X 0 0 _ _ [.int x1] _
  refine zj_if_eq (tgt := 21) o (zdd k_M_mood 3 rfl) (by decide) (fun hc => ?_) (fun hc => ?_)
  · rw [if_pos hc] at h
    refine zj_bipush o (zdd k_M_mood 11 rfl) zkb_m2 ?_
    cases h
    exact zr_i o hr (zdd k_M_mood 12 rfl)
  · rw [if_neg hc] at h
    refine zj_iload_n o (zdd k_M_mood 4 rfl) rfl 2 rfl ?_
    refine zj_iconst o (zdd k_M_mood 5 rfl) zki_m1 ?_
    refine zj_icmp_eq (tgt := 24) o (zdd k_M_mood 6 rfl) (by decide) (fun hc => ?_) (fun hc => ?_)
    · rw [if_pos hc] at h
      exact zj_sub [0, 1, 2] rfl (r_M_mood_24 o  h hr)
    · rw [if_neg hc] at h
      refine zj_aload_n o (zdd k_M_mood 7 rfl) rfl 0 rfl ?_
      refine zj_iload_n o (zdd k_M_mood 8 rfl) rfl 2 rfl ?_
      obtain ⟨x2, e_x2, h⟩ := zbd h
      refine zc_V o (zdd k_M_mood 9 rfl) ml_M_438 mv_M_isTopic ⟨rfl, by decide⟩ (zg_some e_x2).1 (by decide) [.int p1] [] rfl (Nat.le_of_ble_eq_true rfl) rfl (m_M_isTopic e_x2) ?_
      change zPJ X 0 0 _ _ [.int x2] _
      refine zj_if_ne (tgt := 24) o (zdd k_M_mood 10 rfl) (by decide) (fun hc => ?_) (fun hc => ?_)
      · rw [if_neg hc] at h
        exact zj_sub [0, 1, 2] rfl (r_M_mood_24 o  h hr)
      · rw [if_pos hc] at h
        refine zj_bipush o (zdd k_M_mood 11 rfl) zkb_m2 ?_
        cases h
        exact zr_i o hr (zdd k_M_mood 12 rfl)
def f_M_out (σ : zSt) (t : Nat) (p0 : Int32) : Option (Int32 × zSt) :=
zg σ 12 t (
(f_M_isBook σ t p0).bind fun x1 =>
if x1 = 0 then (
some ((-1), σ)) else
(f_M_act σ t).bind fun σ2 =>
(zgP σ2 12 t 49).bind fun a3 =>
(zaI σ2 1 a3 31).bind fun x4 =>
(zwI σ2 1 a3 31 (x4 ^^^ (1 <<< (p0 &&& 31)))).bind fun σ5 =>
(zgP σ5 12 t 49).bind fun a6 =>
(zaI σ5 1 a6 31).bind fun x7 =>
some ((x7 >>> (p0 &&& 31)) &&& 1, σ5))
set_option maxRecDepth 100000 in
set_option maxHeartbeats 4000000 in
theorem m_M_out {l : Launch} {b : Nat} {ex : Nat → Value} {D : va_G} {ca : Nat → ClassId} {σ : zSt} {t : Nat} {p0 : Int32} {z : Int32 × zSt} (h : f_M_out σ t p0 = some z) : zMT l b ex D ca 3 y_M_out c_M_out n_M_out r_ret_M_out [.ref t, .int p0] σ (some (.int z.1)) z.2 0 0 := by
  obtain ⟨_, hg0⟩ := zg_some h
  have h := hg0
  refine zmt_of (by decide) (Nat.le_of_ble_eq_true rfl) ⟨.int, rfl, rfl⟩ (fun X o hin hrm _ _ _ _ _ hr => ?_)
  have hr := hr 0 0 (by decide) (by decide)
  have o : zOK X "WantShelvesModel" c_M_out n_M_out 3 := o
  change zPJ X 0 0 0 [(0, .ref t), (1, .int p0)] [] σ
  refine zj_aload_n o (zdd k_M_out 0 rfl) rfl 0 rfl ?_
  refine zj_iload_n o (zdd k_M_out 1 rfl) rfl 1 rfl ?_
  obtain ⟨x1, e_x1, h⟩ := zbd h
  refine zc_V o (zdd k_M_out 2 rfl) ml_M_435 mv_M_isBook ⟨rfl, by decide⟩ (zg_some e_x1).1 (by decide) [.int p0] [] rfl (Nat.le_of_ble_eq_true rfl) rfl (m_M_isBook e_x1) ?_
  change zPJ X 0 0 _ _ [.int x1] _
  refine zj_if_ne (tgt := 10) o (zdd k_M_out 3 rfl) (by decide) (fun hc => ?_) (fun hc => ?_)
  · rw [if_neg hc] at h
    refine zj_aload_n o (zdd k_M_out 6 rfl) rfl 0 rfl ?_
    obtain ⟨σ2, e_σ2, h⟩ := zbd h
    refine zc_V o (zdd k_M_out 7 rfl) ml_M_499 mv_M_act ⟨rfl, by decide⟩ (zg_some e_σ2).1 (by decide) [] [] rfl (Nat.le_of_ble_eq_true rfl) rfl (m_M_act e_σ2) ?_
    change zPJ X 0 0 _ _ [] _
    refine zj_aload_n o (zdd k_M_out 8 rfl) rfl 0 rfl ?_
    obtain ⟨a3, e_a3, h⟩ := zbd h
    refine zj_gP o (zdd k_M_out 9 rfl) fl_M_78 rfl e_a3 ?_
    refine zj_bipush o (zdd k_M_out 10 rfl) zkb_31 ?_
    refine zj_dup2 o (zdd k_M_out 11 rfl) rfl rfl ?_
    obtain ⟨x4, e_x4, h⟩ := zbd h
    refine zj_iald o (zdd k_M_out 12 rfl) e_x4 ?_
    refine zj_iconst o (zdd k_M_out 13 rfl) zki_1 ?_
    refine zj_iload_n o (zdd k_M_out 14 rfl) rfl 1 rfl ?_
    refine zj_ishl o (zdd k_M_out 15 rfl) ?_
    refine zj_ixor o (zdd k_M_out 16 rfl) ?_
    obtain ⟨σ5, e_σ5, h⟩ := zbd h
    refine zj_iast o (zdd k_M_out 17 rfl) e_σ5 ?_
    refine zj_aload_n o (zdd k_M_out 18 rfl) rfl 0 rfl ?_
    obtain ⟨a6, e_a6, h⟩ := zbd h
    refine zj_gP o (zdd k_M_out 19 rfl) fl_M_78 rfl e_a6 ?_
    refine zj_bipush o (zdd k_M_out 20 rfl) zkb_31 ?_
    obtain ⟨x7, e_x7, h⟩ := zbd h
    refine zj_iald o (zdd k_M_out 21 rfl) e_x7 ?_
    refine zj_iload_n o (zdd k_M_out 22 rfl) rfl 1 rfl ?_
    refine zj_ishr o (zdd k_M_out 23 rfl) ?_
    refine zj_iconst o (zdd k_M_out 24 rfl) zki_1 ?_
    refine zj_iand o (zdd k_M_out 25 rfl) ?_
    cases h
    exact zr_i o hr (zdd k_M_out 26 rfl)
  · rw [if_pos hc] at h
    refine zj_iconst o (zdd k_M_out 4 rfl) zki_m1 ?_
    cases h
    exact zr_i o hr (zdd k_M_out 5 rfl)
def f_M_bounded (p0 : Int32) : Option (Int32) :=
if (-9) ≤ p0 then (
if p0 ≤ 9 then (
some p0) else
some 9) else
some (-9)
set_option maxRecDepth 100000 in
set_option maxHeartbeats 4000000 in
theorem m_M_bounded {l : Launch} {b : Nat} {ex : Nat → Value} {D : va_G} {ca : Nat → ClassId} {σ : zSt} {p0 : Int32} {z : Int32} (h : f_M_bounded p0 = some z) : zMT l b ex D ca 1 y_M_bounded c_M_bounded n_M_bounded r_ret_M_bounded [.int p0] σ (some (.int z)) σ 0 0 := by
  unfold f_M_bounded at h
  refine zmt_of (by decide) (Nat.le_of_ble_eq_true rfl) ⟨.int, rfl, rfl⟩ (fun X o hin hrm _ _ _ _ _ hr => ?_)
  have hr := hr 0 0 (by decide) (by decide)
  have o : zOK X "WantShelvesModel" c_M_bounded n_M_bounded 1 := o
  change zPJ X 0 0 0 [(0, .int p0)] [] σ
  refine zj_iload_n o (zdd k_M_bounded 0 rfl) rfl 0 rfl ?_
  refine zj_bipush o (zdd k_M_bounded 1 rfl) zkb_m9 ?_
  refine zj_icmp_ge (tgt := 11) o (zdd k_M_bounded 2 rfl) (by decide) (fun hc => ?_) (fun hc => ?_)
  · rw [if_pos hc] at h
    refine zj_iload_n o (zdd k_M_bounded 5 rfl) rfl 0 rfl ?_
    refine zj_bipush o (zdd k_M_bounded 6 rfl) zkb_9 ?_
    refine zj_icmp_le (tgt := 22) o (zdd k_M_bounded 7 rfl) (by decide) (fun hc => ?_) (fun hc => ?_)
    · rw [if_pos hc] at h
      refine zj_iload_n o (zdd k_M_bounded 10 rfl) rfl 0 rfl ?_
      cases h
      exact zr_i o hr (zdd k_M_bounded 11 rfl)
    · rw [if_neg hc] at h
      refine zj_bipush o (zdd k_M_bounded 8 rfl) zkb_9 ?_
      refine zj_goto (tgt := 23) o (zdd k_M_bounded 9 rfl) (by decide) ?_
      cases h
      exact zr_i o hr (zdd k_M_bounded 11 rfl)
  · rw [if_neg hc] at h
    refine zj_bipush o (zdd k_M_bounded 3 rfl) zkb_m9 ?_
    refine zj_goto (tgt := 23) o (zdd k_M_bounded 4 rfl) (by decide) ?_
    cases h
    exact zr_i o hr (zdd k_M_bounded 11 rfl)
def f_M_reads_59 (k20 : zSt → Nat → Int32 → Int32 → Int32 → Option (zSt)) (σ : zSt) (v0 : Nat) (v1 : Int32) (v2 : Int32) (v3 : Int32) : Option (zSt) :=
(zgP σ 12 v0 25).bind fun a1 =>
(zgP σ 12 v0 49).bind fun a2 =>
(zaI σ 1 a2 ((4 * v1) + v3)).bind fun x3 =>
(zwI σ 1 a1 2 x3).bind fun σ4 =>
(zgP σ4 12 v0 25).bind fun a5 =>
(zgP σ4 12 v0 30).bind fun a6 =>
(zaI σ4 1 a6 ((4 * v2) + v3)).bind fun x7 =>
(zwI σ4 1 a5 3 x7).bind fun σ8 =>
(zgP σ8 12 v0 25).bind fun a9 =>
(f_M_readsOf σ8 v0 v1 v2).bind fun x10 =>
(zwI σ8 1 a9 4 x10).bind fun σ11 =>
(zgP σ11 12 v0 49).bind fun a12 =>
(f_M_worked σ11 v0 1).bind fun q13 =>
(f_M_bounded q13.1).bind fun x14 =>
(zwI q13.2 1 a12 ((4 * v1) + v3) x14).bind fun σ15 =>
k20 σ15 v0 v1 v2 (v3 + 1)
set_option maxRecDepth 100000 in
set_option maxHeartbeats 4000000 in
theorem r_M_reads_59 {X : zCX} (o : zOK X "WantShelvesModel" c_M_reads n_M_reads 4) {k20 : zSt → Nat → Int32 → Int32 → Int32 → Option (zSt)} (hk20 : ∀ {σ : zSt} {v0 : Nat} {v1 : Int32} {v2 : Int32} {v3 : Int32} {z : zSt}, k20 σ v0 v1 v2 v3 = some z → zRX X 0 0 none z → zPJ X 0 0 20 [(0, .ref v0), (1, .int v1), (2, .int v2), (3, .int v3)] [] σ) {σ : zSt} {v0 : Nat} {v1 : Int32} {v2 : Int32} {v3 : Int32} {z : zSt} (h : f_M_reads_59 k20 σ v0 v1 v2 v3 = some z) (hr : zRX X 0 0 none z) : zPJ X 0 0 59 [(0, .ref v0), (1, .int v1), (2, .int v2), (3, .int v3)] [] σ := by
  unfold f_M_reads_59 at h
  refine zj_aload_n o (zdd k_M_reads 35 rfl) rfl 0 rfl ?_
  obtain ⟨a1, e_a1, h⟩ := zbd h
  refine zj_gP o (zdd k_M_reads 36 rfl) fl_M_45 rfl e_a1 ?_
  refine zj_iconst o (zdd k_M_reads 37 rfl) zki_2 ?_
  refine zj_aload_n o (zdd k_M_reads 38 rfl) rfl 0 rfl ?_
  obtain ⟨a2, e_a2, h⟩ := zbd h
  refine zj_gP o (zdd k_M_reads 39 rfl) fl_M_78 rfl e_a2 ?_
  refine zj_iconst o (zdd k_M_reads 40 rfl) zki_4 ?_
  refine zj_iload_n o (zdd k_M_reads 41 rfl) rfl 1 rfl ?_
  refine zj_imul o (zdd k_M_reads 42 rfl) ?_
  refine zj_iload_n o (zdd k_M_reads 43 rfl) rfl 3 rfl ?_
  refine zj_iadd o (zdd k_M_reads 44 rfl) ?_
  obtain ⟨x3, e_x3, h⟩ := zbd h
  refine zj_iald o (zdd k_M_reads 45 rfl) e_x3 ?_
  obtain ⟨σ4, e_σ4, h⟩ := zbd h
  refine zj_iast o (zdd k_M_reads 46 rfl) e_σ4 ?_
  refine zj_aload_n o (zdd k_M_reads 47 rfl) rfl 0 rfl ?_
  obtain ⟨a5, e_a5, h⟩ := zbd h
  refine zj_gP o (zdd k_M_reads 48 rfl) fl_M_45 rfl e_a5 ?_
  refine zj_iconst o (zdd k_M_reads 49 rfl) zki_3 ?_
  refine zj_aload_n o (zdd k_M_reads 50 rfl) rfl 0 rfl ?_
  obtain ⟨a6, e_a6, h⟩ := zbd h
  refine zj_gP o (zdd k_M_reads 51 rfl) fl_M_60 rfl e_a6 ?_
  refine zj_iconst o (zdd k_M_reads 52 rfl) zki_4 ?_
  refine zj_iload_n o (zdd k_M_reads 53 rfl) rfl 2 rfl ?_
  refine zj_imul o (zdd k_M_reads 54 rfl) ?_
  refine zj_iload_n o (zdd k_M_reads 55 rfl) rfl 3 rfl ?_
  refine zj_iadd o (zdd k_M_reads 56 rfl) ?_
  obtain ⟨x7, e_x7, h⟩ := zbd h
  refine zj_iald o (zdd k_M_reads 57 rfl) e_x7 ?_
  obtain ⟨σ8, e_σ8, h⟩ := zbd h
  refine zj_iast o (zdd k_M_reads 58 rfl) e_σ8 ?_
  refine zj_aload_n o (zdd k_M_reads 59 rfl) rfl 0 rfl ?_
  obtain ⟨a9, e_a9, h⟩ := zbd h
  refine zj_gP o (zdd k_M_reads 60 rfl) fl_M_45 rfl e_a9 ?_
  refine zj_iconst o (zdd k_M_reads 61 rfl) zki_4 ?_
  refine zj_aload_n o (zdd k_M_reads 62 rfl) rfl 0 rfl ?_
  refine zj_iload_n o (zdd k_M_reads 63 rfl) rfl 1 rfl ?_
  refine zj_iload_n o (zdd k_M_reads 64 rfl) rfl 2 rfl ?_
  obtain ⟨x10, e_x10, h⟩ := zbd h
  refine zc_V o (zdd k_M_reads 65 rfl) ml_M_429 mv_M_readsOf ⟨rfl, by decide⟩ (zg_some e_x10).1 (by decide) [.int v1, .int v2] [.int 4, .ref a9] rfl (Nat.le_of_ble_eq_true rfl) rfl (m_M_readsOf e_x10) ?_
  change zPJ X 0 0 _ _ [.int x10, .int 4, .ref a9] _
  obtain ⟨σ11, e_σ11, h⟩ := zbd h
  refine zj_iast o (zdd k_M_reads 66 rfl) e_σ11 ?_
  refine zj_aload_n o (zdd k_M_reads 67 rfl) rfl 0 rfl ?_
  obtain ⟨a12, e_a12, h⟩ := zbd h
  refine zj_gP o (zdd k_M_reads 68 rfl) fl_M_78 rfl e_a12 ?_
  refine zj_iconst o (zdd k_M_reads 69 rfl) zki_4 ?_
  refine zj_iload_n o (zdd k_M_reads 70 rfl) rfl 1 rfl ?_
  refine zj_imul o (zdd k_M_reads 71 rfl) ?_
  refine zj_iload_n o (zdd k_M_reads 72 rfl) rfl 3 rfl ?_
  refine zj_iadd o (zdd k_M_reads 73 rfl) ?_
  refine zj_aload_n o (zdd k_M_reads 74 rfl) rfl 0 rfl ?_
  refine zj_iconst o (zdd k_M_reads 75 rfl) zki_1 ?_
  obtain ⟨q13, e_q13, h⟩ := zbd h
  refine zc_V o (zdd k_M_reads 76 rfl) ml_M_445 mv_M_worked ⟨rfl, by decide⟩ (zg_some e_q13).1 (by decide) [.int 1] [.int ((4 * v1) + v3), .ref a12] rfl (Nat.le_of_ble_eq_true rfl) rfl (m_M_worked e_q13) ?_
  change zPJ X 0 0 _ _ [.int q13.1, .int ((4 * v1) + v3), .ref a12] _
  obtain ⟨x14, e_x14, h⟩ := zbd h
  refine zc_S o (zdd k_M_reads 77 rfl) ml_M_502 ms_M_bounded (by decide) [.int q13.1] [.int ((4 * v1) + v3), .ref a12] rfl (Nat.le_of_ble_eq_true rfl) rfl (m_M_bounded e_x14) ?_
  change zPJ X 0 0 _ _ [.int x14, .int ((4 * v1) + v3), .ref a12] _
  obtain ⟨σ15, e_σ15, h⟩ := zbd h
  refine zj_iast o (zdd k_M_reads 78 rfl) e_σ15 ?_
  refine zj_iinc (v := v3 + 1) (loc' := [(3, .int (v3 + 1)), (0, .ref v0), (1, .int v1), (2, .int v2)]) o (zdd k_M_reads 79 rfl) 3 rfl (by rw [zki_1]) (by decide) rfl ?_
  refine zj_goto (tgt := 20) o (zdd k_M_reads 80 rfl) (by decide) ?_
  exact zj_sub [1, 2, 3, 0] rfl (hk20 h hr)
def f_M_reads_38 (k20 : zSt → Nat → Int32 → Int32 → Int32 → Option (zSt)) (k38 : zSt → Nat → Int32 → Int32 → Int32 → Int32 → Option (zSt)) (σ : zSt) (v0 : Nat) (v1 : Int32) (v2 : Int32) (v3 : Int32) (v4 : Int32) : Option (zSt) :=
if 6 ≤ v4 then (
f_M_reads_59 k20 σ v0 v1 v2 v3) else
(zgP σ 12 v0 25).bind fun a1 =>
(zwI σ 1 a1 v4 0).bind fun σ2 =>
k38 σ2 v0 v1 v2 v3 (v4 + 1)
set_option maxRecDepth 100000 in
set_option maxHeartbeats 4000000 in
theorem r_M_reads_38 {X : zCX} (o : zOK X "WantShelvesModel" c_M_reads n_M_reads 4) {k20 : zSt → Nat → Int32 → Int32 → Int32 → Option (zSt)} {k38 : zSt → Nat → Int32 → Int32 → Int32 → Int32 → Option (zSt)} (hk20 : ∀ {σ : zSt} {v0 : Nat} {v1 : Int32} {v2 : Int32} {v3 : Int32} {z : zSt}, k20 σ v0 v1 v2 v3 = some z → zRX X 0 0 none z → zPJ X 0 0 20 [(0, .ref v0), (1, .int v1), (2, .int v2), (3, .int v3)] [] σ) (hk38 : ∀ {σ : zSt} {v0 : Nat} {v1 : Int32} {v2 : Int32} {v3 : Int32} {v4 : Int32} {z : zSt}, k38 σ v0 v1 v2 v3 v4 = some z → zRX X 0 0 none z → zPJ X 0 0 38 [(0, .ref v0), (1, .int v1), (2, .int v2), (3, .int v3), (4, .int v4)] [] σ) {σ : zSt} {v0 : Nat} {v1 : Int32} {v2 : Int32} {v3 : Int32} {v4 : Int32} {z : zSt} (h : f_M_reads_38 k20 k38 σ v0 v1 v2 v3 v4 = some z) (hr : zRX X 0 0 none z) : zPJ X 0 0 38 [(0, .ref v0), (1, .int v1), (2, .int v2), (3, .int v3), (4, .int v4)] [] σ := by
  unfold f_M_reads_38 at h
  refine zj_iload o (zdd k_M_reads 25 rfl) 4 rfl ?_
  refine zj_bipush o (zdd k_M_reads 26 rfl) zkb_6 ?_
  refine zj_icmp_ge (tgt := 59) o (zdd k_M_reads 27 rfl) (by decide) (fun hc => ?_) (fun hc => ?_)
  · rw [if_pos hc] at h
    exact zj_sub [0, 1, 2, 3] rfl (r_M_reads_59 o hk20 h hr)
  · rw [if_neg hc] at h
    refine zj_aload_n o (zdd k_M_reads 28 rfl) rfl 0 rfl ?_
    obtain ⟨a1, e_a1, h⟩ := zbd h
    refine zj_gP o (zdd k_M_reads 29 rfl) fl_M_45 rfl e_a1 ?_
    refine zj_iload o (zdd k_M_reads 30 rfl) 4 rfl ?_
    refine zj_iconst o (zdd k_M_reads 31 rfl) zki_0 ?_
    obtain ⟨σ2, e_σ2, h⟩ := zbd h
    refine zj_iast o (zdd k_M_reads 32 rfl) e_σ2 ?_
    refine zj_iinc (v := v4 + 1) (loc' := [(4, .int (v4 + 1)), (0, .ref v0), (1, .int v1), (2, .int v2), (3, .int v3)]) o (zdd k_M_reads 33 rfl) 4 rfl (by rw [zki_1]) (by decide) rfl ?_
    refine zj_goto (tgt := 38) o (zdd k_M_reads 34 rfl) (by decide) ?_
    exact zj_sub [1, 2, 3, 4, 0] rfl (hk38 h hr)
def f_M_reads_38L (k20 : zSt → Nat → Int32 → Int32 → Int32 → Option (zSt)) : Nat → zSt → Nat → Int32 → Int32 → Int32 → Int32 → Option (zSt)
  | 0 => fun _ _ _ _ _ _ => none
  | n + 1 => f_M_reads_38  k20 (f_M_reads_38L k20 n)
theorem r_M_reads_38L {X : zCX} (o : zOK X "WantShelvesModel" c_M_reads n_M_reads 4) {k20 : zSt → Nat → Int32 → Int32 → Int32 → Option (zSt)} (hk20 : ∀ {σ : zSt} {v0 : Nat} {v1 : Int32} {v2 : Int32} {v3 : Int32} {z : zSt}, k20 σ v0 v1 v2 v3 = some z → zRX X 0 0 none z → zPJ X 0 0 20 [(0, .ref v0), (1, .int v1), (2, .int v2), (3, .int v3)] [] σ) : ∀ (n : Nat) {σ : zSt} {v0 : Nat} {v1 : Int32} {v2 : Int32} {v3 : Int32} {v4 : Int32} {z : zSt}, f_M_reads_38L k20 n σ v0 v1 v2 v3 v4 = some z → zRX X 0 0 none z → zPJ X 0 0 38 [(0, .ref v0), (1, .int v1), (2, .int v2), (3, .int v3), (4, .int v4)] [] σ
  | 0 => fun h _ => by cases h
  | n + 1 => fun h hr => r_M_reads_38 o hk20 (r_M_reads_38L o hk20 n) h hr
def f_M_reads_20 (k20 : zSt → Nat → Int32 → Int32 → Int32 → Option (zSt)) (σ : zSt) (v0 : Nat) (v1 : Int32) (v2 : Int32) (v3 : Int32) : Option (zSt) :=
(zgI σ 12 v0 41).bind fun x1 =>
if x1 ≤ v3 then (
some σ) else
(zgI σ 12 v0 48).bind fun x2 =>
if x2 = 0 then (
some σ) else
f_M_reads_38L k20 zfu σ v0 v1 v2 v3 0
set_option maxRecDepth 100000 in
set_option maxHeartbeats 4000000 in
theorem r_M_reads_20 {X : zCX} (o : zOK X "WantShelvesModel" c_M_reads n_M_reads 4) {k20 : zSt → Nat → Int32 → Int32 → Int32 → Option (zSt)} (hk20 : ∀ {σ : zSt} {v0 : Nat} {v1 : Int32} {v2 : Int32} {v3 : Int32} {z : zSt}, k20 σ v0 v1 v2 v3 = some z → zRX X 0 0 none z → zPJ X 0 0 20 [(0, .ref v0), (1, .int v1), (2, .int v2), (3, .int v3)] [] σ) {σ : zSt} {v0 : Nat} {v1 : Int32} {v2 : Int32} {v3 : Int32} {z : zSt} (h : f_M_reads_20 k20 σ v0 v1 v2 v3 = some z) (hr : zRX X 0 0 none z) : zPJ X 0 0 20 [(0, .ref v0), (1, .int v1), (2, .int v2), (3, .int v3)] [] σ := by
  unfold f_M_reads_20 at h
  refine zj_iload_n o (zdd k_M_reads 16 rfl) rfl 3 rfl ?_
  refine zj_aload_n o (zdd k_M_reads 17 rfl) rfl 0 rfl ?_
  obtain ⟨x1, e_x1, h⟩ := zbd h
  refine zj_gI o (zdd k_M_reads 18 rfl) fl_M_388 rfl e_x1 ?_
  refine zj_icmp_ge (tgt := 127) o (zdd k_M_reads 19 rfl) (by decide) (fun hc => ?_) (fun hc => ?_)
  · rw [if_pos hc] at h
    cases h
    exact zr_v o hr (zdd k_M_reads 81 rfl)
  · rw [if_neg hc] at h
    refine zj_aload_n o (zdd k_M_reads 20 rfl) rfl 0 rfl ?_
    obtain ⟨x2, e_x2, h⟩ := zbd h
    refine zj_gI o (zdd k_M_reads 21 rfl) fl_M_404 rfl e_x2 ?_
    refine zj_if_eq (tgt := 127) o (zdd k_M_reads 22 rfl) (by decide) (fun hc => ?_) (fun hc => ?_)
    · rw [if_pos hc] at h
      cases h
      exact zr_v o hr (zdd k_M_reads 81 rfl)
    · rw [if_neg hc] at h
      refine zj_iconst o (zdd k_M_reads 23 rfl) zki_0 ?_
      refine zj_istore (loc' := [(4, .int 0), (0, .ref v0), (1, .int v1), (2, .int v2), (3, .int v3)]) o (zdd k_M_reads 24 rfl) (by decide) rfl ?_
      exact zj_sub [1, 2, 3, 4, 0] rfl (r_M_reads_38L o hk20 zfu h hr)
def f_M_reads_20L : Nat → zSt → Nat → Int32 → Int32 → Int32 → Option (zSt)
  | 0 => fun _ _ _ _ _ => none
  | n + 1 => f_M_reads_20  (f_M_reads_20L  n)
theorem r_M_reads_20L {X : zCX} (o : zOK X "WantShelvesModel" c_M_reads n_M_reads 4) : ∀ (n : Nat) {σ : zSt} {v0 : Nat} {v1 : Int32} {v2 : Int32} {v3 : Int32} {z : zSt}, f_M_reads_20L n σ v0 v1 v2 v3 = some z → zRX X 0 0 none z → zPJ X 0 0 20 [(0, .ref v0), (1, .int v1), (2, .int v2), (3, .int v3)] [] σ
  | 0 => fun h _ => by cases h
  | n + 1 => fun h hr => r_M_reads_20 o (r_M_reads_20L o  n) h hr
def f_M_reads (σ : zSt) (t : Nat) (p0 : Int32) (p1 : Int32) : Option (zSt) :=
zg σ 12 t (
(zgP σ 12 t 49).bind fun a1 =>
(zaI σ 1 a1 ((32 + (10 * p0)) + p1)).bind fun x2 =>
(zwI σ 1 a1 ((32 + (10 * p0)) + p1) (x2 + 1)).bind fun σ3 =>
f_M_reads_20L zfu σ3 t p0 p1 0)
set_option maxRecDepth 100000 in
set_option maxHeartbeats 4000000 in
theorem m_M_reads {l : Launch} {b : Nat} {ex : Nat → Value} {D : va_G} {ca : Nat → ClassId} {σ : zSt} {t : Nat} {p0 : Int32} {p1 : Int32} {z : zSt} (h : f_M_reads σ t p0 p1 = some z) : zMT l b ex D ca 4 y_M_reads c_M_reads n_M_reads r_ret_M_reads [.ref t, .int p0, .int p1] σ none z 0 0 := by
  obtain ⟨_, hg0⟩ := zg_some h
  have h := hg0
  refine zmt_of (by decide) (Nat.le_of_ble_eq_true rfl) rfl (fun X o hin hrm _ _ _ _ _ hr => ?_)
  have hr := hr 0 0 (by decide) (by decide)
  have o : zOK X "WantShelvesModel" c_M_reads n_M_reads 4 := o
  change zPJ X 0 0 0 [(0, .ref t), (1, .int p0), (2, .int p1)] [] σ
  refine zj_aload_n o (zdd k_M_reads 0 rfl) rfl 0 rfl ?_
  obtain ⟨a1, e_a1, h⟩ := zbd h
  refine zj_gP o (zdd k_M_reads 1 rfl) fl_M_78 rfl e_a1 ?_
  refine zj_bipush o (zdd k_M_reads 2 rfl) zkb_32 ?_
  refine zj_bipush o (zdd k_M_reads 3 rfl) zkb_10 ?_
  refine zj_iload_n o (zdd k_M_reads 4 rfl) rfl 1 rfl ?_
  refine zj_imul o (zdd k_M_reads 5 rfl) ?_
  refine zj_iadd o (zdd k_M_reads 6 rfl) ?_
  refine zj_iload_n o (zdd k_M_reads 7 rfl) rfl 2 rfl ?_
  refine zj_iadd o (zdd k_M_reads 8 rfl) ?_
  refine zj_dup2 o (zdd k_M_reads 9 rfl) rfl rfl ?_
  obtain ⟨x2, e_x2, h⟩ := zbd h
  refine zj_iald o (zdd k_M_reads 10 rfl) e_x2 ?_
  refine zj_iconst o (zdd k_M_reads 11 rfl) zki_1 ?_
  refine zj_iadd o (zdd k_M_reads 12 rfl) ?_
  obtain ⟨σ3, e_σ3, h⟩ := zbd h
  refine zj_iast o (zdd k_M_reads 13 rfl) e_σ3 ?_
  refine zj_iconst o (zdd k_M_reads 14 rfl) zki_0 ?_
  refine zj_istore_n (loc' := [(3, .int 0), (0, .ref t), (1, .int p0), (2, .int p1)]) o (zdd k_M_reads 15 rfl) rfl (by decide) rfl ?_
  exact zj_sub [1, 2, 3, 0] rfl (r_M_reads_20L o  zfu h hr)
def f_M_read (σ : zSt) (t : Nat) (p0 : Int32) (p1 : Int32) : Option (Int32 × zSt) :=
zg σ 12 t (
(f_M_isReader σ t p0).bind fun x1 =>
if x1 = 0 then (
some ((-1), σ)) else
(f_M_isBook σ t p1).bind fun x2 =>
if x2 = 0 then (
some ((-1), σ)) else
(f_M_readsOf σ t p0 p1).bind fun x3 =>
if x3 = 99 then (
some ((-1), σ)) else
(f_M_act σ t).bind fun σ4 =>
(f_M_reads σ4 t p0 p1).bind fun σ5 =>
(f_M_readsOf σ5 t p0 p1).bind fun x6 =>
some (x6, σ5))
set_option maxRecDepth 100000 in
set_option maxHeartbeats 4000000 in
theorem m_M_read {l : Launch} {b : Nat} {ex : Nat → Value} {D : va_G} {ca : Nat → ClassId} {σ : zSt} {t : Nat} {p0 : Int32} {p1 : Int32} {z : Int32 × zSt} (h : f_M_read σ t p0 p1 = some z) : zMT l b ex D ca 5 y_M_read c_M_read n_M_read r_ret_M_read [.ref t, .int p0, .int p1] σ (some (.int z.1)) z.2 0 0 := by
  obtain ⟨_, hg0⟩ := zg_some h
  have h := hg0
  refine zmt_of (by decide) (Nat.le_of_ble_eq_true rfl) ⟨.int, rfl, rfl⟩ (fun X o hin hrm _ _ _ _ _ hr => ?_)
  have hr := hr 0 0 (by decide) (by decide)
  have o : zOK X "WantShelvesModel" c_M_read n_M_read 5 := o
  change zPJ X 0 0 0 [(0, .ref t), (1, .int p0), (2, .int p1)] [] σ
  refine zj_aload_n o (zdd k_M_read 0 rfl) rfl 0 rfl ?_
  refine zj_iload_n o (zdd k_M_read 1 rfl) rfl 1 rfl ?_
  obtain ⟨x1, e_x1, h⟩ := zbd h
  refine zc_V o (zdd k_M_read 2 rfl) ml_M_441 mv_M_isReader ⟨rfl, by decide⟩ (zg_some e_x1).1 (by decide) [.int p0] [] rfl (Nat.le_of_ble_eq_true rfl) rfl (m_M_isReader e_x1) ?_
  change zPJ X 0 0 _ _ [.int x1] _
  refine zj_if_eq (tgt := 27) o (zdd k_M_read 3 rfl) (by decide) (fun hc => ?_) (fun hc => ?_)
  · rw [if_pos hc] at h
    refine zj_iconst o (zdd k_M_read 14 rfl) zki_m1 ?_
    cases h
    exact zr_i o hr (zdd k_M_read 15 rfl)
  · rw [if_neg hc] at h
    refine zj_aload_n o (zdd k_M_read 4 rfl) rfl 0 rfl ?_
    refine zj_iload_n o (zdd k_M_read 5 rfl) rfl 2 rfl ?_
    obtain ⟨x2, e_x2, h⟩ := zbd h
    refine zc_V o (zdd k_M_read 6 rfl) ml_M_435 mv_M_isBook ⟨rfl, by decide⟩ (zg_some e_x2).1 (by decide) [.int p1] [] rfl (Nat.le_of_ble_eq_true rfl) rfl (m_M_isBook e_x2) ?_
    change zPJ X 0 0 _ _ [.int x2] _
    refine zj_if_eq (tgt := 27) o (zdd k_M_read 7 rfl) (by decide) (fun hc => ?_) (fun hc => ?_)
    · rw [if_pos hc] at h
      refine zj_iconst o (zdd k_M_read 14 rfl) zki_m1 ?_
      cases h
      exact zr_i o hr (zdd k_M_read 15 rfl)
    · rw [if_neg hc] at h
      refine zj_aload_n o (zdd k_M_read 8 rfl) rfl 0 rfl ?_
      refine zj_iload_n o (zdd k_M_read 9 rfl) rfl 1 rfl ?_
      refine zj_iload_n o (zdd k_M_read 10 rfl) rfl 2 rfl ?_
      obtain ⟨x3, e_x3, h⟩ := zbd h
      refine zc_V o (zdd k_M_read 11 rfl) ml_M_429 mv_M_readsOf ⟨rfl, by decide⟩ (zg_some e_x3).1 (by decide) [.int p0, .int p1] [] rfl (Nat.le_of_ble_eq_true rfl) rfl (m_M_readsOf e_x3) ?_
      change zPJ X 0 0 _ _ [.int x3] _
      refine zj_bipush o (zdd k_M_read 12 rfl) zkb_99 ?_
      refine zj_icmp_ne (tgt := 29) o (zdd k_M_read 13 rfl) (by decide) (fun hc => ?_) (fun hc => ?_)
      · rw [if_neg hc] at h
        refine zj_aload_n o (zdd k_M_read 16 rfl) rfl 0 rfl ?_
        obtain ⟨σ4, e_σ4, h⟩ := zbd h
        refine zc_V o (zdd k_M_read 17 rfl) ml_M_499 mv_M_act ⟨rfl, by decide⟩ (zg_some e_σ4).1 (by decide) [] [] rfl (Nat.le_of_ble_eq_true rfl) rfl (m_M_act e_σ4) ?_
        change zPJ X 0 0 _ _ [] _
        refine zj_aload_n o (zdd k_M_read 18 rfl) rfl 0 rfl ?_
        refine zj_iload_n o (zdd k_M_read 19 rfl) rfl 1 rfl ?_
        refine zj_iload_n o (zdd k_M_read 20 rfl) rfl 2 rfl ?_
        obtain ⟨σ5, e_σ5, h⟩ := zbd h
        refine zc_V o (zdd k_M_read 21 rfl) ml_M_505 mv_M_reads ⟨rfl, by decide⟩ (zg_some e_σ5).1 (by decide) [.int p0, .int p1] [] rfl (Nat.le_of_ble_eq_true rfl) rfl (m_M_reads e_σ5) ?_
        change zPJ X 0 0 _ _ [] _
        refine zj_aload_n o (zdd k_M_read 22 rfl) rfl 0 rfl ?_
        refine zj_iload_n o (zdd k_M_read 23 rfl) rfl 1 rfl ?_
        refine zj_iload_n o (zdd k_M_read 24 rfl) rfl 2 rfl ?_
        obtain ⟨x6, e_x6, h⟩ := zbd h
        refine zc_V o (zdd k_M_read 25 rfl) ml_M_429 mv_M_readsOf ⟨rfl, by decide⟩ (zg_some e_x6).1 (by decide) [.int p0, .int p1] [] rfl (Nat.le_of_ble_eq_true rfl) rfl (m_M_readsOf e_x6) ?_
        change zPJ X 0 0 _ _ [.int x6] _
        cases h
        exact zr_i o hr (zdd k_M_read 26 rfl)
      · rw [if_pos hc] at h
        refine zj_iconst o (zdd k_M_read 14 rfl) zki_m1 ?_
        cases h
        exact zr_i o hr (zdd k_M_read 15 rfl)
def f_M_undo (σ : zSt) (t : Nat) : Option (Int32 × zSt) :=
zg σ 12 t (
((zgI σ 12 t 56).bind fun x1 =>
if x1 = 0 then (
some (0, σ)) else
(zgI σ 12 t 56).bind fun x2 =>
(zsI σ 12 t 56 (x2 - 1)).bind fun σ3 =>
(zgI σ3 12 t 57).bind fun x4 =>
(zsI σ3 12 t 57 (x4 + 1)).bind fun σ5 =>
(zgI σ5 12 t 56).bind fun x6 =>
(f_M_exchange σ5 t (96 * x6)).bind fun σ7 =>
some (1, σ7)).bind fun q => (zbool q.1).bind fun x => some (x, q.2))
set_option maxRecDepth 100000 in
set_option maxHeartbeats 4000000 in
theorem m_M_undo {l : Launch} {b : Nat} {ex : Nat → Value} {D : va_G} {ca : Nat → ClassId} {σ : zSt} {t : Nat} {z : Int32 × zSt} (h : f_M_undo σ t = some z) : zMT l b ex D ca 2 y_M_undo c_M_undo n_M_undo r_ret_M_undo [.ref t] σ (some (.int z.1)) z.2 0 0 := by
  obtain ⟨_, hg0⟩ := zg_some h
  obtain ⟨z0, hbd, hz⟩ := zbd hg0
  obtain ⟨z1, hz1, hzz⟩ := zbd hz
  obtain ⟨hzb, rfl⟩ := zbool_some hz1
  cases hzz
  have h := hbd
  refine zmt_of (by decide) (Nat.le_of_ble_eq_true rfl) ⟨.boolean, rfl, zb_nar hzb⟩ (fun X o hin hrm _ _ _ _ _ hr => ?_)
  have hr := hr 0 0 (by decide) (by decide)
  have o : zOK X "WantShelvesModel" c_M_undo n_M_undo 2 := o
  change zPJ X 0 0 0 [(0, .ref t)] [] σ
  refine zj_aload_n o (zdd k_M_undo 0 rfl) rfl 0 rfl ?_
  obtain ⟨x1, e_x1, h⟩ := zbd h
  refine zj_gI o (zdd k_M_undo 1 rfl) fl_M_410 rfl e_x1 ?_
  refine zj_if_ne (tgt := 9) o (zdd k_M_undo 2 rfl) (by decide) (fun hc => ?_) (fun hc => ?_)
  · rw [if_neg hc] at h
    refine zj_aload_n o (zdd k_M_undo 5 rfl) rfl 0 rfl ?_
    refine zj_dup o (zdd k_M_undo 6 rfl) rfl ?_
    obtain ⟨x2, e_x2, h⟩ := zbd h
    refine zj_gI o (zdd k_M_undo 7 rfl) fl_M_410 rfl e_x2 ?_
    refine zj_iconst o (zdd k_M_undo 8 rfl) zki_1 ?_
    refine zj_isub o (zdd k_M_undo 9 rfl) ?_
    obtain ⟨σ3, e_σ3, h⟩ := zbd h
    refine zj_pI o (zdd k_M_undo 10 rfl) fl_M_410 rfl rfl e_σ3 ?_
    refine zj_aload_n o (zdd k_M_undo 11 rfl) rfl 0 rfl ?_
    refine zj_dup o (zdd k_M_undo 12 rfl) rfl ?_
    obtain ⟨x4, e_x4, h⟩ := zbd h
    refine zj_gI o (zdd k_M_undo 13 rfl) fl_M_413 rfl e_x4 ?_
    refine zj_iconst o (zdd k_M_undo 14 rfl) zki_1 ?_
    refine zj_iadd o (zdd k_M_undo 15 rfl) ?_
    obtain ⟨σ5, e_σ5, h⟩ := zbd h
    refine zj_pI o (zdd k_M_undo 16 rfl) fl_M_413 rfl rfl e_σ5 ?_
    refine zj_aload_n o (zdd k_M_undo 17 rfl) rfl 0 rfl ?_
    refine zj_bipush o (zdd k_M_undo 18 rfl) zkb_96 ?_
    refine zj_aload_n o (zdd k_M_undo 19 rfl) rfl 0 rfl ?_
    obtain ⟨x6, e_x6, h⟩ := zbd h
    refine zj_gI o (zdd k_M_undo 20 rfl) fl_M_410 rfl e_x6 ?_
    refine zj_imul o (zdd k_M_undo 21 rfl) ?_
    obtain ⟨σ7, e_σ7, h⟩ := zbd h
    refine zc_V o (zdd k_M_undo 22 rfl) ml_M_508 mv_M_exchange ⟨rfl, by decide⟩ (zg_some e_σ7).1 (by decide) [.int (96 * x6)] [] rfl (Nat.le_of_ble_eq_true rfl) rfl (m_M_exchange e_σ7) ?_
    change zPJ X 0 0 _ _ [] _
    refine zj_iconst o (zdd k_M_undo 23 rfl) zki_1 ?_
    cases h
    exact zr_i o hr (zdd k_M_undo 24 rfl)
  · rw [if_pos hc] at h
    refine zj_iconst o (zdd k_M_undo 3 rfl) zki_0 ?_
    cases h
    exact zr_i o hr (zdd k_M_undo 4 rfl)
def f_M_redo (σ : zSt) (t : Nat) : Option (Int32 × zSt) :=
zg σ 12 t (
((zgI σ 12 t 57).bind fun x1 =>
if x1 = 0 then (
some (0, σ)) else
(zgI σ 12 t 56).bind fun x2 =>
(f_M_exchange σ t (96 * x2)).bind fun σ3 =>
(zgI σ3 12 t 56).bind fun x4 =>
(zsI σ3 12 t 56 (x4 + 1)).bind fun σ5 =>
(zgI σ5 12 t 57).bind fun x6 =>
(zsI σ5 12 t 57 (x6 - 1)).bind fun σ7 =>
some (1, σ7)).bind fun q => (zbool q.1).bind fun x => some (x, q.2))
set_option maxRecDepth 100000 in
set_option maxHeartbeats 4000000 in
theorem m_M_redo {l : Launch} {b : Nat} {ex : Nat → Value} {D : va_G} {ca : Nat → ClassId} {σ : zSt} {t : Nat} {z : Int32 × zSt} (h : f_M_redo σ t = some z) : zMT l b ex D ca 2 y_M_redo c_M_redo n_M_redo r_ret_M_redo [.ref t] σ (some (.int z.1)) z.2 0 0 := by
  obtain ⟨_, hg0⟩ := zg_some h
  obtain ⟨z0, hbd, hz⟩ := zbd hg0
  obtain ⟨z1, hz1, hzz⟩ := zbd hz
  obtain ⟨hzb, rfl⟩ := zbool_some hz1
  cases hzz
  have h := hbd
  refine zmt_of (by decide) (Nat.le_of_ble_eq_true rfl) ⟨.boolean, rfl, zb_nar hzb⟩ (fun X o hin hrm _ _ _ _ _ hr => ?_)
  have hr := hr 0 0 (by decide) (by decide)
  have o : zOK X "WantShelvesModel" c_M_redo n_M_redo 2 := o
  change zPJ X 0 0 0 [(0, .ref t)] [] σ
  refine zj_aload_n o (zdd k_M_redo 0 rfl) rfl 0 rfl ?_
  obtain ⟨x1, e_x1, h⟩ := zbd h
  refine zj_gI o (zdd k_M_redo 1 rfl) fl_M_413 rfl e_x1 ?_
  refine zj_if_ne (tgt := 9) o (zdd k_M_redo 2 rfl) (by decide) (fun hc => ?_) (fun hc => ?_)
  · rw [if_neg hc] at h
    refine zj_aload_n o (zdd k_M_redo 5 rfl) rfl 0 rfl ?_
    refine zj_bipush o (zdd k_M_redo 6 rfl) zkb_96 ?_
    refine zj_aload_n o (zdd k_M_redo 7 rfl) rfl 0 rfl ?_
    obtain ⟨x2, e_x2, h⟩ := zbd h
    refine zj_gI o (zdd k_M_redo 8 rfl) fl_M_410 rfl e_x2 ?_
    refine zj_imul o (zdd k_M_redo 9 rfl) ?_
    obtain ⟨σ3, e_σ3, h⟩ := zbd h
    refine zc_V o (zdd k_M_redo 10 rfl) ml_M_508 mv_M_exchange ⟨rfl, by decide⟩ (zg_some e_σ3).1 (by decide) [.int (96 * x2)] [] rfl (Nat.le_of_ble_eq_true rfl) rfl (m_M_exchange e_σ3) ?_
    change zPJ X 0 0 _ _ [] _
    refine zj_aload_n o (zdd k_M_redo 11 rfl) rfl 0 rfl ?_
    refine zj_dup o (zdd k_M_redo 12 rfl) rfl ?_
    obtain ⟨x4, e_x4, h⟩ := zbd h
    refine zj_gI o (zdd k_M_redo 13 rfl) fl_M_410 rfl e_x4 ?_
    refine zj_iconst o (zdd k_M_redo 14 rfl) zki_1 ?_
    refine zj_iadd o (zdd k_M_redo 15 rfl) ?_
    obtain ⟨σ5, e_σ5, h⟩ := zbd h
    refine zj_pI o (zdd k_M_redo 16 rfl) fl_M_410 rfl rfl e_σ5 ?_
    refine zj_aload_n o (zdd k_M_redo 17 rfl) rfl 0 rfl ?_
    refine zj_dup o (zdd k_M_redo 18 rfl) rfl ?_
    obtain ⟨x6, e_x6, h⟩ := zbd h
    refine zj_gI o (zdd k_M_redo 19 rfl) fl_M_413 rfl e_x6 ?_
    refine zj_iconst o (zdd k_M_redo 20 rfl) zki_1 ?_
    refine zj_isub o (zdd k_M_redo 21 rfl) ?_
    obtain ⟨σ7, e_σ7, h⟩ := zbd h
    refine zj_pI o (zdd k_M_redo 22 rfl) fl_M_413 rfl rfl e_σ7 ?_
    refine zj_iconst o (zdd k_M_redo 23 rfl) zki_1 ?_
    cases h
    exact zr_i o hr (zdd k_M_redo 24 rfl)
  · rw [if_pos hc] at h
    refine zj_iconst o (zdd k_M_redo 3 rfl) zki_0 ?_
    cases h
    exact zr_i o hr (zdd k_M_redo 4 rfl)
def f_M_lay (σ : zSt) (t : Nat) (p0 : Int32) : Option (zSt) :=
zg σ 12 t (
(zgP σ 12 t 58).bind fun a1 =>
(zgI σ 12 t 59).bind fun x2 =>
(zwI σ 1 a1 x2 p0).bind fun σ3 =>
(zgI σ3 12 t 59).bind fun x4 =>
(zsI σ3 12 t 59 (x4 + 1)).bind fun σ5 =>
some σ5)
set_option maxRecDepth 100000 in
set_option maxHeartbeats 4000000 in
theorem m_M_lay {l : Launch} {b : Nat} {ex : Nat → Value} {D : va_G} {ca : Nat → ClassId} {σ : zSt} {t : Nat} {p0 : Int32} {z : zSt} (h : f_M_lay σ t p0 = some z) : zMT l b ex D ca 1 y_M_lay c_M_lay n_M_lay r_ret_M_lay [.ref t, .int p0] σ none z 0 0 := by
  obtain ⟨_, hg0⟩ := zg_some h
  have h := hg0
  refine zmt_of (by decide) (Nat.le_of_ble_eq_true rfl) rfl (fun X o hin hrm _ _ _ _ _ hr => ?_)
  have hr := hr 0 0 (by decide) (by decide)
  have o : zOK X "WantShelvesModel" c_M_lay n_M_lay 1 := o
  change zPJ X 0 0 0 [(0, .ref t), (1, .int p0)] [] σ
  refine zj_aload_n o (zdd k_M_lay 0 rfl) rfl 0 rfl ?_
  obtain ⟨a1, e_a1, h⟩ := zbd h
  refine zj_gP o (zdd k_M_lay 1 rfl) fl_M_96 rfl e_a1 ?_
  refine zj_aload_n o (zdd k_M_lay 2 rfl) rfl 0 rfl ?_
  obtain ⟨x2, e_x2, h⟩ := zbd h
  refine zj_gI o (zdd k_M_lay 3 rfl) fl_M_422 rfl e_x2 ?_
  refine zj_iload_n o (zdd k_M_lay 4 rfl) rfl 1 rfl ?_
  obtain ⟨σ3, e_σ3, h⟩ := zbd h
  refine zj_iast o (zdd k_M_lay 5 rfl) e_σ3 ?_
  refine zj_aload_n o (zdd k_M_lay 6 rfl) rfl 0 rfl ?_
  refine zj_dup o (zdd k_M_lay 7 rfl) rfl ?_
  obtain ⟨x4, e_x4, h⟩ := zbd h
  refine zj_gI o (zdd k_M_lay 8 rfl) fl_M_422 rfl e_x4 ?_
  refine zj_iconst o (zdd k_M_lay 9 rfl) zki_1 ?_
  refine zj_iadd o (zdd k_M_lay 10 rfl) ?_
  obtain ⟨σ5, e_σ5, h⟩ := zbd h
  refine zj_pI o (zdd k_M_lay 11 rfl) fl_M_422 rfl rfl e_σ5 ?_
  cases h
  exact zr_v o hr (zdd k_M_lay 12 rfl)
def f_M_unlike_47 (k32 : zSt → Nat → Int32 → Int32 → Int32 → Int32 → Option (Int32 × zSt)) (k47 : zSt → Nat → Int32 → Int32 → Int32 → Int32 → Int32 → Option (Int32 × zSt)) (σ : zSt) (v0 : Nat) (v1 : Int32) (v2 : Int32) (v3 : Int32) (v4 : Int32) (v5 : Int32) : Option (Int32 × zSt) :=
(zgI σ 12 v0 42).bind fun x1 =>
if x1 ≤ v5 then (
k32 σ v0 v1 v2 v3 (v4 + 1)) else
(f_M_isOut σ v0 v4).bind fun x2 =>
if x2 = 0 then (
(f_M_isOut σ v0 v5).bind fun x3 =>
if x3 = 0 then (
(f_M_isAhead σ v0 v1 v4 v5).bind fun x4 =>
(f_M_isAhead σ v0 v2 v4 v5).bind fun x5 =>
if x4 = x5 then (
k47 σ v0 v1 v2 v3 v4 (v5 + 1)) else
if v3 = 0 then (
(f_M_lay σ v0 v4).bind fun σ6 =>
(f_M_lay σ6 v0 v5).bind fun σ7 =>
k47 σ7 v0 v1 v2 (v3 + 1) v4 (v5 + 1)) else
k47 σ v0 v1 v2 (v3 + 1) v4 (v5 + 1)) else
k47 σ v0 v1 v2 v3 v4 (v5 + 1)) else
k47 σ v0 v1 v2 v3 v4 (v5 + 1)
set_option maxRecDepth 100000 in
set_option maxHeartbeats 4000000 in
theorem r_M_unlike_47 {X : zCX} (o : zOK X "WantShelvesModel" c_M_unlike n_M_unlike 8) {k32 : zSt → Nat → Int32 → Int32 → Int32 → Int32 → Option (Int32 × zSt)} {k47 : zSt → Nat → Int32 → Int32 → Int32 → Int32 → Int32 → Option (Int32 × zSt)} (hk32 : ∀ {σ : zSt} {v0 : Nat} {v1 : Int32} {v2 : Int32} {v3 : Int32} {v4 : Int32} {z : Int32 × zSt}, k32 σ v0 v1 v2 v3 v4 = some z → zRX X 0 0 (some (.int z.1)) z.2 → zPJ X 0 0 32 [(0, .ref v0), (1, .int v1), (2, .int v2), (3, .int v3), (4, .int v4)] [] σ) (hk47 : ∀ {σ : zSt} {v0 : Nat} {v1 : Int32} {v2 : Int32} {v3 : Int32} {v4 : Int32} {v5 : Int32} {z : Int32 × zSt}, k47 σ v0 v1 v2 v3 v4 v5 = some z → zRX X 0 0 (some (.int z.1)) z.2 → zPJ X 0 0 47 [(0, .ref v0), (1, .int v1), (2, .int v2), (3, .int v3), (4, .int v4), (5, .int v5)] [] σ) {σ : zSt} {v0 : Nat} {v1 : Int32} {v2 : Int32} {v3 : Int32} {v4 : Int32} {v5 : Int32} {z : Int32 × zSt} (h : f_M_unlike_47 k32 k47 σ v0 v1 v2 v3 v4 v5 = some z) (hr : zRX X 0 0 (some (.int z.1)) z.2) : zPJ X 0 0 47 [(0, .ref v0), (1, .int v1), (2, .int v2), (3, .int v3), (4, .int v4), (5, .int v5)] [] σ := by
  unfold f_M_unlike_47 at h
  refine zj_iload o (zdd k_M_unlike 27 rfl) 5 rfl ?_
  refine zj_aload_n o (zdd k_M_unlike 28 rfl) rfl 0 rfl ?_
  obtain ⟨x1, e_x1, h⟩ := zbd h
  refine zj_gI o (zdd k_M_unlike 29 rfl) fl_M_391 rfl e_x1 ?_
  refine zj_icmp_ge (tgt := 123) o (zdd k_M_unlike 30 rfl) (by decide) (fun hc => ?_) (fun hc => ?_)
  · rw [if_pos hc] at h
    refine zj_iinc (v := v4 + 1) (loc' := [(4, .int (v4 + 1)), (0, .ref v0), (1, .int v1), (2, .int v2), (3, .int v3), (5, .int v5)]) o (zdd k_M_unlike 62 rfl) 4 rfl (by rw [zki_1]) (by decide) rfl ?_
    refine zj_goto (tgt := 32) o (zdd k_M_unlike 63 rfl) (by decide) ?_
    exact zj_sub [1, 2, 3, 4, 0] rfl (hk32 h hr)
  · rw [if_neg hc] at h
    refine zj_aload_n o (zdd k_M_unlike 31 rfl) rfl 0 rfl ?_
    refine zj_iload o (zdd k_M_unlike 32 rfl) 4 rfl ?_
    obtain ⟨x2, e_x2, h⟩ := zbd h
    refine zc_V o (zdd k_M_unlike 33 rfl) ml_M_463 mv_M_isOut ⟨rfl, by decide⟩ (zg_some e_x2).1 (by decide) [.int v4] [] rfl (Nat.le_of_ble_eq_true rfl) rfl (m_M_isOut e_x2) ?_
    change zPJ X 0 0 _ _ [.int x2] _
    refine zj_if_ne (tgt := 117) o (zdd k_M_unlike 34 rfl) (by decide) (fun hc => ?_) (fun hc => ?_)
    · rw [if_neg hc] at h
      refine zj_iinc (v := v5 + 1) (loc' := [(5, .int (v5 + 1)), (0, .ref v0), (1, .int v1), (2, .int v2), (3, .int v3), (4, .int v4)]) o (zdd k_M_unlike 60 rfl) 5 rfl (by rw [zki_1]) (by decide) rfl ?_
      refine zj_goto (tgt := 47) o (zdd k_M_unlike 61 rfl) (by decide) ?_
      exact zj_sub [1, 2, 3, 4, 5, 0] rfl (hk47 h hr)
    · rw [if_pos hc] at h
      refine zj_aload_n o (zdd k_M_unlike 35 rfl) rfl 0 rfl ?_
      refine zj_iload o (zdd k_M_unlike 36 rfl) 5 rfl ?_
      obtain ⟨x3, e_x3, h⟩ := zbd h
      refine zc_V o (zdd k_M_unlike 37 rfl) ml_M_463 mv_M_isOut ⟨rfl, by decide⟩ (zg_some e_x3).1 (by decide) [.int v5] [] rfl (Nat.le_of_ble_eq_true rfl) rfl (m_M_isOut e_x3) ?_
      change zPJ X 0 0 _ _ [.int x3] _
      refine zj_if_ne (tgt := 117) o (zdd k_M_unlike 38 rfl) (by decide) (fun hc => ?_) (fun hc => ?_)
      · rw [if_neg hc] at h
        refine zj_iinc (v := v5 + 1) (loc' := [(5, .int (v5 + 1)), (0, .ref v0), (1, .int v1), (2, .int v2), (3, .int v3), (4, .int v4)]) o (zdd k_M_unlike 60 rfl) 5 rfl (by rw [zki_1]) (by decide) rfl ?_
        refine zj_goto (tgt := 47) o (zdd k_M_unlike 61 rfl) (by decide) ?_
        exact zj_sub [1, 2, 3, 4, 5, 0] rfl (hk47 h hr)
      · rw [if_pos hc] at h
        refine zj_aload_n o (zdd k_M_unlike 39 rfl) rfl 0 rfl ?_
        refine zj_iload_n o (zdd k_M_unlike 40 rfl) rfl 1 rfl ?_
        refine zj_iload o (zdd k_M_unlike 41 rfl) 4 rfl ?_
        refine zj_iload o (zdd k_M_unlike 42 rfl) 5 rfl ?_
        obtain ⟨x4, e_x4, h⟩ := zbd h
        refine zc_V o (zdd k_M_unlike 43 rfl) ml_M_469 mv_M_isAhead ⟨rfl, by decide⟩ (zg_some e_x4).1 (by decide) [.int v1, .int v4, .int v5] [] rfl (Nat.le_of_ble_eq_true rfl) rfl (m_M_isAhead e_x4) ?_
        change zPJ X 0 0 _ _ [.int x4] _
        refine zj_aload_n o (zdd k_M_unlike 44 rfl) rfl 0 rfl ?_
        refine zj_iload_n o (zdd k_M_unlike 45 rfl) rfl 2 rfl ?_
        refine zj_iload o (zdd k_M_unlike 46 rfl) 4 rfl ?_
        refine zj_iload o (zdd k_M_unlike 47 rfl) 5 rfl ?_
        obtain ⟨x5, e_x5, h⟩ := zbd h
        refine zc_V o (zdd k_M_unlike 48 rfl) ml_M_469 mv_M_isAhead ⟨rfl, by decide⟩ (zg_some e_x5).1 (by decide) [.int v2, .int v4, .int v5] [.int x4] rfl (Nat.le_of_ble_eq_true rfl) rfl (m_M_isAhead e_x5) ?_
        change zPJ X 0 0 _ _ [.int x5, .int x4] _
        refine zj_icmp_ne (tgt := 98) o (zdd k_M_unlike 49 rfl) (by decide) (fun hc => ?_) (fun hc => ?_)
        · rw [if_neg hc] at h
          refine zj_iload_n o (zdd k_M_unlike 51 rfl) rfl 3 rfl ?_
          refine zj_if_ne (tgt := 114) o (zdd k_M_unlike 52 rfl) (by decide) (fun hc => ?_) (fun hc => ?_)
          · rw [if_neg hc] at h
            refine zj_iinc (v := v3 + 1) (loc' := [(3, .int (v3 + 1)), (0, .ref v0), (1, .int v1), (2, .int v2), (4, .int v4), (5, .int v5)]) o (zdd k_M_unlike 59 rfl) 3 rfl (by rw [zki_1]) (by decide) rfl ?_
            refine zj_iinc (v := v5 + 1) (loc' := [(5, .int (v5 + 1)), (3, .int (v3 + 1)), (0, .ref v0), (1, .int v1), (2, .int v2), (4, .int v4)]) o (zdd k_M_unlike 60 rfl) 5 rfl (by rw [zki_1]) (by decide) rfl ?_
            refine zj_goto (tgt := 47) o (zdd k_M_unlike 61 rfl) (by decide) ?_
            exact zj_sub [2, 3, 4, 1, 5, 0] rfl (hk47 h hr)
          · rw [if_pos hc] at h
            refine zj_aload_n o (zdd k_M_unlike 53 rfl) rfl 0 rfl ?_
            refine zj_iload o (zdd k_M_unlike 54 rfl) 4 rfl ?_
            obtain ⟨σ6, e_σ6, h⟩ := zbd h
            refine zc_V o (zdd k_M_unlike 55 rfl) ml_M_511 mv_M_lay ⟨rfl, by decide⟩ (zg_some e_σ6).1 (by decide) [.int v4] [] rfl (Nat.le_of_ble_eq_true rfl) rfl (m_M_lay e_σ6) ?_
            change zPJ X 0 0 _ _ [] _
            refine zj_aload_n o (zdd k_M_unlike 56 rfl) rfl 0 rfl ?_
            refine zj_iload o (zdd k_M_unlike 57 rfl) 5 rfl ?_
            obtain ⟨σ7, e_σ7, h⟩ := zbd h
            refine zc_V o (zdd k_M_unlike 58 rfl) ml_M_511 mv_M_lay ⟨rfl, by decide⟩ (zg_some e_σ7).1 (by decide) [.int v5] [] rfl (Nat.le_of_ble_eq_true rfl) rfl (m_M_lay e_σ7) ?_
            change zPJ X 0 0 _ _ [] _
            refine zj_iinc (v := v3 + 1) (loc' := [(3, .int (v3 + 1)), (0, .ref v0), (1, .int v1), (2, .int v2), (4, .int v4), (5, .int v5)]) o (zdd k_M_unlike 59 rfl) 3 rfl (by rw [zki_1]) (by decide) rfl ?_
            refine zj_iinc (v := v5 + 1) (loc' := [(5, .int (v5 + 1)), (3, .int (v3 + 1)), (0, .ref v0), (1, .int v1), (2, .int v2), (4, .int v4)]) o (zdd k_M_unlike 60 rfl) 5 rfl (by rw [zki_1]) (by decide) rfl ?_
            refine zj_goto (tgt := 47) o (zdd k_M_unlike 61 rfl) (by decide) ?_
            exact zj_sub [2, 3, 4, 1, 5, 0] rfl (hk47 h hr)
        · rw [if_pos hc] at h
          refine zj_goto (tgt := 117) o (zdd k_M_unlike 50 rfl) (by decide) ?_
          refine zj_iinc (v := v5 + 1) (loc' := [(5, .int (v5 + 1)), (0, .ref v0), (1, .int v1), (2, .int v2), (3, .int v3), (4, .int v4)]) o (zdd k_M_unlike 60 rfl) 5 rfl (by rw [zki_1]) (by decide) rfl ?_
          refine zj_goto (tgt := 47) o (zdd k_M_unlike 61 rfl) (by decide) ?_
          exact zj_sub [1, 2, 3, 4, 5, 0] rfl (hk47 h hr)
def f_M_unlike_47L (k32 : zSt → Nat → Int32 → Int32 → Int32 → Int32 → Option (Int32 × zSt)) : Nat → zSt → Nat → Int32 → Int32 → Int32 → Int32 → Int32 → Option (Int32 × zSt)
  | 0 => fun _ _ _ _ _ _ _ => none
  | n + 1 => f_M_unlike_47  k32 (f_M_unlike_47L k32 n)
theorem r_M_unlike_47L {X : zCX} (o : zOK X "WantShelvesModel" c_M_unlike n_M_unlike 8) {k32 : zSt → Nat → Int32 → Int32 → Int32 → Int32 → Option (Int32 × zSt)} (hk32 : ∀ {σ : zSt} {v0 : Nat} {v1 : Int32} {v2 : Int32} {v3 : Int32} {v4 : Int32} {z : Int32 × zSt}, k32 σ v0 v1 v2 v3 v4 = some z → zRX X 0 0 (some (.int z.1)) z.2 → zPJ X 0 0 32 [(0, .ref v0), (1, .int v1), (2, .int v2), (3, .int v3), (4, .int v4)] [] σ) : ∀ (n : Nat) {σ : zSt} {v0 : Nat} {v1 : Int32} {v2 : Int32} {v3 : Int32} {v4 : Int32} {v5 : Int32} {z : Int32 × zSt}, f_M_unlike_47L k32 n σ v0 v1 v2 v3 v4 v5 = some z → zRX X 0 0 (some (.int z.1)) z.2 → zPJ X 0 0 47 [(0, .ref v0), (1, .int v1), (2, .int v2), (3, .int v3), (4, .int v4), (5, .int v5)] [] σ
  | 0 => fun h _ => by cases h
  | n + 1 => fun h hr => r_M_unlike_47 o hk32 (r_M_unlike_47L o hk32 n) h hr
def f_M_unlike_32 (k32 : zSt → Nat → Int32 → Int32 → Int32 → Int32 → Option (Int32 × zSt)) (σ : zSt) (v0 : Nat) (v1 : Int32) (v2 : Int32) (v3 : Int32) (v4 : Int32) : Option (Int32 × zSt) :=
(zgI σ 12 v0 42).bind fun x1 =>
if x1 ≤ v4 then (
some (v3, σ)) else
f_M_unlike_47L k32 zfu σ v0 v1 v2 v3 v4 (v4 + 1)
set_option maxRecDepth 100000 in
set_option maxHeartbeats 4000000 in
theorem r_M_unlike_32 {X : zCX} (o : zOK X "WantShelvesModel" c_M_unlike n_M_unlike 8) {k32 : zSt → Nat → Int32 → Int32 → Int32 → Int32 → Option (Int32 × zSt)} (hk32 : ∀ {σ : zSt} {v0 : Nat} {v1 : Int32} {v2 : Int32} {v3 : Int32} {v4 : Int32} {z : Int32 × zSt}, k32 σ v0 v1 v2 v3 v4 = some z → zRX X 0 0 (some (.int z.1)) z.2 → zPJ X 0 0 32 [(0, .ref v0), (1, .int v1), (2, .int v2), (3, .int v3), (4, .int v4)] [] σ) {σ : zSt} {v0 : Nat} {v1 : Int32} {v2 : Int32} {v3 : Int32} {v4 : Int32} {z : Int32 × zSt} (h : f_M_unlike_32 k32 σ v0 v1 v2 v3 v4 = some z) (hr : zRX X 0 0 (some (.int z.1)) z.2) : zPJ X 0 0 32 [(0, .ref v0), (1, .int v1), (2, .int v2), (3, .int v3), (4, .int v4)] [] σ := by
  unfold f_M_unlike_32 at h
  refine zj_iload o (zdd k_M_unlike 19 rfl) 4 rfl ?_
  refine zj_aload_n o (zdd k_M_unlike 20 rfl) rfl 0 rfl ?_
  obtain ⟨x1, e_x1, h⟩ := zbd h
  refine zj_gI o (zdd k_M_unlike 21 rfl) fl_M_391 rfl e_x1 ?_
  refine zj_icmp_ge (tgt := 129) o (zdd k_M_unlike 22 rfl) (by decide) (fun hc => ?_) (fun hc => ?_)
  · rw [if_pos hc] at h
    refine zj_iload_n o (zdd k_M_unlike 64 rfl) rfl 3 rfl ?_
    cases h
    exact zr_i o hr (zdd k_M_unlike 65 rfl)
  · rw [if_neg hc] at h
    refine zj_iload o (zdd k_M_unlike 23 rfl) 4 rfl ?_
    refine zj_iconst o (zdd k_M_unlike 24 rfl) zki_1 ?_
    refine zj_iadd o (zdd k_M_unlike 25 rfl) ?_
    refine zj_istore (loc' := [(5, .int (v4 + 1)), (0, .ref v0), (1, .int v1), (2, .int v2), (3, .int v3), (4, .int v4)]) o (zdd k_M_unlike 26 rfl) (by decide) rfl ?_
    exact zj_sub [1, 2, 3, 4, 5, 0] rfl (r_M_unlike_47L o hk32 zfu h hr)
def f_M_unlike_32L : Nat → zSt → Nat → Int32 → Int32 → Int32 → Int32 → Option (Int32 × zSt)
  | 0 => fun _ _ _ _ _ _ => none
  | n + 1 => f_M_unlike_32  (f_M_unlike_32L  n)
theorem r_M_unlike_32L {X : zCX} (o : zOK X "WantShelvesModel" c_M_unlike n_M_unlike 8) : ∀ (n : Nat) {σ : zSt} {v0 : Nat} {v1 : Int32} {v2 : Int32} {v3 : Int32} {v4 : Int32} {z : Int32 × zSt}, f_M_unlike_32L n σ v0 v1 v2 v3 v4 = some z → zRX X 0 0 (some (.int z.1)) z.2 → zPJ X 0 0 32 [(0, .ref v0), (1, .int v1), (2, .int v2), (3, .int v3), (4, .int v4)] [] σ
  | 0 => fun h _ => by cases h
  | n + 1 => fun h hr => r_M_unlike_32 o (r_M_unlike_32L o  n) h hr
def f_M_unlike (σ : zSt) (t : Nat) (p0 : Int32) (p1 : Int32) : Option (Int32 × zSt) :=
zg σ 12 t (
(zsI σ 12 t 59 0).bind fun σ1 =>
(f_M_isReader σ1 t p0).bind fun x2 =>
if x2 = 0 then (
some ((-1), σ1)) else
(f_M_isReader σ1 t p1).bind fun x3 =>
if x3 = 0 then (
some ((-1), σ1)) else
(f_M_layAll σ1 t).bind fun σ4 =>
f_M_unlike_32L zfu σ4 t p0 p1 0 0)
set_option maxRecDepth 100000 in
set_option maxHeartbeats 4000000 in
theorem m_M_unlike {l : Launch} {b : Nat} {ex : Nat → Value} {D : va_G} {ca : Nat → ClassId} {σ : zSt} {t : Nat} {p0 : Int32} {p1 : Int32} {z : Int32 × zSt} (h : f_M_unlike σ t p0 p1 = some z) : zMT l b ex D ca 8 y_M_unlike c_M_unlike n_M_unlike r_ret_M_unlike [.ref t, .int p0, .int p1] σ (some (.int z.1)) z.2 0 0 := by
  obtain ⟨_, hg0⟩ := zg_some h
  have h := hg0
  refine zmt_of (by decide) (Nat.le_of_ble_eq_true rfl) ⟨.int, rfl, rfl⟩ (fun X o hin hrm _ _ _ _ _ hr => ?_)
  have hr := hr 0 0 (by decide) (by decide)
  have o : zOK X "WantShelvesModel" c_M_unlike n_M_unlike 8 := o
  change zPJ X 0 0 0 [(0, .ref t), (1, .int p0), (2, .int p1)] [] σ
  refine zj_aload_n o (zdd k_M_unlike 0 rfl) rfl 0 rfl ?_
  refine zj_iconst o (zdd k_M_unlike 1 rfl) zki_0 ?_
  obtain ⟨σ1, e_σ1, h⟩ := zbd h
  refine zj_pI o (zdd k_M_unlike 2 rfl) fl_M_422 rfl rfl e_σ1 ?_
  refine zj_aload_n o (zdd k_M_unlike 3 rfl) rfl 0 rfl ?_
  refine zj_iload_n o (zdd k_M_unlike 4 rfl) rfl 1 rfl ?_
  obtain ⟨x2, e_x2, h⟩ := zbd h
  refine zc_V o (zdd k_M_unlike 5 rfl) ml_M_441 mv_M_isReader ⟨rfl, by decide⟩ (zg_some e_x2).1 (by decide) [.int p0] [] rfl (Nat.le_of_ble_eq_true rfl) rfl (m_M_isReader e_x2) ?_
  change zPJ X 0 0 _ _ [.int x2] _
  refine zj_if_eq (tgt := 21) o (zdd k_M_unlike 6 rfl) (by decide) (fun hc => ?_) (fun hc => ?_)
  · rw [if_pos hc] at h
    refine zj_iconst o (zdd k_M_unlike 11 rfl) zki_m1 ?_
    cases h
    exact zr_i o hr (zdd k_M_unlike 12 rfl)
  · rw [if_neg hc] at h
    refine zj_aload_n o (zdd k_M_unlike 7 rfl) rfl 0 rfl ?_
    refine zj_iload_n o (zdd k_M_unlike 8 rfl) rfl 2 rfl ?_
    obtain ⟨x3, e_x3, h⟩ := zbd h
    refine zc_V o (zdd k_M_unlike 9 rfl) ml_M_441 mv_M_isReader ⟨rfl, by decide⟩ (zg_some e_x3).1 (by decide) [.int p1] [] rfl (Nat.le_of_ble_eq_true rfl) rfl (m_M_isReader e_x3) ?_
    change zPJ X 0 0 _ _ [.int x3] _
    refine zj_if_ne (tgt := 23) o (zdd k_M_unlike 10 rfl) (by decide) (fun hc => ?_) (fun hc => ?_)
    · rw [if_neg hc] at h
      refine zj_aload_n o (zdd k_M_unlike 13 rfl) rfl 0 rfl ?_
      obtain ⟨σ4, e_σ4, h⟩ := zbd h
      refine zc_V o (zdd k_M_unlike 14 rfl) ml_M_490 mv_M_layAll ⟨rfl, by decide⟩ (zg_some e_σ4).1 (by decide) [] [] rfl (Nat.le_of_ble_eq_true rfl) rfl (m_M_layAll e_σ4) ?_
      change zPJ X 0 0 _ _ [] _
      refine zj_iconst o (zdd k_M_unlike 15 rfl) zki_0 ?_
      refine zj_istore_n (loc' := [(3, .int 0), (0, .ref t), (1, .int p0), (2, .int p1)]) o (zdd k_M_unlike 16 rfl) rfl (by decide) rfl ?_
      refine zj_iconst o (zdd k_M_unlike 17 rfl) zki_0 ?_
      refine zj_istore (loc' := [(4, .int 0), (3, .int 0), (0, .ref t), (1, .int p0), (2, .int p1)]) o (zdd k_M_unlike 18 rfl) (by decide) rfl ?_
      exact zj_sub [2, 3, 4, 1, 0] rfl (r_M_unlike_32L o  zfu h hr)
    · rw [if_pos hc] at h
      refine zj_iconst o (zdd k_M_unlike 11 rfl) zki_m1 ?_
      cases h
      exact zr_i o hr (zdd k_M_unlike 12 rfl)
def f_M_members_4 (k4 : Int32 → Int32 → Int32 → Option (Int32)) (v0 : Int32) (v1 : Int32) (v2 : Int32) : Option (Int32) :=
if 10 ≤ v2 then (
some v1) else
k4 v0 (v1 + ((v0 >>> (v2 &&& 31)) &&& 1)) (v2 + 1)
set_option maxRecDepth 100000 in
set_option maxHeartbeats 4000000 in
theorem r_M_members_4 {X : zCX} (o : zOK X "WantShelvesModel" c_M_members n_M_members 1) {k4 : Int32 → Int32 → Int32 → Option (Int32)} (hk4 : ∀ {σ : zSt} {v0 : Int32} {v1 : Int32} {v2 : Int32} {z : Int32}, k4 v0 v1 v2 = some z → zRX X 0 0 (some (.int z)) σ → zPJ X 0 0 4 [(0, .int v0), (1, .int v1), (2, .int v2)] [] σ) {σ : zSt} {v0 : Int32} {v1 : Int32} {v2 : Int32} {z : Int32} (h : f_M_members_4 k4 v0 v1 v2 = some z) (hr : zRX X 0 0 (some (.int z)) σ) : zPJ X 0 0 4 [(0, .int v0), (1, .int v1), (2, .int v2)] [] σ := by
  unfold f_M_members_4 at h
  refine zj_iload_n o (zdd k_M_members 4 rfl) rfl 2 rfl ?_
  refine zj_bipush o (zdd k_M_members 5 rfl) zkb_10 ?_
  refine zj_icmp_ge (tgt := 24) o (zdd k_M_members 6 rfl) (by decide) (fun hc => ?_) (fun hc => ?_)
  · rw [if_pos hc] at h
    refine zj_iload_n o (zdd k_M_members 17 rfl) rfl 1 rfl ?_
    cases h
    exact zr_i o hr (zdd k_M_members 18 rfl)
  · rw [if_neg hc] at h
    refine zj_iload_n o (zdd k_M_members 7 rfl) rfl 1 rfl ?_
    refine zj_iload_n o (zdd k_M_members 8 rfl) rfl 0 rfl ?_
    refine zj_iload_n o (zdd k_M_members 9 rfl) rfl 2 rfl ?_
    refine zj_ishr o (zdd k_M_members 10 rfl) ?_
    refine zj_iconst o (zdd k_M_members 11 rfl) zki_1 ?_
    refine zj_iand o (zdd k_M_members 12 rfl) ?_
    refine zj_iadd o (zdd k_M_members 13 rfl) ?_
    refine zj_istore_n (loc' := [(1, .int (v1 + ((v0 >>> (v2 &&& 31)) &&& 1))), (0, .int v0), (2, .int v2)]) o (zdd k_M_members 14 rfl) rfl (by decide) rfl ?_
    refine zj_iinc (v := v2 + 1) (loc' := [(2, .int (v2 + 1)), (1, .int (v1 + ((v0 >>> (v2 &&& 31)) &&& 1))), (0, .int v0)]) o (zdd k_M_members 15 rfl) 2 rfl (by rw [zki_1]) (by decide) rfl ?_
    refine zj_goto (tgt := 4) o (zdd k_M_members 16 rfl) (by decide) ?_
    exact zj_sub [2, 1, 0] rfl (hk4 h hr)
def f_M_members_4L : Nat → Int32 → Int32 → Int32 → Option (Int32)
  | 0 => fun _ _ _ => none
  | n + 1 => f_M_members_4  (f_M_members_4L  n)
theorem r_M_members_4L {X : zCX} (o : zOK X "WantShelvesModel" c_M_members n_M_members 1) : ∀ (n : Nat) {σ : zSt} {v0 : Int32} {v1 : Int32} {v2 : Int32} {z : Int32}, f_M_members_4L n v0 v1 v2 = some z → zRX X 0 0 (some (.int z)) σ → zPJ X 0 0 4 [(0, .int v0), (1, .int v1), (2, .int v2)] [] σ
  | 0 => fun h _ => by cases h
  | n + 1 => fun h hr => r_M_members_4 o (r_M_members_4L o  n) h hr
def f_M_members (p0 : Int32) : Option (Int32) :=
f_M_members_4L zfu p0 0 0
set_option maxRecDepth 100000 in
set_option maxHeartbeats 4000000 in
theorem m_M_members {l : Launch} {b : Nat} {ex : Nat → Value} {D : va_G} {ca : Nat → ClassId} {σ : zSt} {p0 : Int32} {z : Int32} (h : f_M_members p0 = some z) : zMT l b ex D ca 1 y_M_members c_M_members n_M_members r_ret_M_members [.int p0] σ (some (.int z)) σ 0 0 := by
  unfold f_M_members at h
  refine zmt_of (by decide) (Nat.le_of_ble_eq_true rfl) ⟨.int, rfl, rfl⟩ (fun X o hin hrm _ _ _ _ _ hr => ?_)
  have hr := hr 0 0 (by decide) (by decide)
  have o : zOK X "WantShelvesModel" c_M_members n_M_members 1 := o
  change zPJ X 0 0 0 [(0, .int p0)] [] σ
  refine zj_iconst o (zdd k_M_members 0 rfl) zki_0 ?_
  refine zj_istore_n (loc' := [(1, .int 0), (0, .int p0)]) o (zdd k_M_members 1 rfl) rfl (by decide) rfl ?_
  refine zj_iconst o (zdd k_M_members 2 rfl) zki_0 ?_
  refine zj_istore_n (loc' := [(2, .int 0), (1, .int 0), (0, .int p0)]) o (zdd k_M_members 3 rfl) rfl (by decide) rfl ?_
  exact zj_sub [2, 1, 0] rfl (r_M_members_4L o  zfu h hr)
def f_M_send_109 (σ : zSt) (v2 : Int32) (v3 : Int32) (v4 : Int32) : Option (Int32 × zSt) :=
if v2 = 0 then (
some (v4 / 10, σ)) else
some (v3, σ)
set_option maxRecDepth 100000 in
set_option maxHeartbeats 4000000 in
theorem r_M_send_109 {X : zCX} (o : zOK X "WantShelvesModel" c_M_send n_M_send 8) {σ : zSt} {v2 : Int32} {v3 : Int32} {v4 : Int32} {z : Int32 × zSt} (h : f_M_send_109 σ v2 v3 v4 = some z) (hr : zRX X 0 0 (some (.int z.1)) z.2) : zPJ X 0 0 109 [(2, .int v2), (3, .int v3), (4, .int v4)] [] σ := by
  unfold f_M_send_109 at h
  refine zj_iload_n o (zdd k_M_send 57 rfl) rfl 0 rfl ?_
  refine zj_if_ne (tgt := 121) o (zdd k_M_send 58 rfl) (by decide) (fun hc => ?_) (fun hc => ?_)
  · rw [if_neg hc] at h
    refine zj_iload_n o (zdd k_M_send 63 rfl) rfl 1 rfl ?_
    cases h
    exact zr_i o hr (zdd k_M_send 64 rfl)
  · rw [if_pos hc] at h
    refine zj_iload o (zdd k_M_send 59 rfl) 2 rfl ?_
    refine zj_bipush o (zdd k_M_send 60 rfl) zkb_10 ?_
    refine zj_idiv o (zdd k_M_send 61 rfl) (by decide) ?_
    refine zj_goto (tgt := 122) o (zdd k_M_send 62 rfl) (by decide) ?_
    cases h
    exact zr_i o hr (zdd k_M_send 64 rfl)
def f_M_send_48 (k48 : zSt → Nat → Int32 → Int32 → Int32 → Int32 → Int32 → Option (Int32 × zSt)) (σ : zSt) (v0 : Nat) (v1 : Int32) (v2 : Int32) (v3 : Int32) (v4 : Int32) (v5 : Int32) : Option (Int32 × zSt) :=
(zgI σ 12 v0 43).bind fun x1 =>
if 1 <<< (x1 &&& 31) ≤ v5 then (
f_M_send_109 σ v2 v3 v4) else
(f_M_layOrder σ v0 v5).bind fun σ2 =>
(zgP σ2 12 v0 53).bind fun a3 =>
(zaI σ2 1 a3 v1).bind fun x4 =>
(f_M_stepsTo σ2 v0 x4).bind fun x5 =>
(f_M_members v5).bind fun x6 =>
if (10 * x5) + x6 < v4 then (
k48 σ2 v0 v1 v2 v5 ((10 * x5) + x6) (v5 + 1)) else
k48 σ2 v0 v1 v2 v3 v4 (v5 + 1)
set_option maxRecDepth 100000 in
set_option maxHeartbeats 4000000 in
theorem r_M_send_48 {X : zCX} (o : zOK X "WantShelvesModel" c_M_send n_M_send 8) {k48 : zSt → Nat → Int32 → Int32 → Int32 → Int32 → Int32 → Option (Int32 × zSt)} (hk48 : ∀ {σ : zSt} {v0 : Nat} {v1 : Int32} {v2 : Int32} {v3 : Int32} {v4 : Int32} {v5 : Int32} {z : Int32 × zSt}, k48 σ v0 v1 v2 v3 v4 v5 = some z → zRX X 0 0 (some (.int z.1)) z.2 → zPJ X 0 0 48 [(0, .ref v0), (1, .int v1), (2, .int v2), (3, .int v3), (4, .int v4), (5, .int v5)] [] σ) {σ : zSt} {v0 : Nat} {v1 : Int32} {v2 : Int32} {v3 : Int32} {v4 : Int32} {v5 : Int32} {z : Int32 × zSt} (h : f_M_send_48 k48 σ v0 v1 v2 v3 v4 v5 = some z) (hr : zRX X 0 0 (some (.int z.1)) z.2) : zPJ X 0 0 48 [(0, .ref v0), (1, .int v1), (2, .int v2), (3, .int v3), (4, .int v4), (5, .int v5)] [] σ := by
  unfold f_M_send_48 at h
  refine zj_iload o (zdd k_M_send 26 rfl) 5 rfl ?_
  refine zj_iconst o (zdd k_M_send 27 rfl) zki_1 ?_
  refine zj_aload_n o (zdd k_M_send 28 rfl) rfl 0 rfl ?_
  obtain ⟨x1, e_x1, h⟩ := zbd h
  refine zj_gI o (zdd k_M_send 29 rfl) fl_M_394 rfl e_x1 ?_
  refine zj_ishl o (zdd k_M_send 30 rfl) ?_
  refine zj_icmp_ge (tgt := 109) o (zdd k_M_send 31 rfl) (by decide) (fun hc => ?_) (fun hc => ?_)
  · rw [if_pos hc] at h
    exact zj_sub [2, 3, 4] rfl (r_M_send_109 o  h hr)
  · rw [if_neg hc] at h
    refine zj_aload_n o (zdd k_M_send 32 rfl) rfl 0 rfl ?_
    refine zj_iload o (zdd k_M_send 33 rfl) 5 rfl ?_
    obtain ⟨σ2, e_σ2, h⟩ := zbd h
    refine zc_V o (zdd k_M_send 34 rfl) ml_M_493 mv_M_layOrder ⟨rfl, by decide⟩ (zg_some e_σ2).1 (by decide) [.int v5] [] rfl (Nat.le_of_ble_eq_true rfl) rfl (m_M_layOrder e_σ2) ?_
    change zPJ X 0 0 _ _ [] _
    refine zj_bipush o (zdd k_M_send 35 rfl) zkb_10 ?_
    refine zj_aload_n o (zdd k_M_send 36 rfl) rfl 0 rfl ?_
    refine zj_aload_n o (zdd k_M_send 37 rfl) rfl 0 rfl ?_
    obtain ⟨a3, e_a3, h⟩ := zbd h
    refine zj_gP o (zdd k_M_send 38 rfl) fl_M_90 rfl e_a3 ?_
    refine zj_iload_n o (zdd k_M_send 39 rfl) rfl 1 rfl ?_
    obtain ⟨x4, e_x4, h⟩ := zbd h
    refine zj_iald o (zdd k_M_send 40 rfl) e_x4 ?_
    obtain ⟨x5, e_x5, h⟩ := zbd h
    refine zc_V o (zdd k_M_send 41 rfl) ml_M_496 mv_M_stepsTo ⟨rfl, by decide⟩ (zg_some e_x5).1 (by decide) [.int x4] [.int 10] rfl (Nat.le_of_ble_eq_true rfl) rfl (m_M_stepsTo e_x5) ?_
    change zPJ X 0 0 _ _ [.int x5, .int 10] _
    refine zj_imul o (zdd k_M_send 42 rfl) ?_
    refine zj_iload o (zdd k_M_send 43 rfl) 5 rfl ?_
    obtain ⟨x6, e_x6, h⟩ := zbd h
    refine zc_S o (zdd k_M_send 44 rfl) ml_M_515 ms_M_members (by decide) [.int v5] [.int (10 * x5)] rfl (Nat.le_of_ble_eq_true rfl) rfl (m_M_members e_x6) ?_
    change zPJ X 0 0 _ _ [.int x6, .int (10 * x5)] _
    refine zj_iadd o (zdd k_M_send 45 rfl) ?_
    refine zj_istore (loc' := [(6, .int ((10 * x5) + x6)), (0, .ref v0), (1, .int v1), (2, .int v2), (3, .int v3), (4, .int v4), (5, .int v5)]) o (zdd k_M_send 46 rfl) (by decide) rfl ?_
    refine zj_iload o (zdd k_M_send 47 rfl) 0 rfl ?_
    refine zj_iload o (zdd k_M_send 48 rfl) 5 rfl ?_
    refine zj_icmp_lt (tgt := 96) o (zdd k_M_send 49 rfl) (by decide) (fun hc => ?_) (fun hc => ?_)
    · rw [if_pos hc] at h
      refine zj_iload o (zdd k_M_send 51 rfl) 6 rfl ?_
      refine zj_istore_n (loc' := [(3, .int v5), (6, .int ((10 * x5) + x6)), (0, .ref v0), (1, .int v1), (2, .int v2), (4, .int v4), (5, .int v5)]) o (zdd k_M_send 52 rfl) rfl (by decide) rfl ?_
      refine zj_iload o (zdd k_M_send 53 rfl) 1 rfl ?_
      refine zj_istore (loc' := [(4, .int ((10 * x5) + x6)), (3, .int v5), (6, .int ((10 * x5) + x6)), (0, .ref v0), (1, .int v1), (2, .int v2), (5, .int v5)]) o (zdd k_M_send 54 rfl) (by decide) rfl ?_
      refine zj_iinc (v := v5 + 1) (loc' := [(5, .int (v5 + 1)), (4, .int ((10 * x5) + x6)), (3, .int v5), (6, .int ((10 * x5) + x6)), (0, .ref v0), (1, .int v1), (2, .int v2)]) o (zdd k_M_send 55 rfl) 6 rfl (by rw [zki_1]) (by decide) rfl ?_
      refine zj_goto (tgt := 48) o (zdd k_M_send 56 rfl) (by decide) ?_
      exact zj_sub [4, 5, 6, 2, 1, 0] rfl (hk48 h hr)
    · rw [if_neg hc] at h
      refine zj_goto (tgt := 103) o (zdd k_M_send 50 rfl) (by decide) ?_
      refine zj_iinc (v := v5 + 1) (loc' := [(5, .int (v5 + 1)), (6, .int ((10 * x5) + x6)), (0, .ref v0), (1, .int v1), (2, .int v2), (3, .int v3), (4, .int v4)]) o (zdd k_M_send 55 rfl) 6 rfl (by rw [zki_1]) (by decide) rfl ?_
      refine zj_goto (tgt := 48) o (zdd k_M_send 56 rfl) (by decide) ?_
      exact zj_sub [2, 3, 4, 5, 6, 0] rfl (hk48 h hr)
def f_M_send_48L : Nat → zSt → Nat → Int32 → Int32 → Int32 → Int32 → Int32 → Option (Int32 × zSt)
  | 0 => fun _ _ _ _ _ _ _ => none
  | n + 1 => f_M_send_48  (f_M_send_48L  n)
theorem r_M_send_48L {X : zCX} (o : zOK X "WantShelvesModel" c_M_send n_M_send 8) : ∀ (n : Nat) {σ : zSt} {v0 : Nat} {v1 : Int32} {v2 : Int32} {v3 : Int32} {v4 : Int32} {v5 : Int32} {z : Int32 × zSt}, f_M_send_48L n σ v0 v1 v2 v3 v4 v5 = some z → zRX X 0 0 (some (.int z.1)) z.2 → zPJ X 0 0 48 [(0, .ref v0), (1, .int v1), (2, .int v2), (3, .int v3), (4, .int v4), (5, .int v5)] [] σ
  | 0 => fun h _ => by cases h
  | n + 1 => fun h hr => r_M_send_48 o (r_M_send_48L o  n) h hr
def f_M_send (σ : zSt) (t : Nat) (p0 : Int32) (p1 : Int32) : Option (Int32 × zSt) :=
zg σ 12 t (
(f_M_isBook σ t p0).bind fun x1 =>
if x1 = 0 then (
some ((-1), σ)) else
(f_M_isOut σ t p0).bind fun x2 =>
if x2 = 0 then (
(zgI σ 12 t 43).bind fun x3 =>
if x3 = 0 then (
some ((-1), σ)) else
(f_M_isIn p1 0 1).bind fun x4 =>
if x4 = 0 then (
some ((-1), σ)) else
(f_M_layAll σ t).bind fun σ5 =>
f_M_send_48L zfu σ5 t p0 p1 0 1000000 1) else
some ((-1), σ))
set_option maxRecDepth 100000 in
set_option maxHeartbeats 4000000 in
theorem m_M_send {l : Launch} {b : Nat} {ex : Nat → Value} {D : va_G} {ca : Nat → ClassId} {σ : zSt} {t : Nat} {p0 : Int32} {p1 : Int32} {z : Int32 × zSt} (h : f_M_send σ t p0 p1 = some z) : zMT l b ex D ca 8 y_M_send c_M_send n_M_send r_ret_M_send [.ref t, .int p0, .int p1] σ (some (.int z.1)) z.2 0 0 := by
  obtain ⟨_, hg0⟩ := zg_some h
  have h := hg0
  refine zmt_of (by decide) (Nat.le_of_ble_eq_true rfl) ⟨.int, rfl, rfl⟩ (fun X o hin hrm _ _ _ _ _ hr => ?_)
  have hr := hr 0 0 (by decide) (by decide)
  have o : zOK X "WantShelvesModel" c_M_send n_M_send 8 := o
  change zPJ X 0 0 0 [(0, .ref t), (1, .int p0), (2, .int p1)] [] σ
  refine zj_aload_n o (zdd k_M_send 0 rfl) rfl 0 rfl ?_
  refine zj_iload_n o (zdd k_M_send 1 rfl) rfl 1 rfl ?_
  obtain ⟨x1, e_x1, h⟩ := zbd h
  refine zc_V o (zdd k_M_send 2 rfl) ml_M_435 mv_M_isBook ⟨rfl, by decide⟩ (zg_some e_x1).1 (by decide) [.int p0] [] rfl (Nat.le_of_ble_eq_true rfl) rfl (m_M_isBook e_x1) ?_
  change zPJ X 0 0 _ _ [.int x1] _
  refine zj_if_eq (tgt := 32) o (zdd k_M_send 3 rfl) (by decide) (fun hc => ?_) (fun hc => ?_)
  · rw [if_pos hc] at h
    refine zj_iconst o (zdd k_M_send 16 rfl) zki_m1 ?_
    cases h
    exact zr_i o hr (zdd k_M_send 17 rfl)
  · rw [if_neg hc] at h
    refine zj_aload_n o (zdd k_M_send 4 rfl) rfl 0 rfl ?_
    refine zj_iload_n o (zdd k_M_send 5 rfl) rfl 1 rfl ?_
    obtain ⟨x2, e_x2, h⟩ := zbd h
    refine zc_V o (zdd k_M_send 6 rfl) ml_M_463 mv_M_isOut ⟨rfl, by decide⟩ (zg_some e_x2).1 (by decide) [.int p0] [] rfl (Nat.le_of_ble_eq_true rfl) rfl (m_M_isOut e_x2) ?_
    change zPJ X 0 0 _ _ [.int x2] _
    refine zj_if_ne (tgt := 32) o (zdd k_M_send 7 rfl) (by decide) (fun hc => ?_) (fun hc => ?_)
    · rw [if_neg hc] at h
      refine zj_iconst o (zdd k_M_send 16 rfl) zki_m1 ?_
      cases h
      exact zr_i o hr (zdd k_M_send 17 rfl)
    · rw [if_pos hc] at h
      refine zj_aload_n o (zdd k_M_send 8 rfl) rfl 0 rfl ?_
      obtain ⟨x3, e_x3, h⟩ := zbd h
      refine zj_gI o (zdd k_M_send 9 rfl) fl_M_394 rfl e_x3 ?_
      refine zj_if_eq (tgt := 32) o (zdd k_M_send 10 rfl) (by decide) (fun hc => ?_) (fun hc => ?_)
      · rw [if_pos hc] at h
        refine zj_iconst o (zdd k_M_send 16 rfl) zki_m1 ?_
        cases h
        exact zr_i o hr (zdd k_M_send 17 rfl)
      · rw [if_neg hc] at h
        refine zj_iload_n o (zdd k_M_send 11 rfl) rfl 2 rfl ?_
        refine zj_iconst o (zdd k_M_send 12 rfl) zki_0 ?_
        refine zj_iconst o (zdd k_M_send 13 rfl) zki_1 ?_
        obtain ⟨x4, e_x4, h⟩ := zbd h
        refine zc_S o (zdd k_M_send 14 rfl) ml_M_425 ms_M_isIn (by decide) [.int p1, .int 0, .int 1] [] rfl (Nat.le_of_ble_eq_true rfl) rfl (m_M_isIn e_x4) ?_
        change zPJ X 0 0 _ _ [.int x4] _
        refine zj_if_ne (tgt := 34) o (zdd k_M_send 15 rfl) (by decide) (fun hc => ?_) (fun hc => ?_)
        · rw [if_neg hc] at h
          refine zj_aload_n o (zdd k_M_send 18 rfl) rfl 0 rfl ?_
          obtain ⟨σ5, e_σ5, h⟩ := zbd h
          refine zc_V o (zdd k_M_send 19 rfl) ml_M_490 mv_M_layAll ⟨rfl, by decide⟩ (zg_some e_σ5).1 (by decide) [] [] rfl (Nat.le_of_ble_eq_true rfl) rfl (m_M_layAll e_σ5) ?_
          change zPJ X 0 0 _ _ [] _
          refine zj_iconst o (zdd k_M_send 20 rfl) zki_0 ?_
          refine zj_istore_n (loc' := [(3, .int 0), (0, .ref t), (1, .int p0), (2, .int p1)]) o (zdd k_M_send 21 rfl) rfl (by decide) rfl ?_
          refine zj_ldcw o (zdd k_M_send 22 rfl) co_M_514 ?_
          refine zj_istore (loc' := [(4, .int 1000000), (3, .int 0), (0, .ref t), (1, .int p0), (2, .int p1)]) o (zdd k_M_send 23 rfl) (by decide) rfl ?_
          refine zj_iconst o (zdd k_M_send 24 rfl) zki_1 ?_
          refine zj_istore (loc' := [(5, .int 1), (4, .int 1000000), (3, .int 0), (0, .ref t), (1, .int p0), (2, .int p1)]) o (zdd k_M_send 25 rfl) (by decide) rfl ?_
          exact zj_sub [3, 4, 5, 2, 1, 0] rfl (r_M_send_48L o  zfu h hr)
        · rw [if_pos hc] at h
          refine zj_iconst o (zdd k_M_send 16 rfl) zki_m1 ?_
          cases h
          exact zr_i o hr (zdd k_M_send 17 rfl)
def f_M_think_111 (σ : zSt) (v3 : Int32) (v4 : Int32) (v5 : Int32) : Option (Int32 × zSt) :=
if v3 = 0 then (
some (v5, σ)) else
some (v4, σ)
set_option maxRecDepth 100000 in
set_option maxHeartbeats 4000000 in
theorem r_M_think_111 {X : zCX} (o : zOK X "WantShelvesModel" c_M_think n_M_think 6) {σ : zSt} {v3 : Int32} {v4 : Int32} {v5 : Int32} {z : Int32 × zSt} (h : f_M_think_111 σ v3 v4 v5 = some z) (hr : zRX X 0 0 (some (.int z.1)) z.2) : zPJ X 0 0 111 [(3, .int v3), (4, .int v4), (5, .int v5)] [] σ := by
  unfold f_M_think_111 at h
  refine zj_iload_n o (zdd k_M_think 58 rfl) rfl 0 rfl ?_
  refine zj_if_ne (tgt := 120) o (zdd k_M_think 59 rfl) (by decide) (fun hc => ?_) (fun hc => ?_)
  · rw [if_neg hc] at h
    refine zj_iload o (zdd k_M_think 62 rfl) 1 rfl ?_
    cases h
    exact zr_i o hr (zdd k_M_think 63 rfl)
  · rw [if_pos hc] at h
    refine zj_iload o (zdd k_M_think 60 rfl) 2 rfl ?_
    refine zj_goto (tgt := 122) o (zdd k_M_think 61 rfl) (by decide) ?_
    cases h
    exact zr_i o hr (zdd k_M_think 63 rfl)
def f_M_think_47 (k47 : zSt → Nat → Int32 → Int32 → Int32 → Int32 → Int32 → Int32 → Option (Int32 × zSt)) (σ : zSt) (v0 : Nat) (v1 : Int32) (v2 : Int32) (v3 : Int32) (v4 : Int32) (v5 : Int32) (v6 : Int32) : Option (Int32 × zSt) :=
(zgI σ 12 v0 41).bind fun x1 =>
if x1 ≤ v6 then (
f_M_think_111 σ v3 v4 v5) else
(f_M_layHand σ v0 v1 v6).bind fun σ2 =>
(f_M_layKeys σ2 v0 v1).bind fun σ3 =>
(f_M_layOrder σ3 v0 (1 <<< (v1 &&& 31))).bind fun σ4 =>
(zgP σ4 12 v0 53).bind fun a5 =>
(zaI σ4 1 a5 v2).bind fun x6 =>
(f_M_stepsTo σ4 v0 x6).bind fun x7 =>
if x7 < v5 then (
k47 σ4 v0 v1 v2 v3 v6 x7 (v6 + 1)) else
k47 σ4 v0 v1 v2 v3 v4 v5 (v6 + 1)
set_option maxRecDepth 100000 in
set_option maxHeartbeats 4000000 in
theorem r_M_think_47 {X : zCX} (o : zOK X "WantShelvesModel" c_M_think n_M_think 6) {k47 : zSt → Nat → Int32 → Int32 → Int32 → Int32 → Int32 → Int32 → Option (Int32 × zSt)} (hk47 : ∀ {σ : zSt} {v0 : Nat} {v1 : Int32} {v2 : Int32} {v3 : Int32} {v4 : Int32} {v5 : Int32} {v6 : Int32} {z : Int32 × zSt}, k47 σ v0 v1 v2 v3 v4 v5 v6 = some z → zRX X 0 0 (some (.int z.1)) z.2 → zPJ X 0 0 47 [(0, .ref v0), (1, .int v1), (2, .int v2), (3, .int v3), (4, .int v4), (5, .int v5), (6, .int v6)] [] σ) {σ : zSt} {v0 : Nat} {v1 : Int32} {v2 : Int32} {v3 : Int32} {v4 : Int32} {v5 : Int32} {v6 : Int32} {z : Int32 × zSt} (h : f_M_think_47 k47 σ v0 v1 v2 v3 v4 v5 v6 = some z) (hr : zRX X 0 0 (some (.int z.1)) z.2) : zPJ X 0 0 47 [(0, .ref v0), (1, .int v1), (2, .int v2), (3, .int v3), (4, .int v4), (5, .int v5), (6, .int v6)] [] σ := by
  unfold f_M_think_47 at h
  refine zj_iload o (zdd k_M_think 25 rfl) 6 rfl ?_
  refine zj_aload_n o (zdd k_M_think 26 rfl) rfl 0 rfl ?_
  obtain ⟨x1, e_x1, h⟩ := zbd h
  refine zj_gI o (zdd k_M_think 27 rfl) fl_M_388 rfl e_x1 ?_
  refine zj_icmp_ge (tgt := 111) o (zdd k_M_think 28 rfl) (by decide) (fun hc => ?_) (fun hc => ?_)
  · rw [if_pos hc] at h
    exact zj_sub [3, 4, 5] rfl (r_M_think_111 o  h hr)
  · rw [if_neg hc] at h
    refine zj_aload_n o (zdd k_M_think 29 rfl) rfl 0 rfl ?_
    refine zj_iload_n o (zdd k_M_think 30 rfl) rfl 1 rfl ?_
    refine zj_iload o (zdd k_M_think 31 rfl) 6 rfl ?_
    obtain ⟨σ2, e_σ2, h⟩ := zbd h
    refine zc_V o (zdd k_M_think 32 rfl) ml_M_451 mv_M_layHand ⟨rfl, by decide⟩ (zg_some e_σ2).1 (by decide) [.int v1, .int v6] [] rfl (Nat.le_of_ble_eq_true rfl) rfl (m_M_layHand e_σ2) ?_
    change zPJ X 0 0 _ _ [] _
    refine zj_aload_n o (zdd k_M_think 33 rfl) rfl 0 rfl ?_
    refine zj_iload_n o (zdd k_M_think 34 rfl) rfl 1 rfl ?_
    obtain ⟨σ3, e_σ3, h⟩ := zbd h
    refine zc_V o (zdd k_M_think 35 rfl) ml_M_454 mv_M_layKeys ⟨rfl, by decide⟩ (zg_some e_σ3).1 (by decide) [.int v1] [] rfl (Nat.le_of_ble_eq_true rfl) rfl (m_M_layKeys e_σ3) ?_
    change zPJ X 0 0 _ _ [] _
    refine zj_aload_n o (zdd k_M_think 36 rfl) rfl 0 rfl ?_
    refine zj_iconst o (zdd k_M_think 37 rfl) zki_1 ?_
    refine zj_iload_n o (zdd k_M_think 38 rfl) rfl 1 rfl ?_
    refine zj_ishl o (zdd k_M_think 39 rfl) ?_
    obtain ⟨σ4, e_σ4, h⟩ := zbd h
    refine zc_V o (zdd k_M_think 40 rfl) ml_M_493 mv_M_layOrder ⟨rfl, by decide⟩ (zg_some e_σ4).1 (by decide) [.int (1 <<< (v1 &&& 31))] [] rfl (Nat.le_of_ble_eq_true rfl) rfl (m_M_layOrder e_σ4) ?_
    change zPJ X 0 0 _ _ [] _
    refine zj_aload_n o (zdd k_M_think 41 rfl) rfl 0 rfl ?_
    refine zj_aload_n o (zdd k_M_think 42 rfl) rfl 0 rfl ?_
    obtain ⟨a5, e_a5, h⟩ := zbd h
    refine zj_gP o (zdd k_M_think 43 rfl) fl_M_90 rfl e_a5 ?_
    refine zj_iload_n o (zdd k_M_think 44 rfl) rfl 2 rfl ?_
    obtain ⟨x6, e_x6, h⟩ := zbd h
    refine zj_iald o (zdd k_M_think 45 rfl) e_x6 ?_
    obtain ⟨x7, e_x7, h⟩ := zbd h
    refine zc_V o (zdd k_M_think 46 rfl) ml_M_496 mv_M_stepsTo ⟨rfl, by decide⟩ (zg_some e_x7).1 (by decide) [.int x6] [] rfl (Nat.le_of_ble_eq_true rfl) rfl (m_M_stepsTo e_x7) ?_
    change zPJ X 0 0 _ _ [.int x7] _
    refine zj_istore (loc' := [(7, .int x7), (0, .ref v0), (1, .int v1), (2, .int v2), (3, .int v3), (4, .int v4), (5, .int v5), (6, .int v6)]) o (zdd k_M_think 47 rfl) (by decide) rfl ?_
    refine zj_iload o (zdd k_M_think 48 rfl) 0 rfl ?_
    refine zj_iload o (zdd k_M_think 49 rfl) 6 rfl ?_
    refine zj_icmp_lt (tgt := 97) o (zdd k_M_think 50 rfl) (by decide) (fun hc => ?_) (fun hc => ?_)
    · rw [if_pos hc] at h
      refine zj_iload o (zdd k_M_think 52 rfl) 7 rfl ?_
      refine zj_istore (loc' := [(4, .int v6), (7, .int x7), (0, .ref v0), (1, .int v1), (2, .int v2), (3, .int v3), (5, .int v5), (6, .int v6)]) o (zdd k_M_think 53 rfl) (by decide) rfl ?_
      refine zj_iload o (zdd k_M_think 54 rfl) 1 rfl ?_
      refine zj_istore (loc' := [(5, .int x7), (4, .int v6), (7, .int x7), (0, .ref v0), (1, .int v1), (2, .int v2), (3, .int v3), (6, .int v6)]) o (zdd k_M_think 55 rfl) (by decide) rfl ?_
      refine zj_iinc (v := v6 + 1) (loc' := [(6, .int (v6 + 1)), (5, .int x7), (4, .int v6), (7, .int x7), (0, .ref v0), (1, .int v1), (2, .int v2), (3, .int v3)]) o (zdd k_M_think 56 rfl) 7 rfl (by rw [zki_1]) (by decide) rfl ?_
      refine zj_goto (tgt := 47) o (zdd k_M_think 57 rfl) (by decide) ?_
      exact zj_sub [4, 5, 6, 7, 2, 1, 0] rfl (hk47 h hr)
    · rw [if_neg hc] at h
      refine zj_goto (tgt := 105) o (zdd k_M_think 51 rfl) (by decide) ?_
      refine zj_iinc (v := v6 + 1) (loc' := [(6, .int (v6 + 1)), (7, .int x7), (0, .ref v0), (1, .int v1), (2, .int v2), (3, .int v3), (4, .int v4), (5, .int v5)]) o (zdd k_M_think 56 rfl) 7 rfl (by rw [zki_1]) (by decide) rfl ?_
      refine zj_goto (tgt := 47) o (zdd k_M_think 57 rfl) (by decide) ?_
      exact zj_sub [2, 3, 4, 5, 6, 7, 0] rfl (hk47 h hr)
def f_M_think_47L : Nat → zSt → Nat → Int32 → Int32 → Int32 → Int32 → Int32 → Int32 → Option (Int32 × zSt)
  | 0 => fun _ _ _ _ _ _ _ _ => none
  | n + 1 => f_M_think_47  (f_M_think_47L  n)
theorem r_M_think_47L {X : zCX} (o : zOK X "WantShelvesModel" c_M_think n_M_think 6) : ∀ (n : Nat) {σ : zSt} {v0 : Nat} {v1 : Int32} {v2 : Int32} {v3 : Int32} {v4 : Int32} {v5 : Int32} {v6 : Int32} {z : Int32 × zSt}, f_M_think_47L n σ v0 v1 v2 v3 v4 v5 v6 = some z → zRX X 0 0 (some (.int z.1)) z.2 → zPJ X 0 0 47 [(0, .ref v0), (1, .int v1), (2, .int v2), (3, .int v3), (4, .int v4), (5, .int v5), (6, .int v6)] [] σ
  | 0 => fun h _ => by cases h
  | n + 1 => fun h hr => r_M_think_47 o (r_M_think_47L o  n) h hr
def f_M_think (σ : zSt) (t : Nat) (p0 : Int32) (p1 : Int32) (p2 : Int32) : Option (Int32 × zSt) :=
zg σ 12 t (
(f_M_isReader σ t p0).bind fun x1 =>
if x1 = 0 then (
some ((-2), σ)) else
(f_M_isBook σ t p1).bind fun x2 =>
if x2 = 0 then (
some ((-2), σ)) else
(f_M_isOut σ t p1).bind fun x3 =>
if x3 = 0 then (
(f_M_isIn p2 0 1).bind fun x4 =>
if x4 = 0 then (
some ((-2), σ)) else
f_M_think_47L zfu σ t p0 p1 p2 (-1) 1000000 (-1)) else
some ((-2), σ))
set_option maxRecDepth 100000 in
set_option maxHeartbeats 4000000 in
theorem m_M_think {l : Launch} {b : Nat} {ex : Nat → Value} {D : va_G} {ca : Nat → ClassId} {σ : zSt} {t : Nat} {p0 : Int32} {p1 : Int32} {p2 : Int32} {z : Int32 × zSt} (h : f_M_think σ t p0 p1 p2 = some z) : zMT l b ex D ca 6 y_M_think c_M_think n_M_think r_ret_M_think [.ref t, .int p0, .int p1, .int p2] σ (some (.int z.1)) z.2 0 0 := by
  obtain ⟨_, hg0⟩ := zg_some h
  have h := hg0
  refine zmt_of (by decide) (Nat.le_of_ble_eq_true rfl) ⟨.int, rfl, rfl⟩ (fun X o hin hrm _ _ _ _ _ hr => ?_)
  have hr := hr 0 0 (by decide) (by decide)
  have o : zOK X "WantShelvesModel" c_M_think n_M_think 6 := o
  change zPJ X 0 0 0 [(0, .ref t), (1, .int p0), (2, .int p1), (3, .int p2)] [] σ
  refine zj_aload_n o (zdd k_M_think 0 rfl) rfl 0 rfl ?_
  refine zj_iload_n o (zdd k_M_think 1 rfl) rfl 1 rfl ?_
  obtain ⟨x1, e_x1, h⟩ := zbd h
  refine zc_V o (zdd k_M_think 2 rfl) ml_M_441 mv_M_isReader ⟨rfl, by decide⟩ (zg_some e_x1).1 (by decide) [.int p0] [] rfl (Nat.le_of_ble_eq_true rfl) rfl (m_M_isReader e_x1) ?_
  change zPJ X 0 0 _ _ [.int x1] _
  refine zj_if_eq (tgt := 33) o (zdd k_M_think 3 rfl) (by decide) (fun hc => ?_) (fun hc => ?_)
  · rw [if_pos hc] at h
    refine zj_bipush o (zdd k_M_think 17 rfl) zkb_m2 ?_
    cases h
    exact zr_i o hr (zdd k_M_think 18 rfl)
  · rw [if_neg hc] at h
    refine zj_aload_n o (zdd k_M_think 4 rfl) rfl 0 rfl ?_
    refine zj_iload_n o (zdd k_M_think 5 rfl) rfl 2 rfl ?_
    obtain ⟨x2, e_x2, h⟩ := zbd h
    refine zc_V o (zdd k_M_think 6 rfl) ml_M_435 mv_M_isBook ⟨rfl, by decide⟩ (zg_some e_x2).1 (by decide) [.int p1] [] rfl (Nat.le_of_ble_eq_true rfl) rfl (m_M_isBook e_x2) ?_
    change zPJ X 0 0 _ _ [.int x2] _
    refine zj_if_eq (tgt := 33) o (zdd k_M_think 7 rfl) (by decide) (fun hc => ?_) (fun hc => ?_)
    · rw [if_pos hc] at h
      refine zj_bipush o (zdd k_M_think 17 rfl) zkb_m2 ?_
      cases h
      exact zr_i o hr (zdd k_M_think 18 rfl)
    · rw [if_neg hc] at h
      refine zj_aload_n o (zdd k_M_think 8 rfl) rfl 0 rfl ?_
      refine zj_iload_n o (zdd k_M_think 9 rfl) rfl 2 rfl ?_
      obtain ⟨x3, e_x3, h⟩ := zbd h
      refine zc_V o (zdd k_M_think 10 rfl) ml_M_463 mv_M_isOut ⟨rfl, by decide⟩ (zg_some e_x3).1 (by decide) [.int p1] [] rfl (Nat.le_of_ble_eq_true rfl) rfl (m_M_isOut e_x3) ?_
      change zPJ X 0 0 _ _ [.int x3] _
      refine zj_if_ne (tgt := 33) o (zdd k_M_think 11 rfl) (by decide) (fun hc => ?_) (fun hc => ?_)
      · rw [if_neg hc] at h
        refine zj_bipush o (zdd k_M_think 17 rfl) zkb_m2 ?_
        cases h
        exact zr_i o hr (zdd k_M_think 18 rfl)
      · rw [if_pos hc] at h
        refine zj_iload_n o (zdd k_M_think 12 rfl) rfl 3 rfl ?_
        refine zj_iconst o (zdd k_M_think 13 rfl) zki_0 ?_
        refine zj_iconst o (zdd k_M_think 14 rfl) zki_1 ?_
        obtain ⟨x4, e_x4, h⟩ := zbd h
        refine zc_S o (zdd k_M_think 15 rfl) ml_M_425 ms_M_isIn (by decide) [.int p2, .int 0, .int 1] [] rfl (Nat.le_of_ble_eq_true rfl) rfl (m_M_isIn e_x4) ?_
        change zPJ X 0 0 _ _ [.int x4] _
        refine zj_if_ne (tgt := 36) o (zdd k_M_think 16 rfl) (by decide) (fun hc => ?_) (fun hc => ?_)
        · rw [if_neg hc] at h
          refine zj_iconst o (zdd k_M_think 19 rfl) zki_m1 ?_
          refine zj_istore (loc' := [(4, .int (-1)), (0, .ref t), (1, .int p0), (2, .int p1), (3, .int p2)]) o (zdd k_M_think 20 rfl) (by decide) rfl ?_
          refine zj_ldcw o (zdd k_M_think 21 rfl) co_M_514 ?_
          refine zj_istore (loc' := [(5, .int 1000000), (4, .int (-1)), (0, .ref t), (1, .int p0), (2, .int p1), (3, .int p2)]) o (zdd k_M_think 22 rfl) (by decide) rfl ?_
          refine zj_iconst o (zdd k_M_think 23 rfl) zki_m1 ?_
          refine zj_istore (loc' := [(6, .int (-1)), (5, .int 1000000), (4, .int (-1)), (0, .ref t), (1, .int p0), (2, .int p1), (3, .int p2)]) o (zdd k_M_think 24 rfl) (by decide) rfl ?_
          exact zj_sub [3, 4, 5, 6, 2, 1, 0] rfl (r_M_think_47L o  zfu h hr)
        · rw [if_pos hc] at h
          refine zj_bipush o (zdd k_M_think 17 rfl) zkb_m2 ?_
          cases h
          exact zr_i o hr (zdd k_M_think 18 rfl)
def f_M_farthest_4 (k4 : zSt → Nat → Int32 → Int32 → Int32 → Option (Int32)) (σ : zSt) (v0 : Nat) (v1 : Int32) (v2 : Int32) (v3 : Int32) : Option (Int32) :=
(zgI σ 12 v0 42).bind fun x1 =>
if x1 ≤ v3 then (
some v2) else
if (v1 >>> (v3 &&& 31)) &&& 1 = 1 then (
(zgP σ 12 v0 53).bind fun a2 =>
(zaI σ 1 a2 v3).bind fun x3 =>
(f_M_stepsTo σ v0 x3).bind fun x4 =>
if x4 ≤ v2 then (
k4 σ v0 v1 v2 (v3 + 1)) else
(zgP σ 12 v0 53).bind fun a5 =>
(zaI σ 1 a5 v3).bind fun x6 =>
(f_M_stepsTo σ v0 x6).bind fun x7 =>
k4 σ v0 v1 x7 (v3 + 1)) else
k4 σ v0 v1 v2 (v3 + 1)
set_option maxRecDepth 100000 in
set_option maxHeartbeats 4000000 in
theorem r_M_farthest_4 {X : zCX} (o : zOK X "WantShelvesModel" c_M_farthest n_M_farthest 2) {k4 : zSt → Nat → Int32 → Int32 → Int32 → Option (Int32)} (hk4 : ∀ {σ : zSt} {v0 : Nat} {v1 : Int32} {v2 : Int32} {v3 : Int32} {z : Int32}, k4 σ v0 v1 v2 v3 = some z → zRX X 0 0 (some (.int z)) σ → zPJ X 0 0 4 [(0, .ref v0), (1, .int v1), (2, .int v2), (3, .int v3)] [] σ) {σ : zSt} {v0 : Nat} {v1 : Int32} {v2 : Int32} {v3 : Int32} {z : Int32} (h : f_M_farthest_4 k4 σ v0 v1 v2 v3 = some z) (hr : zRX X 0 0 (some (.int z)) σ) : zPJ X 0 0 4 [(0, .ref v0), (1, .int v1), (2, .int v2), (3, .int v3)] [] σ := by
  unfold f_M_farthest_4 at h
  refine zj_iload_n o (zdd k_M_farthest 4 rfl) rfl 3 rfl ?_
  refine zj_aload_n o (zdd k_M_farthest 5 rfl) rfl 0 rfl ?_
  obtain ⟨x1, e_x1, h⟩ := zbd h
  refine zj_gI o (zdd k_M_farthest 6 rfl) fl_M_391 rfl e_x1 ?_
  refine zj_icmp_ge (tgt := 52) o (zdd k_M_farthest 7 rfl) (by decide) (fun hc => ?_) (fun hc => ?_)
  · rw [if_pos hc] at h
    refine zj_iload_n o (zdd k_M_farthest 32 rfl) rfl 2 rfl ?_
    cases h
    exact zr_i o hr (zdd k_M_farthest 33 rfl)
  · rw [if_neg hc] at h
    refine zj_iload_n o (zdd k_M_farthest 8 rfl) rfl 1 rfl ?_
    refine zj_iload_n o (zdd k_M_farthest 9 rfl) rfl 3 rfl ?_
    refine zj_ishr o (zdd k_M_farthest 10 rfl) ?_
    refine zj_iconst o (zdd k_M_farthest 11 rfl) zki_1 ?_
    refine zj_iand o (zdd k_M_farthest 12 rfl) ?_
    refine zj_iconst o (zdd k_M_farthest 13 rfl) zki_1 ?_
    refine zj_icmp_ne (tgt := 46) o (zdd k_M_farthest 14 rfl) (by decide) (fun hc => ?_) (fun hc => ?_)
    · rw [if_neg hc] at h
      refine zj_iinc (v := v3 + 1) (loc' := [(3, .int (v3 + 1)), (0, .ref v0), (1, .int v1), (2, .int v2)]) o (zdd k_M_farthest 30 rfl) 3 rfl (by rw [zki_1]) (by decide) rfl ?_
      refine zj_goto (tgt := 4) o (zdd k_M_farthest 31 rfl) (by decide) ?_
      exact zj_sub [1, 2, 3, 0] rfl (hk4 h hr)
    · rw [if_pos hc] at h
      refine zj_aload_n o (zdd k_M_farthest 15 rfl) rfl 0 rfl ?_
      refine zj_aload_n o (zdd k_M_farthest 16 rfl) rfl 0 rfl ?_
      obtain ⟨a2, e_a2, h⟩ := zbd h
      refine zj_gP o (zdd k_M_farthest 17 rfl) fl_M_90 rfl e_a2 ?_
      refine zj_iload_n o (zdd k_M_farthest 18 rfl) rfl 3 rfl ?_
      obtain ⟨x3, e_x3, h⟩ := zbd h
      refine zj_iald o (zdd k_M_farthest 19 rfl) e_x3 ?_
      obtain ⟨x4, e_x4, h⟩ := zbd h
      refine zc_V o (zdd k_M_farthest 20 rfl) ml_M_496 mv_M_stepsTo ⟨rfl, by decide⟩ (zg_some e_x4).1 (by decide) [.int x3] [] rfl (Nat.le_of_ble_eq_true rfl) rfl (m_M_stepsTo e_x4) ?_
      change zPJ X 0 0 _ _ [.int x4] _
      refine zj_iload_n o (zdd k_M_farthest 21 rfl) rfl 2 rfl ?_
      refine zj_icmp_le (tgt := 46) o (zdd k_M_farthest 22 rfl) (by decide) (fun hc => ?_) (fun hc => ?_)
      · rw [if_pos hc] at h
        refine zj_iinc (v := v3 + 1) (loc' := [(3, .int (v3 + 1)), (0, .ref v0), (1, .int v1), (2, .int v2)]) o (zdd k_M_farthest 30 rfl) 3 rfl (by rw [zki_1]) (by decide) rfl ?_
        refine zj_goto (tgt := 4) o (zdd k_M_farthest 31 rfl) (by decide) ?_
        exact zj_sub [1, 2, 3, 0] rfl (hk4 h hr)
      · rw [if_neg hc] at h
        refine zj_aload_n o (zdd k_M_farthest 23 rfl) rfl 0 rfl ?_
        refine zj_aload_n o (zdd k_M_farthest 24 rfl) rfl 0 rfl ?_
        obtain ⟨a5, e_a5, h⟩ := zbd h
        refine zj_gP o (zdd k_M_farthest 25 rfl) fl_M_90 rfl e_a5 ?_
        refine zj_iload_n o (zdd k_M_farthest 26 rfl) rfl 3 rfl ?_
        obtain ⟨x6, e_x6, h⟩ := zbd h
        refine zj_iald o (zdd k_M_farthest 27 rfl) e_x6 ?_
        obtain ⟨x7, e_x7, h⟩ := zbd h
        refine zc_V o (zdd k_M_farthest 28 rfl) ml_M_496 mv_M_stepsTo ⟨rfl, by decide⟩ (zg_some e_x7).1 (by decide) [.int x6] [] rfl (Nat.le_of_ble_eq_true rfl) rfl (m_M_stepsTo e_x7) ?_
        change zPJ X 0 0 _ _ [.int x7] _
        refine zj_istore_n (loc' := [(2, .int x7), (0, .ref v0), (1, .int v1), (3, .int v3)]) o (zdd k_M_farthest 29 rfl) rfl (by decide) rfl ?_
        refine zj_iinc (v := v3 + 1) (loc' := [(3, .int (v3 + 1)), (2, .int x7), (0, .ref v0), (1, .int v1)]) o (zdd k_M_farthest 30 rfl) 3 rfl (by rw [zki_1]) (by decide) rfl ?_
        refine zj_goto (tgt := 4) o (zdd k_M_farthest 31 rfl) (by decide) ?_
        exact zj_sub [2, 3, 1, 0] rfl (hk4 h hr)
def f_M_farthest_4L : Nat → zSt → Nat → Int32 → Int32 → Int32 → Option (Int32)
  | 0 => fun _ _ _ _ _ => none
  | n + 1 => f_M_farthest_4  (f_M_farthest_4L  n)
theorem r_M_farthest_4L {X : zCX} (o : zOK X "WantShelvesModel" c_M_farthest n_M_farthest 2) : ∀ (n : Nat) {σ : zSt} {v0 : Nat} {v1 : Int32} {v2 : Int32} {v3 : Int32} {z : Int32}, f_M_farthest_4L n σ v0 v1 v2 v3 = some z → zRX X 0 0 (some (.int z)) σ → zPJ X 0 0 4 [(0, .ref v0), (1, .int v1), (2, .int v2), (3, .int v3)] [] σ
  | 0 => fun h _ => by cases h
  | n + 1 => fun h hr => r_M_farthest_4 o (r_M_farthest_4L o  n) h hr
def f_M_farthest (σ : zSt) (t : Nat) (p0 : Int32) : Option (Int32) :=
zg σ 12 t (
f_M_farthest_4L zfu σ t p0 0 0)
set_option maxRecDepth 100000 in
set_option maxHeartbeats 4000000 in
theorem m_M_farthest {l : Launch} {b : Nat} {ex : Nat → Value} {D : va_G} {ca : Nat → ClassId} {σ : zSt} {t : Nat} {p0 : Int32} {z : Int32} (h : f_M_farthest σ t p0 = some z) : zMT l b ex D ca 2 y_M_farthest c_M_farthest n_M_farthest r_ret_M_farthest [.ref t, .int p0] σ (some (.int z)) σ 0 0 := by
  obtain ⟨_, hg0⟩ := zg_some h
  have h := hg0
  refine zmt_of (by decide) (Nat.le_of_ble_eq_true rfl) ⟨.int, rfl, rfl⟩ (fun X o hin hrm _ _ _ _ _ hr => ?_)
  have hr := hr 0 0 (by decide) (by decide)
  have o : zOK X "WantShelvesModel" c_M_farthest n_M_farthest 2 := o
  change zPJ X 0 0 0 [(0, .ref t), (1, .int p0)] [] σ
  refine zj_iconst o (zdd k_M_farthest 0 rfl) zki_0 ?_
  refine zj_istore_n (loc' := [(2, .int 0), (0, .ref t), (1, .int p0)]) o (zdd k_M_farthest 1 rfl) rfl (by decide) rfl ?_
  refine zj_iconst o (zdd k_M_farthest 2 rfl) zki_0 ?_
  refine zj_istore_n (loc' := [(3, .int 0), (2, .int 0), (0, .ref t), (1, .int p0)]) o (zdd k_M_farthest 3 rfl) rfl (by decide) rfl ?_
  exact zj_sub [2, 3, 1, 0] rfl (r_M_farthest_4L o  zfu h hr)
def f_M_layVisits_54 (k37 : zSt → Nat → Int32 → Int32 → Option (zSt)) (k54 : zSt → Nat → Int32 → Int32 → Int32 → Option (zSt)) (σ : zSt) (v0 : Nat) (v1 : Int32) (v2 : Int32) (v3 : Int32) : Option (zSt) :=
if v1 < v3 then (
k37 σ v0 v1 (v2 + 1)) else
if v3 &&& (v1 ^^^ (-1)) = 0 then (
(f_M_farthest σ v0 v3).bind fun x1 =>
(zgP σ 12 v0 60).bind fun a2 =>
(zgP σ 12 v0 60).bind fun a3 =>
(zaI σ 1 a3 v3).bind fun x4 =>
if x4 ≤ 2 * x1 then (
(zgP σ 12 v0 60).bind fun a5 =>
(zaI σ 1 a5 v3).bind fun x6 =>
(zwI σ 1 a2 v3 x6).bind fun σ7 =>
k54 σ7 v0 v1 v2 (v3 + 1)) else
(zwI σ 1 a2 v3 (2 * x1)).bind fun σ8 =>
k54 σ8 v0 v1 v2 (v3 + 1)) else
k54 σ v0 v1 v2 (v3 + 1)
set_option maxRecDepth 100000 in
set_option maxHeartbeats 4000000 in
theorem r_M_layVisits_54 {X : zCX} (o : zOK X "WantShelvesModel" c_M_layVisits n_M_layVisits 8) {k37 : zSt → Nat → Int32 → Int32 → Option (zSt)} {k54 : zSt → Nat → Int32 → Int32 → Int32 → Option (zSt)} (hk37 : ∀ {σ : zSt} {v0 : Nat} {v1 : Int32} {v2 : Int32} {z : zSt}, k37 σ v0 v1 v2 = some z → zRX X 0 0 none z → zPJ X 0 0 37 [(0, .ref v0), (1, .int v1), (2, .int v2)] [] σ) (hk54 : ∀ {σ : zSt} {v0 : Nat} {v1 : Int32} {v2 : Int32} {v3 : Int32} {z : zSt}, k54 σ v0 v1 v2 v3 = some z → zRX X 0 0 none z → zPJ X 0 0 54 [(0, .ref v0), (1, .int v1), (2, .int v2), (3, .int v3)] [] σ) {σ : zSt} {v0 : Nat} {v1 : Int32} {v2 : Int32} {v3 : Int32} {z : zSt} (h : f_M_layVisits_54 k37 k54 σ v0 v1 v2 v3 = some z) (hr : zRX X 0 0 none z) : zPJ X 0 0 54 [(0, .ref v0), (1, .int v1), (2, .int v2), (3, .int v3)] [] σ := by
  unfold f_M_layVisits_54 at h
  refine zj_iload_n o (zdd k_M_layVisits 32 rfl) rfl 3 rfl ?_
  refine zj_iload_n o (zdd k_M_layVisits 33 rfl) rfl 1 rfl ?_
  refine zj_icmp_gt (tgt := 113) o (zdd k_M_layVisits 34 rfl) (by decide) (fun hc => ?_) (fun hc => ?_)
  · rw [if_pos hc] at h
    refine zj_iinc (v := v2 + 1) (loc' := [(2, .int (v2 + 1)), (0, .ref v0), (1, .int v1), (3, .int v3)]) o (zdd k_M_layVisits 66 rfl) 2 rfl (by rw [zki_1]) (by decide) rfl ?_
    refine zj_goto (tgt := 37) o (zdd k_M_layVisits 67 rfl) (by decide) ?_
    exact zj_sub [1, 2, 0] rfl (hk37 h hr)
  · rw [if_neg hc] at h
    refine zj_iload_n o (zdd k_M_layVisits 35 rfl) rfl 3 rfl ?_
    refine zj_iload_n o (zdd k_M_layVisits 36 rfl) rfl 1 rfl ?_
    refine zj_iconst o (zdd k_M_layVisits 37 rfl) zki_m1 ?_
    refine zj_ixor o (zdd k_M_layVisits 38 rfl) ?_
    refine zj_iand o (zdd k_M_layVisits 39 rfl) ?_
    refine zj_if_eq (tgt := 70) o (zdd k_M_layVisits 40 rfl) (by decide) (fun hc => ?_) (fun hc => ?_)
    · rw [if_pos hc] at h
      refine zj_iconst o (zdd k_M_layVisits 42 rfl) zki_2 ?_
      refine zj_aload_n o (zdd k_M_layVisits 43 rfl) rfl 0 rfl ?_
      refine zj_iload_n o (zdd k_M_layVisits 44 rfl) rfl 3 rfl ?_
      obtain ⟨x1, e_x1, h⟩ := zbd h
      refine zc_V o (zdd k_M_layVisits 45 rfl) ml_M_518 mv_M_farthest ⟨rfl, by decide⟩ (zg_some e_x1).1 (by decide) [.int v3] [.int 2] rfl (Nat.le_of_ble_eq_true rfl) rfl (m_M_farthest e_x1) ?_
      change zPJ X 0 0 _ _ [.int x1, .int 2] _
      refine zj_imul o (zdd k_M_layVisits 46 rfl) ?_
      refine zj_istore (loc' := [(4, .int (2 * x1)), (0, .ref v0), (1, .int v1), (2, .int v2), (3, .int v3)]) o (zdd k_M_layVisits 47 rfl) (by decide) rfl ?_
      refine zj_aload_n o (zdd k_M_layVisits 48 rfl) rfl 1 rfl ?_
      obtain ⟨a2, e_a2, h⟩ := zbd h
      refine zj_gP o (zdd k_M_layVisits 49 rfl) fl_M_99 rfl e_a2 ?_
      refine zj_iload_n o (zdd k_M_layVisits 50 rfl) rfl 4 rfl ?_
      refine zj_iload o (zdd k_M_layVisits 51 rfl) 0 rfl ?_
      refine zj_aload_n o (zdd k_M_layVisits 52 rfl) rfl 1 rfl ?_
      obtain ⟨a3, e_a3, h⟩ := zbd h
      refine zj_gP o (zdd k_M_layVisits 53 rfl) fl_M_99 rfl e_a3 ?_
      refine zj_iload_n o (zdd k_M_layVisits 54 rfl) rfl 4 rfl ?_
      obtain ⟨x4, e_x4, h⟩ := zbd h
      refine zj_iald o (zdd k_M_layVisits 55 rfl) e_x4 ?_
      refine zj_icmp_ge (tgt := 100) o (zdd k_M_layVisits 56 rfl) (by decide) (fun hc => ?_) (fun hc => ?_)
      · rw [if_pos hc] at h
        refine zj_aload_n o (zdd k_M_layVisits 59 rfl) rfl 1 rfl ?_
        obtain ⟨a5, e_a5, h⟩ := zbd h
        refine zj_gP o (zdd k_M_layVisits 60 rfl) fl_M_99 rfl e_a5 ?_
        refine zj_iload_n o (zdd k_M_layVisits 61 rfl) rfl 4 rfl ?_
        obtain ⟨x6, e_x6, h⟩ := zbd h
        refine zj_iald o (zdd k_M_layVisits 62 rfl) e_x6 ?_
        obtain ⟨σ7, e_σ7, h⟩ := zbd h
        refine zj_iast o (zdd k_M_layVisits 63 rfl) e_σ7 ?_
        refine zj_iinc (v := v3 + 1) (loc' := [(3, .int (v3 + 1)), (4, .int (2 * x1)), (0, .ref v0), (1, .int v1), (2, .int v2)]) o (zdd k_M_layVisits 64 rfl) 4 rfl (by rw [zki_1]) (by decide) rfl ?_
        refine zj_goto (tgt := 54) o (zdd k_M_layVisits 65 rfl) (by decide) ?_
        exact zj_sub [2, 3, 4, 0] rfl (hk54 h hr)
      · rw [if_neg hc] at h
        refine zj_iload o (zdd k_M_layVisits 57 rfl) 0 rfl ?_
        refine zj_goto (tgt := 106) o (zdd k_M_layVisits 58 rfl) (by decide) ?_
        obtain ⟨σ8, e_σ8, h⟩ := zbd h
        refine zj_iast o (zdd k_M_layVisits 63 rfl) e_σ8 ?_
        refine zj_iinc (v := v3 + 1) (loc' := [(3, .int (v3 + 1)), (4, .int (2 * x1)), (0, .ref v0), (1, .int v1), (2, .int v2)]) o (zdd k_M_layVisits 64 rfl) 4 rfl (by rw [zki_1]) (by decide) rfl ?_
        refine zj_goto (tgt := 54) o (zdd k_M_layVisits 65 rfl) (by decide) ?_
        exact zj_sub [2, 3, 4, 0] rfl (hk54 h hr)
    · rw [if_neg hc] at h
      refine zj_goto (tgt := 107) o (zdd k_M_layVisits 41 rfl) (by decide) ?_
      refine zj_iinc (v := v3 + 1) (loc' := [(3, .int (v3 + 1)), (0, .ref v0), (1, .int v1), (2, .int v2)]) o (zdd k_M_layVisits 64 rfl) 3 rfl (by rw [zki_1]) (by decide) rfl ?_
      refine zj_goto (tgt := 54) o (zdd k_M_layVisits 65 rfl) (by decide) ?_
      exact zj_sub [1, 2, 3, 0] rfl (hk54 h hr)
def f_M_layVisits_54L (k37 : zSt → Nat → Int32 → Int32 → Option (zSt)) : Nat → zSt → Nat → Int32 → Int32 → Int32 → Option (zSt)
  | 0 => fun _ _ _ _ _ => none
  | n + 1 => f_M_layVisits_54  k37 (f_M_layVisits_54L k37 n)
theorem r_M_layVisits_54L {X : zCX} (o : zOK X "WantShelvesModel" c_M_layVisits n_M_layVisits 8) {k37 : zSt → Nat → Int32 → Int32 → Option (zSt)} (hk37 : ∀ {σ : zSt} {v0 : Nat} {v1 : Int32} {v2 : Int32} {z : zSt}, k37 σ v0 v1 v2 = some z → zRX X 0 0 none z → zPJ X 0 0 37 [(0, .ref v0), (1, .int v1), (2, .int v2)] [] σ) : ∀ (n : Nat) {σ : zSt} {v0 : Nat} {v1 : Int32} {v2 : Int32} {v3 : Int32} {z : zSt}, f_M_layVisits_54L k37 n σ v0 v1 v2 v3 = some z → zRX X 0 0 none z → zPJ X 0 0 54 [(0, .ref v0), (1, .int v1), (2, .int v2), (3, .int v3)] [] σ
  | 0 => fun h _ => by cases h
  | n + 1 => fun h hr => r_M_layVisits_54 o hk37 (r_M_layVisits_54L o hk37 n) h hr
def f_M_layVisits_37 (k37 : zSt → Nat → Int32 → Int32 → Option (zSt)) (σ : zSt) (v0 : Nat) (v1 : Int32) (v2 : Int32) : Option (zSt) :=
(zgI σ 12 v0 43).bind fun x1 =>
if 1 <<< (x1 &&& 31) ≤ v2 then (
some σ) else
(f_M_layOrder σ v0 v2).bind fun σ2 =>
f_M_layVisits_54L k37 zfu σ2 v0 v1 v2 1
set_option maxRecDepth 100000 in
set_option maxHeartbeats 4000000 in
theorem r_M_layVisits_37 {X : zCX} (o : zOK X "WantShelvesModel" c_M_layVisits n_M_layVisits 8) {k37 : zSt → Nat → Int32 → Int32 → Option (zSt)} (hk37 : ∀ {σ : zSt} {v0 : Nat} {v1 : Int32} {v2 : Int32} {z : zSt}, k37 σ v0 v1 v2 = some z → zRX X 0 0 none z → zPJ X 0 0 37 [(0, .ref v0), (1, .int v1), (2, .int v2)] [] σ) {σ : zSt} {v0 : Nat} {v1 : Int32} {v2 : Int32} {z : zSt} (h : f_M_layVisits_37 k37 σ v0 v1 v2 = some z) (hr : zRX X 0 0 none z) : zPJ X 0 0 37 [(0, .ref v0), (1, .int v1), (2, .int v2)] [] σ := by
  unfold f_M_layVisits_37 at h
  refine zj_iload_n o (zdd k_M_layVisits 21 rfl) rfl 2 rfl ?_
  refine zj_iconst o (zdd k_M_layVisits 22 rfl) zki_1 ?_
  refine zj_aload_n o (zdd k_M_layVisits 23 rfl) rfl 0 rfl ?_
  obtain ⟨x1, e_x1, h⟩ := zbd h
  refine zj_gI o (zdd k_M_layVisits 24 rfl) fl_M_394 rfl e_x1 ?_
  refine zj_ishl o (zdd k_M_layVisits 25 rfl) ?_
  refine zj_icmp_ge (tgt := 119) o (zdd k_M_layVisits 26 rfl) (by decide) (fun hc => ?_) (fun hc => ?_)
  · rw [if_pos hc] at h
    cases h
    exact zr_v o hr (zdd k_M_layVisits 68 rfl)
  · rw [if_neg hc] at h
    refine zj_aload_n o (zdd k_M_layVisits 27 rfl) rfl 0 rfl ?_
    refine zj_iload_n o (zdd k_M_layVisits 28 rfl) rfl 2 rfl ?_
    obtain ⟨σ2, e_σ2, h⟩ := zbd h
    refine zc_V o (zdd k_M_layVisits 29 rfl) ml_M_493 mv_M_layOrder ⟨rfl, by decide⟩ (zg_some e_σ2).1 (by decide) [.int v2] [] rfl (Nat.le_of_ble_eq_true rfl) rfl (m_M_layOrder e_σ2) ?_
    change zPJ X 0 0 _ _ [] _
    refine zj_iconst o (zdd k_M_layVisits 30 rfl) zki_1 ?_
    refine zj_istore_n (loc' := [(3, .int 1), (0, .ref v0), (1, .int v1), (2, .int v2)]) o (zdd k_M_layVisits 31 rfl) rfl (by decide) rfl ?_
    exact zj_sub [1, 2, 3, 0] rfl (r_M_layVisits_54L o hk37 zfu h hr)
def f_M_layVisits_37L : Nat → zSt → Nat → Int32 → Int32 → Option (zSt)
  | 0 => fun _ _ _ _ => none
  | n + 1 => f_M_layVisits_37  (f_M_layVisits_37L  n)
theorem r_M_layVisits_37L {X : zCX} (o : zOK X "WantShelvesModel" c_M_layVisits n_M_layVisits 8) : ∀ (n : Nat) {σ : zSt} {v0 : Nat} {v1 : Int32} {v2 : Int32} {z : zSt}, f_M_layVisits_37L n σ v0 v1 v2 = some z → zRX X 0 0 none z → zPJ X 0 0 37 [(0, .ref v0), (1, .int v1), (2, .int v2)] [] σ
  | 0 => fun h _ => by cases h
  | n + 1 => fun h hr => r_M_layVisits_37 o (r_M_layVisits_37L o  n) h hr
def f_M_layVisits_24 (σ : zSt) (v0 : Nat) (v1 : Int32) : Option (zSt) :=
(zgP σ 12 v0 60).bind fun a1 =>
(zwI σ 1 a1 0 0).bind fun σ2 =>
(f_M_layAll σ2 v0).bind fun σ3 =>
f_M_layVisits_37L zfu σ3 v0 v1 1
set_option maxRecDepth 100000 in
set_option maxHeartbeats 4000000 in
theorem r_M_layVisits_24 {X : zCX} (o : zOK X "WantShelvesModel" c_M_layVisits n_M_layVisits 8) {σ : zSt} {v0 : Nat} {v1 : Int32} {z : zSt} (h : f_M_layVisits_24 σ v0 v1 = some z) (hr : zRX X 0 0 none z) : zPJ X 0 0 24 [(0, .ref v0), (1, .int v1)] [] σ := by
  unfold f_M_layVisits_24 at h
  refine zj_aload_n o (zdd k_M_layVisits 12 rfl) rfl 0 rfl ?_
  obtain ⟨a1, e_a1, h⟩ := zbd h
  refine zj_gP o (zdd k_M_layVisits 13 rfl) fl_M_99 rfl e_a1 ?_
  refine zj_iconst o (zdd k_M_layVisits 14 rfl) zki_0 ?_
  refine zj_iconst o (zdd k_M_layVisits 15 rfl) zki_0 ?_
  obtain ⟨σ2, e_σ2, h⟩ := zbd h
  refine zj_iast o (zdd k_M_layVisits 16 rfl) e_σ2 ?_
  refine zj_aload_n o (zdd k_M_layVisits 17 rfl) rfl 0 rfl ?_
  obtain ⟨σ3, e_σ3, h⟩ := zbd h
  refine zc_V o (zdd k_M_layVisits 18 rfl) ml_M_490 mv_M_layAll ⟨rfl, by decide⟩ (zg_some e_σ3).1 (by decide) [] [] rfl (Nat.le_of_ble_eq_true rfl) rfl (m_M_layAll e_σ3) ?_
  change zPJ X 0 0 _ _ [] _
  refine zj_iconst o (zdd k_M_layVisits 19 rfl) zki_1 ?_
  refine zj_istore_n (loc' := [(2, .int 1), (0, .ref v0), (1, .int v1)]) o (zdd k_M_layVisits 20 rfl) rfl (by decide) rfl ?_
  exact zj_sub [1, 2, 0] rfl (r_M_layVisits_37L o  zfu h hr)
def f_M_layVisits_2 (k2 : zSt → Nat → Int32 → Int32 → Option (zSt)) (σ : zSt) (v0 : Nat) (v1 : Int32) (v2 : Int32) : Option (zSt) :=
if 1024 ≤ v2 then (
f_M_layVisits_24 σ v0 v1) else
(zgP σ 12 v0 60).bind fun a1 =>
(zwI σ 1 a1 v2 1000000).bind fun σ2 =>
k2 σ2 v0 v1 (v2 + 1)
set_option maxRecDepth 100000 in
set_option maxHeartbeats 4000000 in
theorem r_M_layVisits_2 {X : zCX} (o : zOK X "WantShelvesModel" c_M_layVisits n_M_layVisits 8) {k2 : zSt → Nat → Int32 → Int32 → Option (zSt)} (hk2 : ∀ {σ : zSt} {v0 : Nat} {v1 : Int32} {v2 : Int32} {z : zSt}, k2 σ v0 v1 v2 = some z → zRX X 0 0 none z → zPJ X 0 0 2 [(0, .ref v0), (1, .int v1), (2, .int v2)] [] σ) {σ : zSt} {v0 : Nat} {v1 : Int32} {v2 : Int32} {z : zSt} (h : f_M_layVisits_2 k2 σ v0 v1 v2 = some z) (hr : zRX X 0 0 none z) : zPJ X 0 0 2 [(0, .ref v0), (1, .int v1), (2, .int v2)] [] σ := by
  unfold f_M_layVisits_2 at h
  refine zj_iload_n o (zdd k_M_layVisits 2 rfl) rfl 2 rfl ?_
  refine zj_sipush o (zdd k_M_layVisits 3 rfl) zks_1024 ?_
  refine zj_icmp_ge (tgt := 24) o (zdd k_M_layVisits 4 rfl) (by decide) (fun hc => ?_) (fun hc => ?_)
  · rw [if_pos hc] at h
    exact zj_sub [0, 1] rfl (r_M_layVisits_24 o  h hr)
  · rw [if_neg hc] at h
    refine zj_aload_n o (zdd k_M_layVisits 5 rfl) rfl 0 rfl ?_
    obtain ⟨a1, e_a1, h⟩ := zbd h
    refine zj_gP o (zdd k_M_layVisits 6 rfl) fl_M_99 rfl e_a1 ?_
    refine zj_iload_n o (zdd k_M_layVisits 7 rfl) rfl 2 rfl ?_
    refine zj_ldcw o (zdd k_M_layVisits 8 rfl) co_M_514 ?_
    obtain ⟨σ2, e_σ2, h⟩ := zbd h
    refine zj_iast o (zdd k_M_layVisits 9 rfl) e_σ2 ?_
    refine zj_iinc (v := v2 + 1) (loc' := [(2, .int (v2 + 1)), (0, .ref v0), (1, .int v1)]) o (zdd k_M_layVisits 10 rfl) 2 rfl (by rw [zki_1]) (by decide) rfl ?_
    refine zj_goto (tgt := 2) o (zdd k_M_layVisits 11 rfl) (by decide) ?_
    exact zj_sub [1, 2, 0] rfl (hk2 h hr)
def f_M_layVisits_2L : Nat → zSt → Nat → Int32 → Int32 → Option (zSt)
  | 0 => fun _ _ _ _ => none
  | n + 1 => f_M_layVisits_2  (f_M_layVisits_2L  n)
theorem r_M_layVisits_2L {X : zCX} (o : zOK X "WantShelvesModel" c_M_layVisits n_M_layVisits 8) : ∀ (n : Nat) {σ : zSt} {v0 : Nat} {v1 : Int32} {v2 : Int32} {z : zSt}, f_M_layVisits_2L n σ v0 v1 v2 = some z → zRX X 0 0 none z → zPJ X 0 0 2 [(0, .ref v0), (1, .int v1), (2, .int v2)] [] σ
  | 0 => fun h _ => by cases h
  | n + 1 => fun h hr => r_M_layVisits_2 o (r_M_layVisits_2L o  n) h hr
def f_M_layVisits (σ : zSt) (t : Nat) (p0 : Int32) : Option (zSt) :=
zg σ 12 t (
f_M_layVisits_2L zfu σ t p0 0)
set_option maxRecDepth 100000 in
set_option maxHeartbeats 4000000 in
theorem m_M_layVisits {l : Launch} {b : Nat} {ex : Nat → Value} {D : va_G} {ca : Nat → ClassId} {σ : zSt} {t : Nat} {p0 : Int32} {z : zSt} (h : f_M_layVisits σ t p0 = some z) : zMT l b ex D ca 8 y_M_layVisits c_M_layVisits n_M_layVisits r_ret_M_layVisits [.ref t, .int p0] σ none z 0 0 := by
  obtain ⟨_, hg0⟩ := zg_some h
  have h := hg0
  refine zmt_of (by decide) (Nat.le_of_ble_eq_true rfl) rfl (fun X o hin hrm _ _ _ _ _ hr => ?_)
  have hr := hr 0 0 (by decide) (by decide)
  have o : zOK X "WantShelvesModel" c_M_layVisits n_M_layVisits 8 := o
  change zPJ X 0 0 0 [(0, .ref t), (1, .int p0)] [] σ
  refine zj_iconst o (zdd k_M_layVisits 0 rfl) zki_0 ?_
  refine zj_istore_n (loc' := [(2, .int 0), (0, .ref t), (1, .int p0)]) o (zdd k_M_layVisits 1 rfl) rfl (by decide) rfl ?_
  exact zj_sub [1, 2, 0] rfl (r_M_layVisits_2L o  zfu h hr)
def f_M_bestSplit_44 (k9 : zSt → Nat → Int32 → Int32 → Int32 → Option (Int32)) (σ : zSt) (v0 : Nat) (v1 : Int32) (v3 : Int32) (s0 : Int32) : Option (Int32) :=
k9 σ v0 v1 s0 ((v3 - 1) &&& v1)
set_option maxRecDepth 100000 in
set_option maxHeartbeats 4000000 in
theorem r_M_bestSplit_44 {X : zCX} (o : zOK X "WantShelvesModel" c_M_bestSplit n_M_bestSplit 1) {k9 : zSt → Nat → Int32 → Int32 → Int32 → Option (Int32)} (hk9 : ∀ {σ : zSt} {v0 : Nat} {v1 : Int32} {v2 : Int32} {v3 : Int32} {z : Int32}, k9 σ v0 v1 v2 v3 = some z → zRX X 0 0 (some (.int z)) σ → zPJ X 0 0 9 [(0, .ref v0), (1, .int v1), (2, .int v2), (3, .int v3)] [] σ) {σ : zSt} {v0 : Nat} {v1 : Int32} {v3 : Int32} {s0 : Int32} {z : Int32} (h : f_M_bestSplit_44 k9 σ v0 v1 v3 s0 = some z) (hr : zRX X 0 0 (some (.int z)) σ) : zPJ X 0 0 44 [(0, .ref v0), (1, .int v1), (3, .int v3)] [.int s0] σ := by
  unfold f_M_bestSplit_44 at h
  refine zj_istore_n (loc' := [(2, .int s0), (0, .ref v0), (1, .int v1), (3, .int v3)]) o (zdd k_M_bestSplit 29 rfl) rfl (by decide) rfl ?_
  refine zj_iload_n o (zdd k_M_bestSplit 30 rfl) rfl 3 rfl ?_
  refine zj_iconst o (zdd k_M_bestSplit 31 rfl) zki_1 ?_
  refine zj_isub o (zdd k_M_bestSplit 32 rfl) ?_
  refine zj_iload_n o (zdd k_M_bestSplit 33 rfl) rfl 2 rfl ?_
  refine zj_iand o (zdd k_M_bestSplit 34 rfl) ?_
  refine zj_istore_n (loc' := [(3, .int ((v3 - 1) &&& v1)), (2, .int s0), (0, .ref v0), (1, .int v1)]) o (zdd k_M_bestSplit 35 rfl) rfl (by decide) rfl ?_
  refine zj_goto (tgt := 9) o (zdd k_M_bestSplit 36 rfl) (by decide) ?_
  exact zj_sub [2, 3, 1, 0] rfl (hk9 h hr)
def f_M_bestSplit_9 (k9 : zSt → Nat → Int32 → Int32 → Int32 → Option (Int32)) (σ : zSt) (v0 : Nat) (v1 : Int32) (v2 : Int32) (v3 : Int32) : Option (Int32) :=
if v3 ≤ 0 then (
some v2) else
(zgP σ 12 v0 60).bind fun a1 =>
(zaI σ 1 a1 v3).bind fun x2 =>
(zgP σ 12 v0 61).bind fun a3 =>
(zaI σ 1 a3 (v1 &&& (v3 ^^^ (-1)))).bind fun x4 =>
if v2 ≤ x2 + x4 then (
f_M_bestSplit_44 k9 σ v0 v1 v3 v2) else
f_M_bestSplit_44 k9 σ v0 v1 v3 (x2 + x4)
set_option maxRecDepth 100000 in
set_option maxHeartbeats 4000000 in
theorem r_M_bestSplit_9 {X : zCX} (o : zOK X "WantShelvesModel" c_M_bestSplit n_M_bestSplit 1) {k9 : zSt → Nat → Int32 → Int32 → Int32 → Option (Int32)} (hk9 : ∀ {σ : zSt} {v0 : Nat} {v1 : Int32} {v2 : Int32} {v3 : Int32} {z : Int32}, k9 σ v0 v1 v2 v3 = some z → zRX X 0 0 (some (.int z)) σ → zPJ X 0 0 9 [(0, .ref v0), (1, .int v1), (2, .int v2), (3, .int v3)] [] σ) {σ : zSt} {v0 : Nat} {v1 : Int32} {v2 : Int32} {v3 : Int32} {z : Int32} (h : f_M_bestSplit_9 k9 σ v0 v1 v2 v3 = some z) (hr : zRX X 0 0 (some (.int z)) σ) : zPJ X 0 0 9 [(0, .ref v0), (1, .int v1), (2, .int v2), (3, .int v3)] [] σ := by
  unfold f_M_bestSplit_9 at h
  refine zj_iload_n o (zdd k_M_bestSplit 7 rfl) rfl 3 rfl ?_
  refine zj_if_le (tgt := 54) o (zdd k_M_bestSplit 8 rfl) (by decide) (fun hc => ?_) (fun hc => ?_)
  · rw [if_pos hc] at h
    refine zj_iload_n o (zdd k_M_bestSplit 37 rfl) rfl 2 rfl ?_
    cases h
    exact zr_i o hr (zdd k_M_bestSplit 38 rfl)
  · rw [if_neg hc] at h
    refine zj_aload_n o (zdd k_M_bestSplit 9 rfl) rfl 0 rfl ?_
    obtain ⟨a1, e_a1, h⟩ := zbd h
    refine zj_gP o (zdd k_M_bestSplit 10 rfl) fl_M_99 rfl e_a1 ?_
    refine zj_iload_n o (zdd k_M_bestSplit 11 rfl) rfl 3 rfl ?_
    obtain ⟨x2, e_x2, h⟩ := zbd h
    refine zj_iald o (zdd k_M_bestSplit 12 rfl) e_x2 ?_
    refine zj_aload_n o (zdd k_M_bestSplit 13 rfl) rfl 0 rfl ?_
    obtain ⟨a3, e_a3, h⟩ := zbd h
    refine zj_gP o (zdd k_M_bestSplit 14 rfl) fl_M_102 rfl e_a3 ?_
    refine zj_iload_n o (zdd k_M_bestSplit 15 rfl) rfl 1 rfl ?_
    refine zj_iload_n o (zdd k_M_bestSplit 16 rfl) rfl 3 rfl ?_
    refine zj_iconst o (zdd k_M_bestSplit 17 rfl) zki_m1 ?_
    refine zj_ixor o (zdd k_M_bestSplit 18 rfl) ?_
    refine zj_iand o (zdd k_M_bestSplit 19 rfl) ?_
    obtain ⟨x4, e_x4, h⟩ := zbd h
    refine zj_iald o (zdd k_M_bestSplit 20 rfl) e_x4 ?_
    refine zj_iadd o (zdd k_M_bestSplit 21 rfl) ?_
    refine zj_istore (loc' := [(4, .int (x2 + x4)), (0, .ref v0), (1, .int v1), (2, .int v2), (3, .int v3)]) o (zdd k_M_bestSplit 22 rfl) (by decide) rfl ?_
    refine zj_iload o (zdd k_M_bestSplit 23 rfl) 0 rfl ?_
    refine zj_iload_n o (zdd k_M_bestSplit 24 rfl) rfl 3 rfl ?_
    refine zj_icmp_ge (tgt := 43) o (zdd k_M_bestSplit 25 rfl) (by decide) (fun hc => ?_) (fun hc => ?_)
    · rw [if_pos hc] at h
      refine zj_iload_n o (zdd k_M_bestSplit 28 rfl) rfl 3 rfl ?_
      exact zj_sub [1, 2, 4] rfl (r_M_bestSplit_44 o hk9 h hr)
    · rw [if_neg hc] at h
      refine zj_iload o (zdd k_M_bestSplit 26 rfl) 0 rfl ?_
      refine zj_goto (tgt := 44) o (zdd k_M_bestSplit 27 rfl) (by decide) ?_
      exact zj_sub [1, 2, 4] rfl (r_M_bestSplit_44 o hk9 h hr)
def f_M_bestSplit_9L : Nat → zSt → Nat → Int32 → Int32 → Int32 → Option (Int32)
  | 0 => fun _ _ _ _ _ => none
  | n + 1 => f_M_bestSplit_9  (f_M_bestSplit_9L  n)
theorem r_M_bestSplit_9L {X : zCX} (o : zOK X "WantShelvesModel" c_M_bestSplit n_M_bestSplit 1) : ∀ (n : Nat) {σ : zSt} {v0 : Nat} {v1 : Int32} {v2 : Int32} {v3 : Int32} {z : Int32}, f_M_bestSplit_9L n σ v0 v1 v2 v3 = some z → zRX X 0 0 (some (.int z)) σ → zPJ X 0 0 9 [(0, .ref v0), (1, .int v1), (2, .int v2), (3, .int v3)] [] σ
  | 0 => fun h _ => by cases h
  | n + 1 => fun h hr => r_M_bestSplit_9 o (r_M_bestSplit_9L o  n) h hr
def f_M_bestSplit (σ : zSt) (t : Nat) (p0 : Int32) : Option (Int32) :=
zg σ 12 t (
(zgP σ 12 t 61).bind fun a1 =>
(zaI σ 1 a1 p0).bind fun x2 =>
f_M_bestSplit_9L zfu σ t p0 x2 p0)
set_option maxRecDepth 100000 in
set_option maxHeartbeats 4000000 in
theorem m_M_bestSplit {l : Launch} {b : Nat} {ex : Nat → Value} {D : va_G} {ca : Nat → ClassId} {σ : zSt} {t : Nat} {p0 : Int32} {z : Int32} (h : f_M_bestSplit σ t p0 = some z) : zMT l b ex D ca 1 y_M_bestSplit c_M_bestSplit n_M_bestSplit r_ret_M_bestSplit [.ref t, .int p0] σ (some (.int z)) σ 0 0 := by
  obtain ⟨_, hg0⟩ := zg_some h
  have h := hg0
  refine zmt_of (by decide) (Nat.le_of_ble_eq_true rfl) ⟨.int, rfl, rfl⟩ (fun X o hin hrm _ _ _ _ _ hr => ?_)
  have hr := hr 0 0 (by decide) (by decide)
  have o : zOK X "WantShelvesModel" c_M_bestSplit n_M_bestSplit 1 := o
  change zPJ X 0 0 0 [(0, .ref t), (1, .int p0)] [] σ
  refine zj_aload_n o (zdd k_M_bestSplit 0 rfl) rfl 0 rfl ?_
  obtain ⟨a1, e_a1, h⟩ := zbd h
  refine zj_gP o (zdd k_M_bestSplit 1 rfl) fl_M_102 rfl e_a1 ?_
  refine zj_iload_n o (zdd k_M_bestSplit 2 rfl) rfl 1 rfl ?_
  obtain ⟨x2, e_x2, h⟩ := zbd h
  refine zj_iald o (zdd k_M_bestSplit 3 rfl) e_x2 ?_
  refine zj_istore_n (loc' := [(2, .int x2), (0, .ref t), (1, .int p0)]) o (zdd k_M_bestSplit 4 rfl) rfl (by decide) rfl ?_
  refine zj_iload_n o (zdd k_M_bestSplit 5 rfl) rfl 2 rfl ?_
  refine zj_istore_n (loc' := [(3, .int p0), (2, .int x2), (0, .ref t), (1, .int p0)]) o (zdd k_M_bestSplit 6 rfl) rfl (by decide) rfl ?_
  exact zj_sub [2, 3, 1, 0] rfl (r_M_bestSplit_9L o  zfu h hr)
def f_M_errand_129 (k78 : zSt → Nat → Int32 → Int32 → Int32 → Option (Int32 × zSt)) (k129 : zSt → Nat → Int32 → Int32 → Int32 → Int32 → Option (Int32 × zSt)) (σ : zSt) (v0 : Nat) (v1 : Int32) (v2 : Int32) (v3 : Int32) (v4 : Int32) : Option (Int32 × zSt) :=
if v1 < v4 then (
k78 σ v0 v1 v2 (v3 + 1)) else
(zgP σ 12 v0 61).bind fun a1 =>
(zgP σ 12 v0 62).bind fun a2 =>
(zaI σ 1 a2 v4).bind fun x3 =>
(zwI σ 1 a1 v4 x3).bind fun σ4 =>
k129 σ4 v0 v1 v2 v3 (v4 + 1)
set_option maxRecDepth 100000 in
set_option maxHeartbeats 4000000 in
theorem r_M_errand_129 {X : zCX} (o : zOK X "WantShelvesModel" c_M_errand n_M_errand 9) {k78 : zSt → Nat → Int32 → Int32 → Int32 → Option (Int32 × zSt)} {k129 : zSt → Nat → Int32 → Int32 → Int32 → Int32 → Option (Int32 × zSt)} (hk78 : ∀ {σ : zSt} {v0 : Nat} {v1 : Int32} {v2 : Int32} {v3 : Int32} {z : Int32 × zSt}, k78 σ v0 v1 v2 v3 = some z → zRX X 0 0 (some (.int z.1)) z.2 → zPJ X 0 0 78 [(0, .ref v0), (1, .int v1), (2, .int v2), (3, .int v3)] [] σ) (hk129 : ∀ {σ : zSt} {v0 : Nat} {v1 : Int32} {v2 : Int32} {v3 : Int32} {v4 : Int32} {z : Int32 × zSt}, k129 σ v0 v1 v2 v3 v4 = some z → zRX X 0 0 (some (.int z.1)) z.2 → zPJ X 0 0 129 [(0, .ref v0), (1, .int v1), (2, .int v2), (3, .int v3), (4, .int v4)] [] σ) {σ : zSt} {v0 : Nat} {v1 : Int32} {v2 : Int32} {v3 : Int32} {v4 : Int32} {z : Int32 × zSt} (h : f_M_errand_129 k78 k129 σ v0 v1 v2 v3 v4 = some z) (hr : zRX X 0 0 (some (.int z.1)) z.2) : zPJ X 0 0 129 [(0, .ref v0), (1, .int v1), (2, .int v2), (3, .int v3), (4, .int v4)] [] σ := by
  unfold f_M_errand_129 at h
  refine zj_iload o (zdd k_M_errand 74 rfl) 4 rfl ?_
  refine zj_iload_n o (zdd k_M_errand 75 rfl) rfl 1 rfl ?_
  refine zj_icmp_gt (tgt := 155) o (zdd k_M_errand 76 rfl) (by decide) (fun hc => ?_) (fun hc => ?_)
  · rw [if_pos hc] at h
    refine zj_iinc (v := v3 + 1) (loc' := [(3, .int (v3 + 1)), (0, .ref v0), (1, .int v1), (2, .int v2), (4, .int v4)]) o (zdd k_M_errand 87 rfl) 3 rfl (by rw [zki_1]) (by decide) rfl ?_
    refine zj_goto (tgt := 78) o (zdd k_M_errand 88 rfl) (by decide) ?_
    exact zj_sub [1, 2, 3, 0] rfl (hk78 h hr)
  · rw [if_neg hc] at h
    refine zj_aload_n o (zdd k_M_errand 77 rfl) rfl 0 rfl ?_
    obtain ⟨a1, e_a1, h⟩ := zbd h
    refine zj_gP o (zdd k_M_errand 78 rfl) fl_M_102 rfl e_a1 ?_
    refine zj_iload o (zdd k_M_errand 79 rfl) 4 rfl ?_
    refine zj_aload_n o (zdd k_M_errand 80 rfl) rfl 0 rfl ?_
    obtain ⟨a2, e_a2, h⟩ := zbd h
    refine zj_gP o (zdd k_M_errand 81 rfl) fl_M_105 rfl e_a2 ?_
    refine zj_iload o (zdd k_M_errand 82 rfl) 4 rfl ?_
    obtain ⟨x3, e_x3, h⟩ := zbd h
    refine zj_iald o (zdd k_M_errand 83 rfl) e_x3 ?_
    obtain ⟨σ4, e_σ4, h⟩ := zbd h
    refine zj_iast o (zdd k_M_errand 84 rfl) e_σ4 ?_
    refine zj_iinc (v := v4 + 1) (loc' := [(4, .int (v4 + 1)), (0, .ref v0), (1, .int v1), (2, .int v2), (3, .int v3)]) o (zdd k_M_errand 85 rfl) 4 rfl (by rw [zki_1]) (by decide) rfl ?_
    refine zj_goto (tgt := 129) o (zdd k_M_errand 86 rfl) (by decide) ?_
    exact zj_sub [1, 2, 3, 4, 0] rfl (hk129 h hr)
def f_M_errand_129L (k78 : zSt → Nat → Int32 → Int32 → Int32 → Option (Int32 × zSt)) : Nat → zSt → Nat → Int32 → Int32 → Int32 → Int32 → Option (Int32 × zSt)
  | 0 => fun _ _ _ _ _ _ => none
  | n + 1 => f_M_errand_129  k78 (f_M_errand_129L k78 n)
theorem r_M_errand_129L {X : zCX} (o : zOK X "WantShelvesModel" c_M_errand n_M_errand 9) {k78 : zSt → Nat → Int32 → Int32 → Int32 → Option (Int32 × zSt)} (hk78 : ∀ {σ : zSt} {v0 : Nat} {v1 : Int32} {v2 : Int32} {v3 : Int32} {z : Int32 × zSt}, k78 σ v0 v1 v2 v3 = some z → zRX X 0 0 (some (.int z.1)) z.2 → zPJ X 0 0 78 [(0, .ref v0), (1, .int v1), (2, .int v2), (3, .int v3)] [] σ) : ∀ (n : Nat) {σ : zSt} {v0 : Nat} {v1 : Int32} {v2 : Int32} {v3 : Int32} {v4 : Int32} {z : Int32 × zSt}, f_M_errand_129L k78 n σ v0 v1 v2 v3 v4 = some z → zRX X 0 0 (some (.int z.1)) z.2 → zPJ X 0 0 129 [(0, .ref v0), (1, .int v1), (2, .int v2), (3, .int v3), (4, .int v4)] [] σ
  | 0 => fun h _ => by cases h
  | n + 1 => fun h hr => r_M_errand_129 o hk78 (r_M_errand_129L o hk78 n) h hr
def f_M_errand_86 (k78 : zSt → Nat → Int32 → Int32 → Int32 → Option (Int32 × zSt)) (k86 : zSt → Nat → Int32 → Int32 → Int32 → Int32 → Option (Int32 × zSt)) (σ : zSt) (v0 : Nat) (v1 : Int32) (v2 : Int32) (v3 : Int32) (v4 : Int32) : Option (Int32 × zSt) :=
if v1 < v4 then (
f_M_errand_129L k78 zfu σ v0 v1 v2 v3 0) else
(zgP σ 12 v0 62).bind fun a1 =>
if v4 &&& (v1 ^^^ (-1)) = 0 then (
(f_M_bestSplit σ v0 v4).bind fun x3 =>
(zwI σ 1 a1 v4 x3).bind fun σ4 =>
k86 σ4 v0 v1 v2 v3 (v4 + 1)) else
(zwI σ 1 a1 v4 1000000).bind fun σ2 =>
k86 σ2 v0 v1 v2 v3 (v4 + 1)
set_option maxRecDepth 100000 in
set_option maxHeartbeats 4000000 in
theorem r_M_errand_86 {X : zCX} (o : zOK X "WantShelvesModel" c_M_errand n_M_errand 9) {k78 : zSt → Nat → Int32 → Int32 → Int32 → Option (Int32 × zSt)} {k86 : zSt → Nat → Int32 → Int32 → Int32 → Int32 → Option (Int32 × zSt)} (hk78 : ∀ {σ : zSt} {v0 : Nat} {v1 : Int32} {v2 : Int32} {v3 : Int32} {z : Int32 × zSt}, k78 σ v0 v1 v2 v3 = some z → zRX X 0 0 (some (.int z.1)) z.2 → zPJ X 0 0 78 [(0, .ref v0), (1, .int v1), (2, .int v2), (3, .int v3)] [] σ) (hk86 : ∀ {σ : zSt} {v0 : Nat} {v1 : Int32} {v2 : Int32} {v3 : Int32} {v4 : Int32} {z : Int32 × zSt}, k86 σ v0 v1 v2 v3 v4 = some z → zRX X 0 0 (some (.int z.1)) z.2 → zPJ X 0 0 86 [(0, .ref v0), (1, .int v1), (2, .int v2), (3, .int v3), (4, .int v4)] [] σ) {σ : zSt} {v0 : Nat} {v1 : Int32} {v2 : Int32} {v3 : Int32} {v4 : Int32} {z : Int32 × zSt} (h : f_M_errand_86 k78 k86 σ v0 v1 v2 v3 v4 = some z) (hr : zRX X 0 0 (some (.int z.1)) z.2) : zPJ X 0 0 86 [(0, .ref v0), (1, .int v1), (2, .int v2), (3, .int v3), (4, .int v4)] [] σ := by
  unfold f_M_errand_86 at h
  refine zj_iload o (zdd k_M_errand 52 rfl) 4 rfl ?_
  refine zj_iload_n o (zdd k_M_errand 53 rfl) rfl 1 rfl ?_
  refine zj_icmp_gt (tgt := 126) o (zdd k_M_errand 54 rfl) (by decide) (fun hc => ?_) (fun hc => ?_)
  · rw [if_pos hc] at h
    refine zj_iconst o (zdd k_M_errand 72 rfl) zki_0 ?_
    refine zj_istore (loc' := [(4, .int 0), (0, .ref v0), (1, .int v1), (2, .int v2), (3, .int v3)]) o (zdd k_M_errand 73 rfl) (by decide) rfl ?_
    exact zj_sub [1, 2, 3, 4, 0] rfl (r_M_errand_129L o hk78 zfu h hr)
  · rw [if_neg hc] at h
    refine zj_aload_n o (zdd k_M_errand 55 rfl) rfl 0 rfl ?_
    obtain ⟨a1, e_a1, h⟩ := zbd h
    refine zj_gP o (zdd k_M_errand 56 rfl) fl_M_105 rfl e_a1 ?_
    refine zj_iload o (zdd k_M_errand 57 rfl) 4 rfl ?_
    refine zj_iload o (zdd k_M_errand 58 rfl) 4 rfl ?_
    refine zj_iload_n o (zdd k_M_errand 59 rfl) rfl 1 rfl ?_
    refine zj_iconst o (zdd k_M_errand 60 rfl) zki_m1 ?_
    refine zj_ixor o (zdd k_M_errand 61 rfl) ?_
    refine zj_iand o (zdd k_M_errand 62 rfl) ?_
    refine zj_if_ne (tgt := 116) o (zdd k_M_errand 63 rfl) (by decide) (fun hc => ?_) (fun hc => ?_)
    · rw [if_neg hc] at h
      refine zj_ldcw o (zdd k_M_errand 68 rfl) co_M_514 ?_
      obtain ⟨σ2, e_σ2, h⟩ := zbd h
      refine zj_iast o (zdd k_M_errand 69 rfl) e_σ2 ?_
      refine zj_iinc (v := v4 + 1) (loc' := [(4, .int (v4 + 1)), (0, .ref v0), (1, .int v1), (2, .int v2), (3, .int v3)]) o (zdd k_M_errand 70 rfl) 4 rfl (by rw [zki_1]) (by decide) rfl ?_
      refine zj_goto (tgt := 86) o (zdd k_M_errand 71 rfl) (by decide) ?_
      exact zj_sub [1, 2, 3, 4, 0] rfl (hk86 h hr)
    · rw [if_pos hc] at h
      refine zj_aload_n o (zdd k_M_errand 64 rfl) rfl 0 rfl ?_
      refine zj_iload o (zdd k_M_errand 65 rfl) 4 rfl ?_
      obtain ⟨x3, e_x3, h⟩ := zbd h
      refine zc_V o (zdd k_M_errand 66 rfl) ml_M_524 mv_M_bestSplit ⟨rfl, by decide⟩ (zg_some e_x3).1 (by decide) [.int v4] [.int v4, .ref a1] rfl (Nat.le_of_ble_eq_true rfl) rfl (m_M_bestSplit e_x3) ?_
      change zPJ X 0 0 _ _ [.int x3, .int v4, .ref a1] _
      refine zj_goto (tgt := 119) o (zdd k_M_errand 67 rfl) (by decide) ?_
      obtain ⟨σ4, e_σ4, h⟩ := zbd h
      refine zj_iast o (zdd k_M_errand 69 rfl) e_σ4 ?_
      refine zj_iinc (v := v4 + 1) (loc' := [(4, .int (v4 + 1)), (0, .ref v0), (1, .int v1), (2, .int v2), (3, .int v3)]) o (zdd k_M_errand 70 rfl) 4 rfl (by rw [zki_1]) (by decide) rfl ?_
      refine zj_goto (tgt := 86) o (zdd k_M_errand 71 rfl) (by decide) ?_
      exact zj_sub [1, 2, 3, 4, 0] rfl (hk86 h hr)
def f_M_errand_86L (k78 : zSt → Nat → Int32 → Int32 → Int32 → Option (Int32 × zSt)) : Nat → zSt → Nat → Int32 → Int32 → Int32 → Int32 → Option (Int32 × zSt)
  | 0 => fun _ _ _ _ _ _ => none
  | n + 1 => f_M_errand_86  k78 (f_M_errand_86L k78 n)
theorem r_M_errand_86L {X : zCX} (o : zOK X "WantShelvesModel" c_M_errand n_M_errand 9) {k78 : zSt → Nat → Int32 → Int32 → Int32 → Option (Int32 × zSt)} (hk78 : ∀ {σ : zSt} {v0 : Nat} {v1 : Int32} {v2 : Int32} {v3 : Int32} {z : Int32 × zSt}, k78 σ v0 v1 v2 v3 = some z → zRX X 0 0 (some (.int z.1)) z.2 → zPJ X 0 0 78 [(0, .ref v0), (1, .int v1), (2, .int v2), (3, .int v3)] [] σ) : ∀ (n : Nat) {σ : zSt} {v0 : Nat} {v1 : Int32} {v2 : Int32} {v3 : Int32} {v4 : Int32} {z : Int32 × zSt}, f_M_errand_86L k78 n σ v0 v1 v2 v3 v4 = some z → zRX X 0 0 (some (.int z.1)) z.2 → zPJ X 0 0 86 [(0, .ref v0), (1, .int v1), (2, .int v2), (3, .int v3), (4, .int v4)] [] σ
  | 0 => fun h _ => by cases h
  | n + 1 => fun h hr => r_M_errand_86 o hk78 (r_M_errand_86L o hk78 n) h hr
def f_M_errand_78 (k78 : zSt → Nat → Int32 → Int32 → Int32 → Option (Int32 × zSt)) (σ : zSt) (v0 : Nat) (v1 : Int32) (v2 : Int32) (v3 : Int32) : Option (Int32 × zSt) :=
if v2 ≤ v3 then (
(zgP σ 12 v0 61).bind fun a1 =>
(zaI σ 1 a1 v1).bind fun x2 =>
some (x2, σ)) else
f_M_errand_86L k78 zfu σ v0 v1 v2 v3 0
set_option maxRecDepth 100000 in
set_option maxHeartbeats 4000000 in
theorem r_M_errand_78 {X : zCX} (o : zOK X "WantShelvesModel" c_M_errand n_M_errand 9) {k78 : zSt → Nat → Int32 → Int32 → Int32 → Option (Int32 × zSt)} (hk78 : ∀ {σ : zSt} {v0 : Nat} {v1 : Int32} {v2 : Int32} {v3 : Int32} {z : Int32 × zSt}, k78 σ v0 v1 v2 v3 = some z → zRX X 0 0 (some (.int z.1)) z.2 → zPJ X 0 0 78 [(0, .ref v0), (1, .int v1), (2, .int v2), (3, .int v3)] [] σ) {σ : zSt} {v0 : Nat} {v1 : Int32} {v2 : Int32} {v3 : Int32} {z : Int32 × zSt} (h : f_M_errand_78 k78 σ v0 v1 v2 v3 = some z) (hr : zRX X 0 0 (some (.int z.1)) z.2) : zPJ X 0 0 78 [(0, .ref v0), (1, .int v1), (2, .int v2), (3, .int v3)] [] σ := by
  unfold f_M_errand_78 at h
  refine zj_iload_n o (zdd k_M_errand 47 rfl) rfl 3 rfl ?_
  refine zj_iload_n o (zdd k_M_errand 48 rfl) rfl 2 rfl ?_
  refine zj_icmp_ge (tgt := 161) o (zdd k_M_errand 49 rfl) (by decide) (fun hc => ?_) (fun hc => ?_)
  · rw [if_pos hc] at h
    refine zj_aload_n o (zdd k_M_errand 89 rfl) rfl 0 rfl ?_
    obtain ⟨a1, e_a1, h⟩ := zbd h
    refine zj_gP o (zdd k_M_errand 90 rfl) fl_M_102 rfl e_a1 ?_
    refine zj_iload_n o (zdd k_M_errand 91 rfl) rfl 1 rfl ?_
    obtain ⟨x2, e_x2, h⟩ := zbd h
    refine zj_iald o (zdd k_M_errand 92 rfl) e_x2 ?_
    cases h
    exact zr_i o hr (zdd k_M_errand 93 rfl)
  · rw [if_neg hc] at h
    refine zj_iconst o (zdd k_M_errand 50 rfl) zki_0 ?_
    refine zj_istore (loc' := [(4, .int 0), (0, .ref v0), (1, .int v1), (2, .int v2), (3, .int v3)]) o (zdd k_M_errand 51 rfl) (by decide) rfl ?_
    exact zj_sub [1, 2, 3, 4, 0] rfl (r_M_errand_86L o hk78 zfu h hr)
def f_M_errand_78L : Nat → zSt → Nat → Int32 → Int32 → Int32 → Option (Int32 × zSt)
  | 0 => fun _ _ _ _ _ => none
  | n + 1 => f_M_errand_78  (f_M_errand_78L  n)
theorem r_M_errand_78L {X : zCX} (o : zOK X "WantShelvesModel" c_M_errand n_M_errand 9) : ∀ (n : Nat) {σ : zSt} {v0 : Nat} {v1 : Int32} {v2 : Int32} {v3 : Int32} {z : Int32 × zSt}, f_M_errand_78L n σ v0 v1 v2 v3 = some z → zRX X 0 0 (some (.int z.1)) z.2 → zPJ X 0 0 78 [(0, .ref v0), (1, .int v1), (2, .int v2), (3, .int v3)] [] σ
  | 0 => fun h _ => by cases h
  | n + 1 => fun h hr => r_M_errand_78 o (r_M_errand_78L o  n) h hr
def f_M_errand_53 (k53 : zSt → Nat → Int32 → Int32 → Int32 → Option (Int32 × zSt)) (σ : zSt) (v0 : Nat) (v1 : Int32) (v2 : Int32) (v3 : Int32) : Option (Int32 × zSt) :=
if v1 < v3 then (
f_M_errand_78L zfu σ v0 v1 v2 1) else
(zgP σ 12 v0 61).bind fun a1 =>
(zgP σ 12 v0 60).bind fun a2 =>
(zaI σ 1 a2 v3).bind fun x3 =>
(zwI σ 1 a1 v3 x3).bind fun σ4 =>
k53 σ4 v0 v1 v2 (v3 + 1)
set_option maxRecDepth 100000 in
set_option maxHeartbeats 4000000 in
theorem r_M_errand_53 {X : zCX} (o : zOK X "WantShelvesModel" c_M_errand n_M_errand 9) {k53 : zSt → Nat → Int32 → Int32 → Int32 → Option (Int32 × zSt)} (hk53 : ∀ {σ : zSt} {v0 : Nat} {v1 : Int32} {v2 : Int32} {v3 : Int32} {z : Int32 × zSt}, k53 σ v0 v1 v2 v3 = some z → zRX X 0 0 (some (.int z.1)) z.2 → zPJ X 0 0 53 [(0, .ref v0), (1, .int v1), (2, .int v2), (3, .int v3)] [] σ) {σ : zSt} {v0 : Nat} {v1 : Int32} {v2 : Int32} {v3 : Int32} {z : Int32 × zSt} (h : f_M_errand_53 k53 σ v0 v1 v2 v3 = some z) (hr : zRX X 0 0 (some (.int z.1)) z.2) : zPJ X 0 0 53 [(0, .ref v0), (1, .int v1), (2, .int v2), (3, .int v3)] [] σ := by
  unfold f_M_errand_53 at h
  refine zj_iload_n o (zdd k_M_errand 32 rfl) rfl 3 rfl ?_
  refine zj_iload_n o (zdd k_M_errand 33 rfl) rfl 1 rfl ?_
  refine zj_icmp_gt (tgt := 76) o (zdd k_M_errand 34 rfl) (by decide) (fun hc => ?_) (fun hc => ?_)
  · rw [if_pos hc] at h
    refine zj_iconst o (zdd k_M_errand 45 rfl) zki_1 ?_
    refine zj_istore_n (loc' := [(3, .int 1), (0, .ref v0), (1, .int v1), (2, .int v2)]) o (zdd k_M_errand 46 rfl) rfl (by decide) rfl ?_
    exact zj_sub [1, 2, 3, 0] rfl (r_M_errand_78L o  zfu h hr)
  · rw [if_neg hc] at h
    refine zj_aload_n o (zdd k_M_errand 35 rfl) rfl 0 rfl ?_
    obtain ⟨a1, e_a1, h⟩ := zbd h
    refine zj_gP o (zdd k_M_errand 36 rfl) fl_M_102 rfl e_a1 ?_
    refine zj_iload_n o (zdd k_M_errand 37 rfl) rfl 3 rfl ?_
    refine zj_aload_n o (zdd k_M_errand 38 rfl) rfl 0 rfl ?_
    obtain ⟨a2, e_a2, h⟩ := zbd h
    refine zj_gP o (zdd k_M_errand 39 rfl) fl_M_99 rfl e_a2 ?_
    refine zj_iload_n o (zdd k_M_errand 40 rfl) rfl 3 rfl ?_
    obtain ⟨x3, e_x3, h⟩ := zbd h
    refine zj_iald o (zdd k_M_errand 41 rfl) e_x3 ?_
    obtain ⟨σ4, e_σ4, h⟩ := zbd h
    refine zj_iast o (zdd k_M_errand 42 rfl) e_σ4 ?_
    refine zj_iinc (v := v3 + 1) (loc' := [(3, .int (v3 + 1)), (0, .ref v0), (1, .int v1), (2, .int v2)]) o (zdd k_M_errand 43 rfl) 3 rfl (by rw [zki_1]) (by decide) rfl ?_
    refine zj_goto (tgt := 53) o (zdd k_M_errand 44 rfl) (by decide) ?_
    exact zj_sub [1, 2, 3, 0] rfl (hk53 h hr)
def f_M_errand_53L : Nat → zSt → Nat → Int32 → Int32 → Int32 → Option (Int32 × zSt)
  | 0 => fun _ _ _ _ _ => none
  | n + 1 => f_M_errand_53  (f_M_errand_53L  n)
theorem r_M_errand_53L {X : zCX} (o : zOK X "WantShelvesModel" c_M_errand n_M_errand 9) : ∀ (n : Nat) {σ : zSt} {v0 : Nat} {v1 : Int32} {v2 : Int32} {v3 : Int32} {z : Int32 × zSt}, f_M_errand_53L n σ v0 v1 v2 v3 = some z → zRX X 0 0 (some (.int z.1)) z.2 → zPJ X 0 0 53 [(0, .ref v0), (1, .int v1), (2, .int v2), (3, .int v3)] [] σ
  | 0 => fun h _ => by cases h
  | n + 1 => fun h hr => r_M_errand_53 o (r_M_errand_53L o  n) h hr
def f_M_errand (σ : zSt) (t : Nat) (p0 : Int32) (p1 : Int32) : Option (Int32 × zSt) :=
zg σ 12 t (
(zgI σ 12 t 42).bind fun x1 =>
(f_M_isIn p0 0 ((1 <<< (x1 &&& 31)) - 1)).bind fun x2 =>
if x2 = 0 then (
some ((-1), σ)) else
(zgP σ 12 t 49).bind fun a3 =>
(zaI σ 1 a3 31).bind fun x4 =>
if p0 &&& x4 = 0 then (
(f_M_isIn p1 1 3).bind fun x5 =>
if x5 = 0 then (
some ((-1), σ)) else
(zgI σ 12 t 43).bind fun x6 =>
if x6 = 0 then (
some ((-1), σ)) else
(f_M_layVisits σ t p0).bind fun σ7 =>
f_M_errand_53L zfu σ7 t p0 p1 0) else
some ((-1), σ))
set_option maxRecDepth 100000 in
set_option maxHeartbeats 4000000 in
theorem m_M_errand {l : Launch} {b : Nat} {ex : Nat → Value} {D : va_G} {ca : Nat → ClassId} {σ : zSt} {t : Nat} {p0 : Int32} {p1 : Int32} {z : Int32 × zSt} (h : f_M_errand σ t p0 p1 = some z) : zMT l b ex D ca 9 y_M_errand c_M_errand n_M_errand r_ret_M_errand [.ref t, .int p0, .int p1] σ (some (.int z.1)) z.2 0 0 := by
  obtain ⟨_, hg0⟩ := zg_some h
  have h := hg0
  refine zmt_of (by decide) (Nat.le_of_ble_eq_true rfl) ⟨.int, rfl, rfl⟩ (fun X o hin hrm _ _ _ _ _ hr => ?_)
  have hr := hr 0 0 (by decide) (by decide)
  have o : zOK X "WantShelvesModel" c_M_errand n_M_errand 9 := o
  change zPJ X 0 0 0 [(0, .ref t), (1, .int p0), (2, .int p1)] [] σ
  refine zj_iload_n o (zdd k_M_errand 0 rfl) rfl 1 rfl ?_
  refine zj_iconst o (zdd k_M_errand 1 rfl) zki_0 ?_
  refine zj_iconst o (zdd k_M_errand 2 rfl) zki_1 ?_
  refine zj_aload_n o (zdd k_M_errand 3 rfl) rfl 0 rfl ?_
  obtain ⟨x1, e_x1, h⟩ := zbd h
  refine zj_gI o (zdd k_M_errand 4 rfl) fl_M_391 rfl e_x1 ?_
  refine zj_ishl o (zdd k_M_errand 5 rfl) ?_
  refine zj_iconst o (zdd k_M_errand 6 rfl) zki_1 ?_
  refine zj_isub o (zdd k_M_errand 7 rfl) ?_
  obtain ⟨x2, e_x2, h⟩ := zbd h
  refine zc_S o (zdd k_M_errand 8 rfl) ml_M_425 ms_M_isIn (by decide) [.int p0, .int 0, .int ((1 <<< (x1 &&& 31)) - 1)] [] rfl (Nat.le_of_ble_eq_true rfl) rfl (m_M_isIn e_x2) ?_
  change zPJ X 0 0 _ _ [.int x2] _
  refine zj_if_eq (tgt := 44) o (zdd k_M_errand 9 rfl) (by decide) (fun hc => ?_) (fun hc => ?_)
  · rw [if_pos hc] at h
    refine zj_iconst o (zdd k_M_errand 25 rfl) zki_m1 ?_
    cases h
    exact zr_i o hr (zdd k_M_errand 26 rfl)
  · rw [if_neg hc] at h
    refine zj_iload_n o (zdd k_M_errand 10 rfl) rfl 1 rfl ?_
    refine zj_aload_n o (zdd k_M_errand 11 rfl) rfl 0 rfl ?_
    obtain ⟨a3, e_a3, h⟩ := zbd h
    refine zj_gP o (zdd k_M_errand 12 rfl) fl_M_78 rfl e_a3 ?_
    refine zj_bipush o (zdd k_M_errand 13 rfl) zkb_31 ?_
    obtain ⟨x4, e_x4, h⟩ := zbd h
    refine zj_iald o (zdd k_M_errand 14 rfl) e_x4 ?_
    refine zj_iand o (zdd k_M_errand 15 rfl) ?_
    refine zj_if_ne (tgt := 44) o (zdd k_M_errand 16 rfl) (by decide) (fun hc => ?_) (fun hc => ?_)
    · rw [if_neg hc] at h
      refine zj_iconst o (zdd k_M_errand 25 rfl) zki_m1 ?_
      cases h
      exact zr_i o hr (zdd k_M_errand 26 rfl)
    · rw [if_pos hc] at h
      refine zj_iload_n o (zdd k_M_errand 17 rfl) rfl 2 rfl ?_
      refine zj_iconst o (zdd k_M_errand 18 rfl) zki_1 ?_
      refine zj_iconst o (zdd k_M_errand 19 rfl) zki_3 ?_
      obtain ⟨x5, e_x5, h⟩ := zbd h
      refine zc_S o (zdd k_M_errand 20 rfl) ml_M_425 ms_M_isIn (by decide) [.int p1, .int 1, .int 3] [] rfl (Nat.le_of_ble_eq_true rfl) rfl (m_M_isIn e_x5) ?_
      change zPJ X 0 0 _ _ [.int x5] _
      refine zj_if_eq (tgt := 44) o (zdd k_M_errand 21 rfl) (by decide) (fun hc => ?_) (fun hc => ?_)
      · rw [if_pos hc] at h
        refine zj_iconst o (zdd k_M_errand 25 rfl) zki_m1 ?_
        cases h
        exact zr_i o hr (zdd k_M_errand 26 rfl)
      · rw [if_neg hc] at h
        refine zj_aload_n o (zdd k_M_errand 22 rfl) rfl 0 rfl ?_
        obtain ⟨x6, e_x6, h⟩ := zbd h
        refine zj_gI o (zdd k_M_errand 23 rfl) fl_M_394 rfl e_x6 ?_
        refine zj_if_ne (tgt := 46) o (zdd k_M_errand 24 rfl) (by decide) (fun hc => ?_) (fun hc => ?_)
        · rw [if_neg hc] at h
          refine zj_aload_n o (zdd k_M_errand 27 rfl) rfl 0 rfl ?_
          refine zj_iload_n o (zdd k_M_errand 28 rfl) rfl 1 rfl ?_
          obtain ⟨σ7, e_σ7, h⟩ := zbd h
          refine zc_V o (zdd k_M_errand 29 rfl) ml_M_521 mv_M_layVisits ⟨rfl, by decide⟩ (zg_some e_σ7).1 (by decide) [.int p0] [] rfl (Nat.le_of_ble_eq_true rfl) rfl (m_M_layVisits e_σ7) ?_
          change zPJ X 0 0 _ _ [] _
          refine zj_iconst o (zdd k_M_errand 30 rfl) zki_0 ?_
          refine zj_istore_n (loc' := [(3, .int 0), (0, .ref t), (1, .int p0), (2, .int p1)]) o (zdd k_M_errand 31 rfl) rfl (by decide) rfl ?_
          exact zj_sub [1, 2, 3, 0] rfl (r_M_errand_53L o  zfu h hr)
        · rw [if_pos hc] at h
          refine zj_iconst o (zdd k_M_errand 25 rfl) zki_m1 ?_
          cases h
          exact zr_i o hr (zdd k_M_errand 26 rfl)
def f_M_leads_108 (k108 : zSt → Nat → Int32 → Int32 → Option (Int32 × zSt)) (σ : zSt) (v0 : Nat) (v3 : Int32) (v4 : Int32) : Option (Int32 × zSt) :=
if 92 ≤ v4 then (
some (v3, σ)) else
(zgP σ 12 v0 49).bind fun a1 =>
(zgP σ 12 v0 63).bind fun a2 =>
(zaI σ 1 a2 v4).bind fun x3 =>
(zwI σ 1 a1 v4 x3).bind fun σ4 =>
k108 σ4 v0 v3 (v4 + 1)
set_option maxRecDepth 100000 in
set_option maxHeartbeats 4000000 in
theorem r_M_leads_108 {X : zCX} (o : zOK X "WantShelvesModel" c_M_leads n_M_leads 7) {k108 : zSt → Nat → Int32 → Int32 → Option (Int32 × zSt)} (hk108 : ∀ {σ : zSt} {v0 : Nat} {v3 : Int32} {v4 : Int32} {z : Int32 × zSt}, k108 σ v0 v3 v4 = some z → zRX X 0 0 (some (.int z.1)) z.2 → zPJ X 0 0 108 [(0, .ref v0), (3, .int v3), (4, .int v4)] [] σ) {σ : zSt} {v0 : Nat} {v3 : Int32} {v4 : Int32} {z : Int32 × zSt} (h : f_M_leads_108 k108 σ v0 v3 v4 = some z) (hr : zRX X 0 0 (some (.int z.1)) z.2) : zPJ X 0 0 108 [(0, .ref v0), (3, .int v3), (4, .int v4)] [] σ := by
  unfold f_M_leads_108 at h
  refine zj_iload o (zdd k_M_leads 62 rfl) 2 rfl ?_
  refine zj_bipush o (zdd k_M_leads 63 rfl) zkb_92 ?_
  refine zj_icmp_ge (tgt := 135) o (zdd k_M_leads 64 rfl) (by decide) (fun hc => ?_) (fun hc => ?_)
  · rw [if_pos hc] at h
    refine zj_iload_n o (zdd k_M_leads 75 rfl) rfl 1 rfl ?_
    cases h
    exact zr_i o hr (zdd k_M_leads 76 rfl)
  · rw [if_neg hc] at h
    refine zj_aload_n o (zdd k_M_leads 65 rfl) rfl 0 rfl ?_
    obtain ⟨a1, e_a1, h⟩ := zbd h
    refine zj_gP o (zdd k_M_leads 66 rfl) fl_M_78 rfl e_a1 ?_
    refine zj_iload o (zdd k_M_leads 67 rfl) 2 rfl ?_
    refine zj_aload_n o (zdd k_M_leads 68 rfl) rfl 0 rfl ?_
    obtain ⟨a2, e_a2, h⟩ := zbd h
    refine zj_gP o (zdd k_M_leads 69 rfl) fl_M_108 rfl e_a2 ?_
    refine zj_iload o (zdd k_M_leads 70 rfl) 2 rfl ?_
    obtain ⟨x3, e_x3, h⟩ := zbd h
    refine zj_iald o (zdd k_M_leads 71 rfl) e_x3 ?_
    obtain ⟨σ4, e_σ4, h⟩ := zbd h
    refine zj_iast o (zdd k_M_leads 72 rfl) e_σ4 ?_
    refine zj_iinc (v := v4 + 1) (loc' := [(4, .int (v4 + 1)), (0, .ref v0), (3, .int v3)]) o (zdd k_M_leads 73 rfl) 2 rfl (by rw [zki_1]) (by decide) rfl ?_
    refine zj_goto (tgt := 108) o (zdd k_M_leads 74 rfl) (by decide) ?_
    exact zj_sub [1, 2, 0] rfl (hk108 h hr)
def f_M_leads_108L : Nat → zSt → Nat → Int32 → Int32 → Option (Int32 × zSt)
  | 0 => fun _ _ _ _ => none
  | n + 1 => f_M_leads_108  (f_M_leads_108L  n)
theorem r_M_leads_108L {X : zCX} (o : zOK X "WantShelvesModel" c_M_leads n_M_leads 7) : ∀ (n : Nat) {σ : zSt} {v0 : Nat} {v3 : Int32} {v4 : Int32} {z : Int32 × zSt}, f_M_leads_108L n σ v0 v3 v4 = some z → zRX X 0 0 (some (.int z.1)) z.2 → zPJ X 0 0 108 [(0, .ref v0), (3, .int v3), (4, .int v4)] [] σ
  | 0 => fun h _ => by cases h
  | n + 1 => fun h hr => r_M_leads_108 o (r_M_leads_108L o  n) h hr
def f_M_leads_68 (k68 : zSt → Nat → Int32 → Int32 → Int32 → Int32 → Option (Int32 × zSt)) (σ : zSt) (v0 : Nat) (v1 : Int32) (v2 : Int32) (v3 : Int32) (v4 : Int32) : Option (Int32 × zSt) :=
if v2 ≤ v4 then (
f_M_leads_108L zfu σ v0 v3 0) else
(f_M_layOwn σ v0 v1).bind fun σ1 =>
(f_M_layOrder σ1 v0 (1 <<< (v1 &&& 31))).bind fun σ2 =>
(zgP σ2 12 v0 52).bind fun a3 =>
(zaI σ2 1 a3 0).bind fun x4 =>
(f_M_reads σ2 v0 v1 x4).bind fun σ5 =>
k68 σ5 v0 v1 v2 x4 (v4 + 1)
set_option maxRecDepth 100000 in
set_option maxHeartbeats 4000000 in
theorem r_M_leads_68 {X : zCX} (o : zOK X "WantShelvesModel" c_M_leads n_M_leads 7) {k68 : zSt → Nat → Int32 → Int32 → Int32 → Int32 → Option (Int32 × zSt)} (hk68 : ∀ {σ : zSt} {v0 : Nat} {v1 : Int32} {v2 : Int32} {v3 : Int32} {v4 : Int32} {z : Int32 × zSt}, k68 σ v0 v1 v2 v3 v4 = some z → zRX X 0 0 (some (.int z.1)) z.2 → zPJ X 0 0 68 [(0, .ref v0), (1, .int v1), (2, .int v2), (3, .int v3), (4, .int v4)] [] σ) {σ : zSt} {v0 : Nat} {v1 : Int32} {v2 : Int32} {v3 : Int32} {v4 : Int32} {z : Int32 × zSt} (h : f_M_leads_68 k68 σ v0 v1 v2 v3 v4 = some z) (hr : zRX X 0 0 (some (.int z.1)) z.2) : zPJ X 0 0 68 [(0, .ref v0), (1, .int v1), (2, .int v2), (3, .int v3), (4, .int v4)] [] σ := by
  unfold f_M_leads_68 at h
  refine zj_iload o (zdd k_M_leads 38 rfl) 4 rfl ?_
  refine zj_iload_n o (zdd k_M_leads 39 rfl) rfl 2 rfl ?_
  refine zj_icmp_ge (tgt := 105) o (zdd k_M_leads 40 rfl) (by decide) (fun hc => ?_) (fun hc => ?_)
  · rw [if_pos hc] at h
    refine zj_iconst o (zdd k_M_leads 60 rfl) zki_0 ?_
    refine zj_istore (loc' := [(4, .int 0), (0, .ref v0), (1, .int v1), (2, .int v2), (3, .int v3)]) o (zdd k_M_leads 61 rfl) (by decide) rfl ?_
    exact zj_sub [1, 4, 0] rfl (r_M_leads_108L o  zfu h hr)
  · rw [if_neg hc] at h
    refine zj_aload_n o (zdd k_M_leads 41 rfl) rfl 0 rfl ?_
    refine zj_iload_n o (zdd k_M_leads 42 rfl) rfl 1 rfl ?_
    obtain ⟨σ1, e_σ1, h⟩ := zbd h
    refine zc_V o (zdd k_M_leads 43 rfl) ml_M_457 mv_M_layOwn ⟨rfl, by decide⟩ (zg_some e_σ1).1 (by decide) [.int v1] [] rfl (Nat.le_of_ble_eq_true rfl) rfl (m_M_layOwn e_σ1) ?_
    change zPJ X 0 0 _ _ [] _
    refine zj_aload_n o (zdd k_M_leads 44 rfl) rfl 0 rfl ?_
    refine zj_iconst o (zdd k_M_leads 45 rfl) zki_1 ?_
    refine zj_iload_n o (zdd k_M_leads 46 rfl) rfl 1 rfl ?_
    refine zj_ishl o (zdd k_M_leads 47 rfl) ?_
    obtain ⟨σ2, e_σ2, h⟩ := zbd h
    refine zc_V o (zdd k_M_leads 48 rfl) ml_M_493 mv_M_layOrder ⟨rfl, by decide⟩ (zg_some e_σ2).1 (by decide) [.int (1 <<< (v1 &&& 31))] [] rfl (Nat.le_of_ble_eq_true rfl) rfl (m_M_layOrder e_σ2) ?_
    change zPJ X 0 0 _ _ [] _
    refine zj_aload_n o (zdd k_M_leads 49 rfl) rfl 0 rfl ?_
    obtain ⟨a3, e_a3, h⟩ := zbd h
    refine zj_gP o (zdd k_M_leads 50 rfl) fl_M_87 rfl e_a3 ?_
    refine zj_iconst o (zdd k_M_leads 51 rfl) zki_0 ?_
    obtain ⟨x4, e_x4, h⟩ := zbd h
    refine zj_iald o (zdd k_M_leads 52 rfl) e_x4 ?_
    refine zj_istore_n (loc' := [(3, .int x4), (0, .ref v0), (1, .int v1), (2, .int v2), (4, .int v4)]) o (zdd k_M_leads 53 rfl) rfl (by decide) rfl ?_
    refine zj_aload_n o (zdd k_M_leads 54 rfl) rfl 1 rfl ?_
    refine zj_iload_n o (zdd k_M_leads 55 rfl) rfl 2 rfl ?_
    refine zj_iload_n o (zdd k_M_leads 56 rfl) rfl 0 rfl ?_
    obtain ⟨σ5, e_σ5, h⟩ := zbd h
    refine zc_V o (zdd k_M_leads 57 rfl) ml_M_505 mv_M_reads ⟨rfl, by decide⟩ (zg_some e_σ5).1 (by decide) [.int v1, .int x4] [] rfl (Nat.le_of_ble_eq_true rfl) rfl (m_M_reads e_σ5) ?_
    change zPJ X 0 0 _ _ [] _
    refine zj_iinc (v := v4 + 1) (loc' := [(4, .int (v4 + 1)), (3, .int x4), (0, .ref v0), (1, .int v1), (2, .int v2)]) o (zdd k_M_leads 58 rfl) 4 rfl (by rw [zki_1]) (by decide) rfl ?_
    refine zj_goto (tgt := 68) o (zdd k_M_leads 59 rfl) (by decide) ?_
    exact zj_sub [2, 3, 4, 1, 0] rfl (hk68 h hr)
def f_M_leads_68L : Nat → zSt → Nat → Int32 → Int32 → Int32 → Int32 → Option (Int32 × zSt)
  | 0 => fun _ _ _ _ _ _ => none
  | n + 1 => f_M_leads_68  (f_M_leads_68L  n)
theorem r_M_leads_68L {X : zCX} (o : zOK X "WantShelvesModel" c_M_leads n_M_leads 7) : ∀ (n : Nat) {σ : zSt} {v0 : Nat} {v1 : Int32} {v2 : Int32} {v3 : Int32} {v4 : Int32} {z : Int32 × zSt}, f_M_leads_68L n σ v0 v1 v2 v3 v4 = some z → zRX X 0 0 (some (.int z.1)) z.2 → zPJ X 0 0 68 [(0, .ref v0), (1, .int v1), (2, .int v2), (3, .int v3), (4, .int v4)] [] σ
  | 0 => fun h _ => by cases h
  | n + 1 => fun h hr => r_M_leads_68 o (r_M_leads_68L o  n) h hr
def f_M_leads_39 (k39 : zSt → Nat → Int32 → Int32 → Int32 → Option (Int32 × zSt)) (σ : zSt) (v0 : Nat) (v1 : Int32) (v2 : Int32) (v3 : Int32) : Option (Int32 × zSt) :=
if 92 ≤ v3 then (
f_M_leads_68L zfu σ v0 v1 v2 (-1) 0) else
(zgP σ 12 v0 63).bind fun a1 =>
(zgP σ 12 v0 49).bind fun a2 =>
(zaI σ 1 a2 v3).bind fun x3 =>
(zwI σ 1 a1 v3 x3).bind fun σ4 =>
k39 σ4 v0 v1 v2 (v3 + 1)
set_option maxRecDepth 100000 in
set_option maxHeartbeats 4000000 in
theorem r_M_leads_39 {X : zCX} (o : zOK X "WantShelvesModel" c_M_leads n_M_leads 7) {k39 : zSt → Nat → Int32 → Int32 → Int32 → Option (Int32 × zSt)} (hk39 : ∀ {σ : zSt} {v0 : Nat} {v1 : Int32} {v2 : Int32} {v3 : Int32} {z : Int32 × zSt}, k39 σ v0 v1 v2 v3 = some z → zRX X 0 0 (some (.int z.1)) z.2 → zPJ X 0 0 39 [(0, .ref v0), (1, .int v1), (2, .int v2), (3, .int v3)] [] σ) {σ : zSt} {v0 : Nat} {v1 : Int32} {v2 : Int32} {v3 : Int32} {z : Int32 × zSt} (h : f_M_leads_39 k39 σ v0 v1 v2 v3 = some z) (hr : zRX X 0 0 (some (.int z.1)) z.2) : zPJ X 0 0 39 [(0, .ref v0), (1, .int v1), (2, .int v2), (3, .int v3)] [] σ := by
  unfold f_M_leads_39 at h
  refine zj_iload_n o (zdd k_M_leads 21 rfl) rfl 3 rfl ?_
  refine zj_bipush o (zdd k_M_leads 22 rfl) zkb_92 ?_
  refine zj_icmp_ge (tgt := 63) o (zdd k_M_leads 23 rfl) (by decide) (fun hc => ?_) (fun hc => ?_)
  · rw [if_pos hc] at h
    refine zj_iconst o (zdd k_M_leads 34 rfl) zki_m1 ?_
    refine zj_istore_n (loc' := [(3, .int (-1)), (0, .ref v0), (1, .int v1), (2, .int v2)]) o (zdd k_M_leads 35 rfl) rfl (by decide) rfl ?_
    refine zj_iconst o (zdd k_M_leads 36 rfl) zki_0 ?_
    refine zj_istore (loc' := [(4, .int 0), (3, .int (-1)), (0, .ref v0), (1, .int v1), (2, .int v2)]) o (zdd k_M_leads 37 rfl) (by decide) rfl ?_
    exact zj_sub [2, 3, 4, 1, 0] rfl (r_M_leads_68L o  zfu h hr)
  · rw [if_neg hc] at h
    refine zj_aload_n o (zdd k_M_leads 24 rfl) rfl 0 rfl ?_
    obtain ⟨a1, e_a1, h⟩ := zbd h
    refine zj_gP o (zdd k_M_leads 25 rfl) fl_M_108 rfl e_a1 ?_
    refine zj_iload_n o (zdd k_M_leads 26 rfl) rfl 3 rfl ?_
    refine zj_aload_n o (zdd k_M_leads 27 rfl) rfl 0 rfl ?_
    obtain ⟨a2, e_a2, h⟩ := zbd h
    refine zj_gP o (zdd k_M_leads 28 rfl) fl_M_78 rfl e_a2 ?_
    refine zj_iload_n o (zdd k_M_leads 29 rfl) rfl 3 rfl ?_
    obtain ⟨x3, e_x3, h⟩ := zbd h
    refine zj_iald o (zdd k_M_leads 30 rfl) e_x3 ?_
    obtain ⟨σ4, e_σ4, h⟩ := zbd h
    refine zj_iast o (zdd k_M_leads 31 rfl) e_σ4 ?_
    refine zj_iinc (v := v3 + 1) (loc' := [(3, .int (v3 + 1)), (0, .ref v0), (1, .int v1), (2, .int v2)]) o (zdd k_M_leads 32 rfl) 3 rfl (by rw [zki_1]) (by decide) rfl ?_
    refine zj_goto (tgt := 39) o (zdd k_M_leads 33 rfl) (by decide) ?_
    exact zj_sub [1, 2, 3, 0] rfl (hk39 h hr)
def f_M_leads_39L : Nat → zSt → Nat → Int32 → Int32 → Int32 → Option (Int32 × zSt)
  | 0 => fun _ _ _ _ _ => none
  | n + 1 => f_M_leads_39  (f_M_leads_39L  n)
theorem r_M_leads_39L {X : zCX} (o : zOK X "WantShelvesModel" c_M_leads n_M_leads 7) : ∀ (n : Nat) {σ : zSt} {v0 : Nat} {v1 : Int32} {v2 : Int32} {v3 : Int32} {z : Int32 × zSt}, f_M_leads_39L n σ v0 v1 v2 v3 = some z → zRX X 0 0 (some (.int z.1)) z.2 → zPJ X 0 0 39 [(0, .ref v0), (1, .int v1), (2, .int v2), (3, .int v3)] [] σ
  | 0 => fun h _ => by cases h
  | n + 1 => fun h hr => r_M_leads_39 o (r_M_leads_39L o  n) h hr
def f_M_leads (σ : zSt) (t : Nat) (p0 : Int32) (p1 : Int32) : Option (Int32 × zSt) :=
zg σ 12 t (
(f_M_isReader σ t p0).bind fun x1 =>
if x1 = 0 then (
some ((-1), σ)) else
(f_M_isIn p1 1 60).bind fun x2 =>
if x2 = 0 then (
some ((-1), σ)) else
(zgP σ 12 t 49).bind fun a3 =>
(zaI σ 1 a3 31).bind fun x4 =>
(f_M_members x4).bind fun x5 =>
(zgI σ 12 t 42).bind fun x6 =>
if x5 = x6 then (
some ((-1), σ)) else
f_M_leads_39L zfu σ t p0 p1 0)
set_option maxRecDepth 100000 in
set_option maxHeartbeats 4000000 in
theorem m_M_leads {l : Launch} {b : Nat} {ex : Nat → Value} {D : va_G} {ca : Nat → ClassId} {σ : zSt} {t : Nat} {p0 : Int32} {p1 : Int32} {z : Int32 × zSt} (h : f_M_leads σ t p0 p1 = some z) : zMT l b ex D ca 7 y_M_leads c_M_leads n_M_leads r_ret_M_leads [.ref t, .int p0, .int p1] σ (some (.int z.1)) z.2 0 0 := by
  obtain ⟨_, hg0⟩ := zg_some h
  have h := hg0
  refine zmt_of (by decide) (Nat.le_of_ble_eq_true rfl) ⟨.int, rfl, rfl⟩ (fun X o hin hrm _ _ _ _ _ hr => ?_)
  have hr := hr 0 0 (by decide) (by decide)
  have o : zOK X "WantShelvesModel" c_M_leads n_M_leads 7 := o
  change zPJ X 0 0 0 [(0, .ref t), (1, .int p0), (2, .int p1)] [] σ
  refine zj_aload_n o (zdd k_M_leads 0 rfl) rfl 0 rfl ?_
  refine zj_iload_n o (zdd k_M_leads 1 rfl) rfl 1 rfl ?_
  obtain ⟨x1, e_x1, h⟩ := zbd h
  refine zc_V o (zdd k_M_leads 2 rfl) ml_M_441 mv_M_isReader ⟨rfl, by decide⟩ (zg_some e_x1).1 (by decide) [.int p0] [] rfl (Nat.le_of_ble_eq_true rfl) rfl (m_M_isReader e_x1) ?_
  change zPJ X 0 0 _ _ [.int x1] _
  refine zj_if_eq (tgt := 35) o (zdd k_M_leads 3 rfl) (by decide) (fun hc => ?_) (fun hc => ?_)
  · rw [if_pos hc] at h
    refine zj_iconst o (zdd k_M_leads 17 rfl) zki_m1 ?_
    cases h
    exact zr_i o hr (zdd k_M_leads 18 rfl)
  · rw [if_neg hc] at h
    refine zj_iload_n o (zdd k_M_leads 4 rfl) rfl 2 rfl ?_
    refine zj_iconst o (zdd k_M_leads 5 rfl) zki_1 ?_
    refine zj_bipush o (zdd k_M_leads 6 rfl) zkb_60 ?_
    obtain ⟨x2, e_x2, h⟩ := zbd h
    refine zc_S o (zdd k_M_leads 7 rfl) ml_M_425 ms_M_isIn (by decide) [.int p1, .int 1, .int 60] [] rfl (Nat.le_of_ble_eq_true rfl) rfl (m_M_isIn e_x2) ?_
    change zPJ X 0 0 _ _ [.int x2] _
    refine zj_if_eq (tgt := 35) o (zdd k_M_leads 8 rfl) (by decide) (fun hc => ?_) (fun hc => ?_)
    · rw [if_pos hc] at h
      refine zj_iconst o (zdd k_M_leads 17 rfl) zki_m1 ?_
      cases h
      exact zr_i o hr (zdd k_M_leads 18 rfl)
    · rw [if_neg hc] at h
      refine zj_aload_n o (zdd k_M_leads 9 rfl) rfl 0 rfl ?_
      obtain ⟨a3, e_a3, h⟩ := zbd h
      refine zj_gP o (zdd k_M_leads 10 rfl) fl_M_78 rfl e_a3 ?_
      refine zj_bipush o (zdd k_M_leads 11 rfl) zkb_31 ?_
      obtain ⟨x4, e_x4, h⟩ := zbd h
      refine zj_iald o (zdd k_M_leads 12 rfl) e_x4 ?_
      obtain ⟨x5, e_x5, h⟩ := zbd h
      refine zc_S o (zdd k_M_leads 13 rfl) ml_M_515 ms_M_members (by decide) [.int x4] [] rfl (Nat.le_of_ble_eq_true rfl) rfl (m_M_members e_x5) ?_
      change zPJ X 0 0 _ _ [.int x5] _
      refine zj_aload_n o (zdd k_M_leads 14 rfl) rfl 0 rfl ?_
      obtain ⟨x6, e_x6, h⟩ := zbd h
      refine zj_gI o (zdd k_M_leads 15 rfl) fl_M_391 rfl e_x6 ?_
      refine zj_icmp_ne (tgt := 37) o (zdd k_M_leads 16 rfl) (by decide) (fun hc => ?_) (fun hc => ?_)
      · rw [if_neg hc] at h
        refine zj_iconst o (zdd k_M_leads 19 rfl) zki_0 ?_
        refine zj_istore_n (loc' := [(3, .int 0), (0, .ref t), (1, .int p0), (2, .int p1)]) o (zdd k_M_leads 20 rfl) rfl (by decide) rfl ?_
        exact zj_sub [1, 2, 3, 0] rfl (r_M_leads_39L o  zfu h hr)
      · rw [if_pos hc] at h
        refine zj_iconst o (zdd k_M_leads 17 rfl) zki_m1 ?_
        cases h
        exact zr_i o hr (zdd k_M_leads 18 rfl)
