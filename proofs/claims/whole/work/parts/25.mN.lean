def f_N_turnIn (σ : zSt) (t : Nat) (p0 : Int32) : Option (zSt) :=
zg σ 4 t (
(zgI σ 4 t 3).bind fun x1 =>
(zsI σ 4 t 3 (x1 ^^^ (1 <<< (p0 &&& 31)))).bind fun σ2 =>
some σ2)
set_option maxRecDepth 100000 in
set_option maxHeartbeats 4000000 in
theorem m_N_turnIn {l : Launch} {b : Nat} {ex : Nat → Value} {D : va_G} {ca : Nat → ClassId} {σ : zSt} {t : Nat} {p0 : Int32} {z : zSt} (h : f_N_turnIn σ t p0 = some z) : zMT l b ex D ca 1 y_N_turnIn c_N_turnIn n_N_turnIn r_ret_N_turnIn [.ref t, .int p0] σ none z 0 0 := by
  obtain ⟨_, hg0⟩ := zg_some h
  have h := hg0
  refine zmt_of (by decide) (Nat.le_of_ble_eq_true rfl) rfl (fun X o hin hrm _ _ _ _ _ hr => ?_)
  have hr := hr 0 0 (by decide) (by decide)
  have o : zOK X "WantShelves$Now" c_N_turnIn n_N_turnIn 1 := o
  change zPJ X 0 0 0 [(0, .ref t), (1, .int p0)] [] σ
  refine zj_aload_n o (zdd k_N_turnIn 0 rfl) rfl 0 rfl ?_
  refine zj_dup o (zdd k_N_turnIn 1 rfl) rfl ?_
  obtain ⟨x1, e_x1, h⟩ := zbd h
  refine zj_gI o (zdd k_N_turnIn 2 rfl) fl_N_43 rfl e_x1 ?_
  refine zj_iconst o (zdd k_N_turnIn 3 rfl) zki_1 ?_
  refine zj_iload_n o (zdd k_N_turnIn 4 rfl) rfl 1 rfl ?_
  refine zj_ishl o (zdd k_N_turnIn 5 rfl) ?_
  refine zj_ixor o (zdd k_N_turnIn 6 rfl) ?_
  obtain ⟨σ2, e_σ2, h⟩ := zbd h
  refine zj_pI o (zdd k_N_turnIn 7 rfl) fl_N_43 rfl rfl e_σ2 ?_
  cases h
  exact zr_v o hr (zdd k_N_turnIn 8 rfl)
def f_N_turnOut (σ : zSt) (t : Nat) (p0 : Int32) : Option (zSt) :=
zg σ 4 t (
(zgI σ 4 t 4).bind fun x1 =>
(zsI σ 4 t 4 (x1 ^^^ (1 <<< (p0 &&& 31)))).bind fun σ2 =>
some σ2)
set_option maxRecDepth 100000 in
set_option maxHeartbeats 4000000 in
theorem m_N_turnOut {l : Launch} {b : Nat} {ex : Nat → Value} {D : va_G} {ca : Nat → ClassId} {σ : zSt} {t : Nat} {p0 : Int32} {z : zSt} (h : f_N_turnOut σ t p0 = some z) : zMT l b ex D ca 1 y_N_turnOut c_N_turnOut n_N_turnOut r_ret_N_turnOut [.ref t, .int p0] σ none z 0 0 := by
  obtain ⟨_, hg0⟩ := zg_some h
  have h := hg0
  refine zmt_of (by decide) (Nat.le_of_ble_eq_true rfl) rfl (fun X o hin hrm _ _ _ _ _ hr => ?_)
  have hr := hr 0 0 (by decide) (by decide)
  have o : zOK X "WantShelves$Now" c_N_turnOut n_N_turnOut 1 := o
  change zPJ X 0 0 0 [(0, .ref t), (1, .int p0)] [] σ
  refine zj_aload_n o (zdd k_N_turnOut 0 rfl) rfl 0 rfl ?_
  refine zj_dup o (zdd k_N_turnOut 1 rfl) rfl ?_
  obtain ⟨x1, e_x1, h⟩ := zbd h
  refine zj_gI o (zdd k_N_turnOut 2 rfl) fl_N_47 rfl e_x1 ?_
  refine zj_iconst o (zdd k_N_turnOut 3 rfl) zki_1 ?_
  refine zj_iload_n o (zdd k_N_turnOut 4 rfl) rfl 1 rfl ?_
  refine zj_ishl o (zdd k_N_turnOut 5 rfl) ?_
  refine zj_ixor o (zdd k_N_turnOut 6 rfl) ?_
  obtain ⟨σ2, e_σ2, h⟩ := zbd h
  refine zj_pI o (zdd k_N_turnOut 7 rfl) fl_N_47 rfl rfl e_σ2 ?_
  cases h
  exact zr_v o hr (zdd k_N_turnOut 8 rfl)
def f_N_bendBy_47 (k47 : zSt → Nat → Nat → Int32 → Int32 → Int32 → Option (zSt)) (σ : zSt) (v0 : Nat) (v1 : Nat) (v2 : Int32) (v3 : Int32) (v5 : Int32) : Option (zSt) :=
(zgI σ 10 v1 0).bind fun x1 =>
if x1 ≤ v5 then (
some σ) else
(zgP σ 4 v0 6).bind fun a2 =>
(zgP σ 4 v0 0).bind fun a3 =>
(zaI σ 1 a3 ((v2 * 4) + v5)).bind fun x4 =>
(zwI σ 1 a2 2 x4).bind fun σ5 =>
(zgP σ5 4 v0 6).bind fun a6 =>
(zgP σ5 10 v1 7).bind fun a7 =>
(zaI σ5 1 a7 ((v3 * 4) + v5)).bind fun x8 =>
(zwI σ5 1 a6 3 x8).bind fun σ9 =>
(zgP σ9 4 v0 0).bind fun a10 =>
(zgP σ9 10 v1 12).bind fun a11 =>
(zgP σ9 4 v0 6).bind fun a12 =>
(f_F_value σ9 a11 a12).bind fun q13 =>
(zwI q13.2 1 a10 ((v2 * 4) + v5) (zmax (-9) (zmin 9 q13.1))).bind fun σ14 =>
k47 σ14 v0 v1 v2 v3 (v5 + 1)
set_option maxRecDepth 100000 in
set_option maxHeartbeats 4000000 in
theorem r_N_bendBy_47 {X : zCX} (o : zOK X "WantShelves$Now" c_N_bendBy n_N_bendBy 4) {k47 : zSt → Nat → Nat → Int32 → Int32 → Int32 → Option (zSt)} (hk47 : ∀ {σ : zSt} {v0 : Nat} {v1 : Nat} {v2 : Int32} {v3 : Int32} {v5 : Int32} {z : zSt}, k47 σ v0 v1 v2 v3 v5 = some z → zRX X 0 0 none z → zPJ X 0 0 47 [(0, .ref v0), (1, .ref v1), (2, .int v2), (3, .int v3), (5, .int v5)] [] σ) {σ : zSt} {v0 : Nat} {v1 : Nat} {v2 : Int32} {v3 : Int32} {v5 : Int32} {z : zSt} (h : f_N_bendBy_47 k47 σ v0 v1 v2 v3 v5 = some z) (hr : zRX X 0 0 none z) : zPJ X 0 0 47 [(0, .ref v0), (1, .ref v1), (2, .int v2), (3, .int v3), (5, .int v5)] [] σ := by
  unfold f_N_bendBy_47 at h
  refine zj_iload o (zdd k_N_bendBy 31 rfl) 4 rfl ?_
  refine zj_aload_n o (zdd k_N_bendBy 32 rfl) rfl 1 rfl ?_
  obtain ⟨x1, e_x1, h⟩ := zbd h
  refine zj_gI o (zdd k_N_bendBy 33 rfl) fl_N_50 rfl e_x1 ?_
  refine zj_icmp_ge (tgt := 128) o (zdd k_N_bendBy 34 rfl) (by decide) (fun hc => ?_) (fun hc => ?_)
  · rw [if_pos hc] at h
    cases h
    exact zr_v o hr (zdd k_N_bendBy 76 rfl)
  · rw [if_neg hc] at h
    refine zj_iload_n o (zdd k_N_bendBy 35 rfl) rfl 2 rfl ?_
    refine zj_iconst o (zdd k_N_bendBy 36 rfl) zki_4 ?_
    refine zj_imul o (zdd k_N_bendBy 37 rfl) ?_
    refine zj_iload o (zdd k_N_bendBy 38 rfl) 4 rfl ?_
    refine zj_iadd o (zdd k_N_bendBy 39 rfl) ?_
    refine zj_istore (loc' := [(6, .int ((v2 * 4) + v5)), (0, .ref v0), (1, .ref v1), (2, .int v2), (3, .int v3), (5, .int v5)]) o (zdd k_N_bendBy 40 rfl) (by decide) rfl ?_
    refine zj_aload_n o (zdd k_N_bendBy 41 rfl) rfl 1 rfl ?_
    obtain ⟨a2, e_a2, h⟩ := zbd h
    refine zj_gP o (zdd k_N_bendBy 42 rfl) fl_N_23 rfl e_a2 ?_
    refine zj_iconst o (zdd k_N_bendBy 43 rfl) zki_2 ?_
    refine zj_aload_n o (zdd k_N_bendBy 44 rfl) rfl 1 rfl ?_
    obtain ⟨a3, e_a3, h⟩ := zbd h
    refine zj_gP o (zdd k_N_bendBy 45 rfl) fl_N_9 rfl e_a3 ?_
    refine zj_iload o (zdd k_N_bendBy 46 rfl) 0 rfl ?_
    obtain ⟨x4, e_x4, h⟩ := zbd h
    refine zj_iald o (zdd k_N_bendBy 47 rfl) e_x4 ?_
    obtain ⟨σ5, e_σ5, h⟩ := zbd h
    refine zj_iast o (zdd k_N_bendBy 48 rfl) e_σ5 ?_
    refine zj_aload_n o (zdd k_N_bendBy 49 rfl) rfl 1 rfl ?_
    obtain ⟨a6, e_a6, h⟩ := zbd h
    refine zj_gP o (zdd k_N_bendBy 50 rfl) fl_N_23 rfl e_a6 ?_
    refine zj_iconst o (zdd k_N_bendBy 51 rfl) zki_3 ?_
    refine zj_aload_n o (zdd k_N_bendBy 52 rfl) rfl 2 rfl ?_
    obtain ⟨a7, e_a7, h⟩ := zbd h
    refine zj_gP o (zdd k_N_bendBy 53 rfl) fl_N_53 rfl e_a7 ?_
    refine zj_iload_n o (zdd k_N_bendBy 54 rfl) rfl 4 rfl ?_
    refine zj_iconst o (zdd k_N_bendBy 55 rfl) zki_4 ?_
    refine zj_imul o (zdd k_N_bendBy 56 rfl) ?_
    refine zj_iload o (zdd k_N_bendBy 57 rfl) 5 rfl ?_
    refine zj_iadd o (zdd k_N_bendBy 58 rfl) ?_
    obtain ⟨x8, e_x8, h⟩ := zbd h
    refine zj_iald o (zdd k_N_bendBy 59 rfl) e_x8 ?_
    obtain ⟨σ9, e_σ9, h⟩ := zbd h
    refine zj_iast o (zdd k_N_bendBy 60 rfl) e_σ9 ?_
    refine zj_aload_n o (zdd k_N_bendBy 61 rfl) rfl 1 rfl ?_
    obtain ⟨a10, e_a10, h⟩ := zbd h
    refine zj_gP o (zdd k_N_bendBy 62 rfl) fl_N_9 rfl e_a10 ?_
    refine zj_iload o (zdd k_N_bendBy 63 rfl) 0 rfl ?_
    refine zj_bipush o (zdd k_N_bendBy 64 rfl) zkb_m9 ?_
    refine zj_bipush o (zdd k_N_bendBy 65 rfl) zkb_9 ?_
    refine zj_aload_n o (zdd k_N_bendBy 66 rfl) rfl 2 rfl ?_
    obtain ⟨a11, e_a11, h⟩ := zbd h
    refine zj_gP o (zdd k_N_bendBy 67 rfl) fl_N_56 rfl e_a11 ?_
    refine zj_aload_n o (zdd k_N_bendBy 68 rfl) rfl 1 rfl ?_
    obtain ⟨a12, e_a12, h⟩ := zbd h
    refine zj_gP o (zdd k_N_bendBy 69 rfl) fl_N_23 rfl e_a12 ?_
    obtain ⟨q13, e_q13, h⟩ := zbd h
    refine zc_V o (zdd k_N_bendBy 70 rfl) ml_N_60 mv_F_value ⟨rfl, by decide⟩ (zg_some e_q13).1 (by decide) [.ref a12] [.int 9, .int (-9), .int ((v2 * 4) + v5), .ref a10] rfl (Nat.le_of_ble_eq_true rfl) rfl (m_F_value e_q13) ?_
    change zPJ X 0 0 _ _ [.int q13.1, .int 9, .int (-9), .int ((v2 * 4) + v5), .ref a10] _
    refine zj_mmin o (zdd k_N_bendBy 71 rfl) ml_N_64 (by decide) (Nat.le_of_ble_eq_true rfl) ?_
    refine zj_mmax o (zdd k_N_bendBy 72 rfl) ml_N_70 (by decide) (Nat.le_of_ble_eq_true rfl) ?_
    obtain ⟨σ14, e_σ14, h⟩ := zbd h
    refine zj_iast o (zdd k_N_bendBy 73 rfl) e_σ14 ?_
    refine zj_iinc (v := v5 + 1) (loc' := [(5, .int (v5 + 1)), (6, .int ((v2 * 4) + v5)), (0, .ref v0), (1, .ref v1), (2, .int v2), (3, .int v3)]) o (zdd k_N_bendBy 74 rfl) 5 rfl (by rw [zki_1]) (by decide) rfl ?_
    refine zj_goto (tgt := 47) o (zdd k_N_bendBy 75 rfl) (by decide) ?_
    exact zj_sub [2, 3, 4, 5, 0] rfl (hk47 h hr)
def f_N_bendBy_47L : Nat → zSt → Nat → Nat → Int32 → Int32 → Int32 → Option (zSt)
  | 0 => fun _ _ _ _ _ _ => none
  | n + 1 => f_N_bendBy_47  (f_N_bendBy_47L  n)
theorem r_N_bendBy_47L {X : zCX} (o : zOK X "WantShelves$Now" c_N_bendBy n_N_bendBy 4) : ∀ (n : Nat) {σ : zSt} {v0 : Nat} {v1 : Nat} {v2 : Int32} {v3 : Int32} {v5 : Int32} {z : zSt}, f_N_bendBy_47L n σ v0 v1 v2 v3 v5 = some z → zRX X 0 0 none z → zPJ X 0 0 47 [(0, .ref v0), (1, .ref v1), (2, .int v2), (3, .int v3), (5, .int v5)] [] σ
  | 0 => fun h _ => by cases h
  | n + 1 => fun h hr => r_N_bendBy_47 o (r_N_bendBy_47L o  n) h hr
def f_N_bendBy (σ : zSt) (t : Nat) (p0 : Nat) (p1 : Int32) (p2 : Int32) : Option (zSt) :=
zg σ 4 t (
(zgP σ 4 t 2).bind fun a1 =>
(zaI σ 1 a1 ((p1 * 10) + p2)).bind fun x2 =>
(zgP σ 4 t 2).bind fun a3 =>
(zwI σ 1 a3 ((p1 * 10) + p2) (x2 + 1)).bind fun σ4 =>
(zgP σ4 4 t 6).bind fun a5 =>
(f_J_fill σ4 a5 0).bind fun σ6 =>
(zgP σ6 4 t 6).bind fun a7 =>
(zwI σ6 1 a7 4 (x2 + 1)).bind fun σ8 =>
f_N_bendBy_47L zfu σ8 t p0 p1 p2 0)
set_option maxRecDepth 100000 in
set_option maxHeartbeats 4000000 in
theorem m_N_bendBy {l : Launch} {b : Nat} {ex : Nat → Value} {D : va_G} {ca : Nat → ClassId} {σ : zSt} {t : Nat} {p0 : Nat} {p1 : Int32} {p2 : Int32} {z : zSt} (h : f_N_bendBy σ t p0 p1 p2 = some z) : zMT l b ex D ca 4 y_N_bendBy c_N_bendBy n_N_bendBy r_ret_N_bendBy [.ref t, .ref p0, .int p1, .int p2] σ none z 0 0 := by
  obtain ⟨_, hg0⟩ := zg_some h
  have h := hg0
  refine zmt_of (by decide) (Nat.le_of_ble_eq_true rfl) rfl (fun X o hin hrm _ _ _ _ _ hr => ?_)
  have hr := hr 0 0 (by decide) (by decide)
  have o : zOK X "WantShelves$Now" c_N_bendBy n_N_bendBy 4 := o
  change zPJ X 0 0 0 [(0, .ref t), (1, .ref p0), (2, .int p1), (3, .int p2)] [] σ
  refine zj_aload_n o (zdd k_N_bendBy 0 rfl) rfl 0 rfl ?_
  obtain ⟨a1, e_a1, h⟩ := zbd h
  refine zj_gP o (zdd k_N_bendBy 1 rfl) fl_N_18 rfl e_a1 ?_
  refine zj_iload_n o (zdd k_N_bendBy 2 rfl) rfl 2 rfl ?_
  refine zj_bipush o (zdd k_N_bendBy 3 rfl) zkb_10 ?_
  refine zj_imul o (zdd k_N_bendBy 4 rfl) ?_
  refine zj_iload_n o (zdd k_N_bendBy 5 rfl) rfl 3 rfl ?_
  refine zj_iadd o (zdd k_N_bendBy 6 rfl) ?_
  obtain ⟨x2, e_x2, h⟩ := zbd h
  refine zj_iald o (zdd k_N_bendBy 7 rfl) e_x2 ?_
  refine zj_iconst o (zdd k_N_bendBy 8 rfl) zki_1 ?_
  refine zj_iadd o (zdd k_N_bendBy 9 rfl) ?_
  refine zj_istore (loc' := [(4, .int (x2 + 1)), (0, .ref t), (1, .ref p0), (2, .int p1), (3, .int p2)]) o (zdd k_N_bendBy 10 rfl) (by decide) rfl ?_
  refine zj_aload_n o (zdd k_N_bendBy 11 rfl) rfl 1 rfl ?_
  obtain ⟨a3, e_a3, h⟩ := zbd h
  refine zj_gP o (zdd k_N_bendBy 12 rfl) fl_N_18 rfl e_a3 ?_
  refine zj_iload_n o (zdd k_N_bendBy 13 rfl) rfl 3 rfl ?_
  refine zj_bipush o (zdd k_N_bendBy 14 rfl) zkb_10 ?_
  refine zj_imul o (zdd k_N_bendBy 15 rfl) ?_
  refine zj_iload_n o (zdd k_N_bendBy 16 rfl) rfl 4 rfl ?_
  refine zj_iadd o (zdd k_N_bendBy 17 rfl) ?_
  refine zj_iload o (zdd k_N_bendBy 18 rfl) 0 rfl ?_
  obtain ⟨σ4, e_σ4, h⟩ := zbd h
  refine zj_iast o (zdd k_N_bendBy 19 rfl) e_σ4 ?_
  refine zj_aload_n o (zdd k_N_bendBy 20 rfl) rfl 1 rfl ?_
  obtain ⟨a5, e_a5, h⟩ := zbd h
  refine zj_gP o (zdd k_N_bendBy 21 rfl) fl_N_23 rfl e_a5 ?_
  refine zj_iconst o (zdd k_N_bendBy 22 rfl) zki_0 ?_
  obtain ⟨σ6, e_σ6, h⟩ := zbd h
  refine zc_S o (zdd k_N_bendBy 23 rfl) ml_N_37 ms_J_fill (by decide) [.ref a5, .int 0] [] rfl (Nat.le_of_ble_eq_true rfl) rfl (m_J_fill e_σ6) ?_
  change zPJ X 0 0 _ _ [] _
  refine zj_aload_n o (zdd k_N_bendBy 24 rfl) rfl 1 rfl ?_
  obtain ⟨a7, e_a7, h⟩ := zbd h
  refine zj_gP o (zdd k_N_bendBy 25 rfl) fl_N_23 rfl e_a7 ?_
  refine zj_iconst o (zdd k_N_bendBy 26 rfl) zki_4 ?_
  refine zj_iload o (zdd k_N_bendBy 27 rfl) 0 rfl ?_
  obtain ⟨σ8, e_σ8, h⟩ := zbd h
  refine zj_iast o (zdd k_N_bendBy 28 rfl) e_σ8 ?_
  refine zj_iconst o (zdd k_N_bendBy 29 rfl) zki_0 ?_
  refine zj_istore (loc' := [(5, .int 0), (4, .int (x2 + 1)), (0, .ref t), (1, .ref p0), (2, .int p1), (3, .int p2)]) o (zdd k_N_bendBy 30 rfl) (by decide) rfl ?_
  exact zj_sub [2, 3, 4, 5, 0] rfl (r_N_bendBy_47L o  zfu h hr)
def f_N_init (σ : zSt) (t : Nat) : Option (zSt) :=
zg σ 4 t (
(some (znew σ (1, 24))).bind fun (σ1 : zSt) =>
(some σ.1.length).bind fun (a2 : Nat) =>
(zsP σ1 4 t 0 a2).bind fun σ3 =>
(some (znew σ3 (1, 6))).bind fun (σ4 : zSt) =>
(some σ3.1.length).bind fun (a5 : Nat) =>
(zsP σ4 4 t 1 a5).bind fun σ6 =>
(some (znew σ6 (1, 60))).bind fun (σ7 : zSt) =>
(some σ6.1.length).bind fun (a8 : Nat) =>
(zsP σ7 4 t 2 a8).bind fun σ9 =>
(some (znew σ9 (1, 6))).bind fun (σ10 : zSt) =>
(some σ9.1.length).bind fun (a11 : Nat) =>
(zsP σ10 4 t 6 a11).bind fun σ12 =>
some σ12)
set_option maxRecDepth 100000 in
set_option maxHeartbeats 4000000 in
theorem m_N_init {l : Launch} {b : Nat} {ex : Nat → Value} {D : va_G} {ca : Nat → ClassId} {σ : zSt} {t : Nat} {z : zSt} (h : f_N_init σ t = some z) : zMT l b ex D ca 1 y_N_init c_N_init n_N_init r_ret_N_init [.ref t] σ none z 4 96 := by
  obtain ⟨_, hg0⟩ := zg_some h
  have h := hg0
  refine zmt_of (by decide) (Nat.le_of_ble_eq_true rfl) rfl (fun X o hin hrm _ _ _ _ _ hr => ?_)
  have hin := hin rfl
  have hr := hr 4 96 (by decide) (by decide)
  have o : zOK X "WantShelves$Now" c_N_init n_N_init 1 := o
  change zPJ X 0 0 0 [(0, .ref t)] [] σ
  refine zj_aload_n o (zdd k_N_init 0 rfl) rfl 0 rfl ?_
  refine zj_objInit o (zdd k_N_init 1 rfl) ml_N_3 ob_im ob_code (by decide) (Nat.le_of_ble_eq_true rfl) ?_
  refine zj_aload_n o (zdd k_N_init 2 rfl) rfl 0 rfl ?_
  refine zj_bipush o (zdd k_N_init 3 rfl) zkb_24 ?_
  obtain ⟨σ1, e_σ1, h⟩ := zbd h
  refine zj_newa_int (N := 24) (mc := 4) (ms := 96) o (zdd k_N_init 4 rfl) ac_int (by decide) (by decide) (by decide) hrm (by decide) (by decide) ?_
  rw [Option.some.inj e_σ1]
  change zPJ X 1 24 _ _ _ _
  obtain ⟨a2, e_a2, h⟩ := zbd h
  rw [Option.some.inj e_a2]
  obtain ⟨σ3, e_σ3, h⟩ := zbd h
  refine zj_fP o (zdd k_N_init 5 rfl) fl_N_9 (Or.inr ⟨_, rfl⟩) hin rfl rfl e_σ3 ?_
  refine zj_aload_n o (zdd k_N_init 6 rfl) rfl 0 rfl ?_
  refine zj_bipush o (zdd k_N_init 7 rfl) zkb_6 ?_
  obtain ⟨σ4, e_σ4, h⟩ := zbd h
  refine zj_newa_int (N := 6) (mc := 4) (ms := 96) o (zdd k_N_init 8 rfl) ac_int (by decide) (by decide) (by decide) hrm (by decide) (by decide) ?_
  rw [Option.some.inj e_σ4]
  change zPJ X 2 30 _ _ _ _
  obtain ⟨a5, e_a5, h⟩ := zbd h
  rw [Option.some.inj e_a5]
  obtain ⟨σ6, e_σ6, h⟩ := zbd h
  refine zj_fP o (zdd k_N_init 9 rfl) fl_N_15 (Or.inr ⟨_, rfl⟩) hin rfl rfl e_σ6 ?_
  refine zj_aload_n o (zdd k_N_init 10 rfl) rfl 0 rfl ?_
  refine zj_bipush o (zdd k_N_init 11 rfl) zkb_60 ?_
  obtain ⟨σ7, e_σ7, h⟩ := zbd h
  refine zj_newa_int (N := 60) (mc := 4) (ms := 96) o (zdd k_N_init 12 rfl) ac_int (by decide) (by decide) (by decide) hrm (by decide) (by decide) ?_
  rw [Option.some.inj e_σ7]
  change zPJ X 3 90 _ _ _ _
  obtain ⟨a8, e_a8, h⟩ := zbd h
  rw [Option.some.inj e_a8]
  obtain ⟨σ9, e_σ9, h⟩ := zbd h
  refine zj_fP o (zdd k_N_init 13 rfl) fl_N_18 (Or.inr ⟨_, rfl⟩) hin rfl rfl e_σ9 ?_
  refine zj_aload_n o (zdd k_N_init 14 rfl) rfl 0 rfl ?_
  refine zj_bipush o (zdd k_N_init 15 rfl) zkb_6 ?_
  obtain ⟨σ10, e_σ10, h⟩ := zbd h
  refine zj_newa_int (N := 6) (mc := 4) (ms := 96) o (zdd k_N_init 16 rfl) ac_int (by decide) (by decide) (by decide) hrm (by decide) (by decide) ?_
  rw [Option.some.inj e_σ10]
  change zPJ X 4 96 _ _ _ _
  obtain ⟨a11, e_a11, h⟩ := zbd h
  rw [Option.some.inj e_a11]
  obtain ⟨σ12, e_σ12, h⟩ := zbd h
  refine zj_fP o (zdd k_N_init 17 rfl) fl_N_23 (Or.inr ⟨_, rfl⟩) hin rfl rfl e_σ12 ?_
  cases h
  exact zr_v o hr (zdd k_N_init 18 rfl)
def f_N_begin (σ : zSt) (t : Nat) (p0 : Nat) : Option (zSt) :=
zg σ 4 t (
(zgP σ 10 p0 8).bind fun a1 =>
(zgP σ 4 t 0).bind fun a2 =>
(zgP σ 4 t 0).bind fun a3 =>
(zlen σ 1 a3).bind fun x4 =>
(zcpy σ a1 0 a2 0 x4).bind fun σ5 =>
(zgP σ5 4 t 1).bind fun a6 =>
(f_J_fill σ5 a6 (-1)).bind fun σ7 =>
(zgP σ7 4 t 2).bind fun a8 =>
(f_J_fill σ7 a8 0).bind fun σ9 =>
(zsI σ9 4 t 3 0).bind fun σ10 =>
(zsI σ10 4 t 4 0).bind fun σ11 =>
some σ11)
set_option maxRecDepth 100000 in
set_option maxHeartbeats 4000000 in
theorem m_N_begin {l : Launch} {b : Nat} {ex : Nat → Value} {D : va_G} {ca : Nat → ClassId} {σ : zSt} {t : Nat} {p0 : Nat} {z : zSt} (h : f_N_begin σ t p0 = some z) : zMT l b ex D ca 2 y_N_begin c_N_begin n_N_begin r_ret_N_begin [.ref t, .ref p0] σ none z 0 0 := by
  obtain ⟨_, hg0⟩ := zg_some h
  have h := hg0
  refine zmt_of (by decide) (Nat.le_of_ble_eq_true rfl) rfl (fun X o hin hrm _ _ _ _ _ hr => ?_)
  have hr := hr 0 0 (by decide) (by decide)
  have o : zOK X "WantShelves$Now" c_N_begin n_N_begin 2 := o
  change zPJ X 0 0 0 [(0, .ref t), (1, .ref p0)] [] σ
  refine zj_aload_n o (zdd k_N_begin 0 rfl) rfl 1 rfl ?_
  obtain ⟨a1, e_a1, h⟩ := zbd h
  refine zj_gP o (zdd k_N_begin 1 rfl) fl_N_26 rfl e_a1 ?_
  refine zj_iconst o (zdd k_N_begin 2 rfl) zki_0 ?_
  refine zj_aload_n o (zdd k_N_begin 3 rfl) rfl 0 rfl ?_
  obtain ⟨a2, e_a2, h⟩ := zbd h
  refine zj_gP o (zdd k_N_begin 4 rfl) fl_N_9 rfl e_a2 ?_
  refine zj_iconst o (zdd k_N_begin 5 rfl) zki_0 ?_
  refine zj_aload_n o (zdd k_N_begin 6 rfl) rfl 0 rfl ?_
  obtain ⟨a3, e_a3, h⟩ := zbd h
  refine zj_gP o (zdd k_N_begin 7 rfl) fl_N_9 rfl e_a3 ?_
  obtain ⟨x4, e_x4, h⟩ := zbd h
  refine zj_alen1 o (zdd k_N_begin 8 rfl) e_x4 ?_
  obtain ⟨σ5, e_σ5, h⟩ := zbd h
  refine zj_cpy o (zdd k_N_begin 9 rfl) ml_N_31 ac_nat ac_stat ac_ini (by decide) (Nat.le_of_ble_eq_true rfl) e_σ5 ?_
  refine zj_aload_n o (zdd k_N_begin 10 rfl) rfl 0 rfl ?_
  obtain ⟨a6, e_a6, h⟩ := zbd h
  refine zj_gP o (zdd k_N_begin 11 rfl) fl_N_15 rfl e_a6 ?_
  refine zj_iconst o (zdd k_N_begin 12 rfl) zki_m1 ?_
  obtain ⟨σ7, e_σ7, h⟩ := zbd h
  refine zc_S o (zdd k_N_begin 13 rfl) ml_N_37 ms_J_fill (by decide) [.ref a6, .int (-1)] [] rfl (Nat.le_of_ble_eq_true rfl) rfl (m_J_fill e_σ7) ?_
  change zPJ X 0 0 _ _ [] _
  refine zj_aload_n o (zdd k_N_begin 14 rfl) rfl 0 rfl ?_
  obtain ⟨a8, e_a8, h⟩ := zbd h
  refine zj_gP o (zdd k_N_begin 15 rfl) fl_N_18 rfl e_a8 ?_
  refine zj_iconst o (zdd k_N_begin 16 rfl) zki_0 ?_
  obtain ⟨σ9, e_σ9, h⟩ := zbd h
  refine zc_S o (zdd k_N_begin 17 rfl) ml_N_37 ms_J_fill (by decide) [.ref a8, .int 0] [] rfl (Nat.le_of_ble_eq_true rfl) rfl (m_J_fill e_σ9) ?_
  change zPJ X 0 0 _ _ [] _
  refine zj_aload_n o (zdd k_N_begin 18 rfl) rfl 0 rfl ?_
  refine zj_iconst o (zdd k_N_begin 19 rfl) zki_0 ?_
  obtain ⟨σ10, e_σ10, h⟩ := zbd h
  refine zj_pI o (zdd k_N_begin 20 rfl) fl_N_43 rfl rfl e_σ10 ?_
  refine zj_aload_n o (zdd k_N_begin 21 rfl) rfl 0 rfl ?_
  refine zj_iconst o (zdd k_N_begin 22 rfl) zki_0 ?_
  obtain ⟨σ11, e_σ11, h⟩ := zbd h
  refine zj_pI o (zdd k_N_begin 23 rfl) fl_N_47 rfl rfl e_σ11 ?_
  cases h
  exact zr_v o hr (zdd k_N_begin 24 rfl)
def f_N_copy (σ : zSt) (t : Nat) (p0 : Nat) : Option (zSt) :=
zg σ 4 t (
(zgP σ 4 p0 0).bind fun a1 =>
(zgP σ 4 t 0).bind fun a2 =>
(zgP σ 4 t 0).bind fun a3 =>
(zlen σ 1 a3).bind fun x4 =>
(zcpy σ a1 0 a2 0 x4).bind fun σ5 =>
(zgP σ5 4 p0 1).bind fun a6 =>
(zgP σ5 4 t 1).bind fun a7 =>
(zgP σ5 4 t 1).bind fun a8 =>
(zlen σ5 1 a8).bind fun x9 =>
(zcpy σ5 a6 0 a7 0 x9).bind fun σ10 =>
(zgP σ10 4 p0 2).bind fun a11 =>
(zgP σ10 4 t 2).bind fun a12 =>
(zgP σ10 4 t 2).bind fun a13 =>
(zlen σ10 1 a13).bind fun x14 =>
(zcpy σ10 a11 0 a12 0 x14).bind fun σ15 =>
(zgI σ15 4 p0 3).bind fun x16 =>
(zsI σ15 4 t 3 x16).bind fun σ17 =>
(zgI σ17 4 p0 4).bind fun x18 =>
(zsI σ17 4 t 4 x18).bind fun σ19 =>
some σ19)
set_option maxRecDepth 100000 in
set_option maxHeartbeats 4000000 in
theorem m_N_copy {l : Launch} {b : Nat} {ex : Nat → Value} {D : va_G} {ca : Nat → ClassId} {σ : zSt} {t : Nat} {p0 : Nat} {z : zSt} (h : f_N_copy σ t p0 = some z) : zMT l b ex D ca 1 y_N_copy c_N_copy n_N_copy r_ret_N_copy [.ref t, .ref p0] σ none z 0 0 := by
  obtain ⟨_, hg0⟩ := zg_some h
  have h := hg0
  refine zmt_of (by decide) (Nat.le_of_ble_eq_true rfl) rfl (fun X o hin hrm _ _ _ _ _ hr => ?_)
  have hr := hr 0 0 (by decide) (by decide)
  have o : zOK X "WantShelves$Now" c_N_copy n_N_copy 1 := o
  change zPJ X 0 0 0 [(0, .ref t), (1, .ref p0)] [] σ
  refine zj_aload_n o (zdd k_N_copy 0 rfl) rfl 1 rfl ?_
  obtain ⟨a1, e_a1, h⟩ := zbd h
  refine zj_gP o (zdd k_N_copy 1 rfl) fl_N_9 rfl e_a1 ?_
  refine zj_iconst o (zdd k_N_copy 2 rfl) zki_0 ?_
  refine zj_aload_n o (zdd k_N_copy 3 rfl) rfl 0 rfl ?_
  obtain ⟨a2, e_a2, h⟩ := zbd h
  refine zj_gP o (zdd k_N_copy 4 rfl) fl_N_9 rfl e_a2 ?_
  refine zj_iconst o (zdd k_N_copy 5 rfl) zki_0 ?_
  refine zj_aload_n o (zdd k_N_copy 6 rfl) rfl 0 rfl ?_
  obtain ⟨a3, e_a3, h⟩ := zbd h
  refine zj_gP o (zdd k_N_copy 7 rfl) fl_N_9 rfl e_a3 ?_
  obtain ⟨x4, e_x4, h⟩ := zbd h
  refine zj_alen1 o (zdd k_N_copy 8 rfl) e_x4 ?_
  obtain ⟨σ5, e_σ5, h⟩ := zbd h
  refine zj_cpy o (zdd k_N_copy 9 rfl) ml_N_31 ac_nat ac_stat ac_ini (by decide) (Nat.le_of_ble_eq_true rfl) e_σ5 ?_
  refine zj_aload_n o (zdd k_N_copy 10 rfl) rfl 1 rfl ?_
  obtain ⟨a6, e_a6, h⟩ := zbd h
  refine zj_gP o (zdd k_N_copy 11 rfl) fl_N_15 rfl e_a6 ?_
  refine zj_iconst o (zdd k_N_copy 12 rfl) zki_0 ?_
  refine zj_aload_n o (zdd k_N_copy 13 rfl) rfl 0 rfl ?_
  obtain ⟨a7, e_a7, h⟩ := zbd h
  refine zj_gP o (zdd k_N_copy 14 rfl) fl_N_15 rfl e_a7 ?_
  refine zj_iconst o (zdd k_N_copy 15 rfl) zki_0 ?_
  refine zj_aload_n o (zdd k_N_copy 16 rfl) rfl 0 rfl ?_
  obtain ⟨a8, e_a8, h⟩ := zbd h
  refine zj_gP o (zdd k_N_copy 17 rfl) fl_N_15 rfl e_a8 ?_
  obtain ⟨x9, e_x9, h⟩ := zbd h
  refine zj_alen1 o (zdd k_N_copy 18 rfl) e_x9 ?_
  obtain ⟨σ10, e_σ10, h⟩ := zbd h
  refine zj_cpy o (zdd k_N_copy 19 rfl) ml_N_31 ac_nat ac_stat ac_ini (by decide) (Nat.le_of_ble_eq_true rfl) e_σ10 ?_
  refine zj_aload_n o (zdd k_N_copy 20 rfl) rfl 1 rfl ?_
  obtain ⟨a11, e_a11, h⟩ := zbd h
  refine zj_gP o (zdd k_N_copy 21 rfl) fl_N_18 rfl e_a11 ?_
  refine zj_iconst o (zdd k_N_copy 22 rfl) zki_0 ?_
  refine zj_aload_n o (zdd k_N_copy 23 rfl) rfl 0 rfl ?_
  obtain ⟨a12, e_a12, h⟩ := zbd h
  refine zj_gP o (zdd k_N_copy 24 rfl) fl_N_18 rfl e_a12 ?_
  refine zj_iconst o (zdd k_N_copy 25 rfl) zki_0 ?_
  refine zj_aload_n o (zdd k_N_copy 26 rfl) rfl 0 rfl ?_
  obtain ⟨a13, e_a13, h⟩ := zbd h
  refine zj_gP o (zdd k_N_copy 27 rfl) fl_N_18 rfl e_a13 ?_
  obtain ⟨x14, e_x14, h⟩ := zbd h
  refine zj_alen1 o (zdd k_N_copy 28 rfl) e_x14 ?_
  obtain ⟨σ15, e_σ15, h⟩ := zbd h
  refine zj_cpy o (zdd k_N_copy 29 rfl) ml_N_31 ac_nat ac_stat ac_ini (by decide) (Nat.le_of_ble_eq_true rfl) e_σ15 ?_
  refine zj_aload_n o (zdd k_N_copy 30 rfl) rfl 0 rfl ?_
  refine zj_aload_n o (zdd k_N_copy 31 rfl) rfl 1 rfl ?_
  obtain ⟨x16, e_x16, h⟩ := zbd h
  refine zj_gI o (zdd k_N_copy 32 rfl) fl_N_43 rfl e_x16 ?_
  obtain ⟨σ17, e_σ17, h⟩ := zbd h
  refine zj_pI o (zdd k_N_copy 33 rfl) fl_N_43 rfl rfl e_σ17 ?_
  refine zj_aload_n o (zdd k_N_copy 34 rfl) rfl 0 rfl ?_
  refine zj_aload_n o (zdd k_N_copy 35 rfl) rfl 1 rfl ?_
  obtain ⟨x18, e_x18, h⟩ := zbd h
  refine zj_gI o (zdd k_N_copy 36 rfl) fl_N_47 rfl e_x18 ?_
  obtain ⟨σ19, e_σ19, h⟩ := zbd h
  refine zj_pI o (zdd k_N_copy 37 rfl) fl_N_47 rfl rfl e_σ19 ?_
  cases h
  exact zr_v o hr (zdd k_N_copy 38 rfl)
def f_N_readingsOf_4 (k4 : zSt → Nat → Int32 → Int32 → Int32 → Option (Int32)) (σ : zSt) (v0 : Nat) (v1 : Int32) (v2 : Int32) (v3 : Int32) : Option (Int32) :=
if 10 ≤ v3 then (
some v2) else
(zgP σ 4 v0 2).bind fun a1 =>
(zaI σ 1 a1 ((v1 * 10) + v3)).bind fun x2 =>
k4 σ v0 v1 (v2 + x2) (v3 + 1)
set_option maxRecDepth 100000 in
set_option maxHeartbeats 4000000 in
theorem r_N_readingsOf_4 {X : zCX} (o : zOK X "WantShelves$Now" c_N_readingsOf n_N_readingsOf 1) {k4 : zSt → Nat → Int32 → Int32 → Int32 → Option (Int32)} (hk4 : ∀ {σ : zSt} {v0 : Nat} {v1 : Int32} {v2 : Int32} {v3 : Int32} {z : Int32}, k4 σ v0 v1 v2 v3 = some z → zRX X 0 0 (some (.int z)) σ → zPJ X 0 0 4 [(0, .ref v0), (1, .int v1), (2, .int v2), (3, .int v3)] [] σ) {σ : zSt} {v0 : Nat} {v1 : Int32} {v2 : Int32} {v3 : Int32} {z : Int32} (h : f_N_readingsOf_4 k4 σ v0 v1 v2 v3 = some z) (hr : zRX X 0 0 (some (.int z)) σ) : zPJ X 0 0 4 [(0, .ref v0), (1, .int v1), (2, .int v2), (3, .int v3)] [] σ := by
  unfold f_N_readingsOf_4 at h
  refine zj_iload_n o (zdd k_N_readingsOf 4 rfl) rfl 3 rfl ?_
  refine zj_bipush o (zdd k_N_readingsOf 5 rfl) zkb_10 ?_
  refine zj_icmp_ge (tgt := 30) o (zdd k_N_readingsOf 6 rfl) (by decide) (fun hc => ?_) (fun hc => ?_)
  · rw [if_pos hc] at h
    refine zj_iload_n o (zdd k_N_readingsOf 20 rfl) rfl 2 rfl ?_
    cases h
    exact zr_i o hr (zdd k_N_readingsOf 21 rfl)
  · rw [if_neg hc] at h
    refine zj_iload_n o (zdd k_N_readingsOf 7 rfl) rfl 2 rfl ?_
    refine zj_aload_n o (zdd k_N_readingsOf 8 rfl) rfl 0 rfl ?_
    obtain ⟨a1, e_a1, h⟩ := zbd h
    refine zj_gP o (zdd k_N_readingsOf 9 rfl) fl_N_18 rfl e_a1 ?_
    refine zj_iload_n o (zdd k_N_readingsOf 10 rfl) rfl 1 rfl ?_
    refine zj_bipush o (zdd k_N_readingsOf 11 rfl) zkb_10 ?_
    refine zj_imul o (zdd k_N_readingsOf 12 rfl) ?_
    refine zj_iload_n o (zdd k_N_readingsOf 13 rfl) rfl 3 rfl ?_
    refine zj_iadd o (zdd k_N_readingsOf 14 rfl) ?_
    obtain ⟨x2, e_x2, h⟩ := zbd h
    refine zj_iald o (zdd k_N_readingsOf 15 rfl) e_x2 ?_
    refine zj_iadd o (zdd k_N_readingsOf 16 rfl) ?_
    refine zj_istore_n (loc' := [(2, .int (v2 + x2)), (0, .ref v0), (1, .int v1), (3, .int v3)]) o (zdd k_N_readingsOf 17 rfl) rfl (by decide) rfl ?_
    refine zj_iinc (v := v3 + 1) (loc' := [(3, .int (v3 + 1)), (2, .int (v2 + x2)), (0, .ref v0), (1, .int v1)]) o (zdd k_N_readingsOf 18 rfl) 3 rfl (by rw [zki_1]) (by decide) rfl ?_
    refine zj_goto (tgt := 4) o (zdd k_N_readingsOf 19 rfl) (by decide) ?_
    exact zj_sub [2, 3, 1, 0] rfl (hk4 h hr)
def f_N_readingsOf_4L : Nat → zSt → Nat → Int32 → Int32 → Int32 → Option (Int32)
  | 0 => fun _ _ _ _ _ => none
  | n + 1 => f_N_readingsOf_4  (f_N_readingsOf_4L  n)
theorem r_N_readingsOf_4L {X : zCX} (o : zOK X "WantShelves$Now" c_N_readingsOf n_N_readingsOf 1) : ∀ (n : Nat) {σ : zSt} {v0 : Nat} {v1 : Int32} {v2 : Int32} {v3 : Int32} {z : Int32}, f_N_readingsOf_4L n σ v0 v1 v2 v3 = some z → zRX X 0 0 (some (.int z)) σ → zPJ X 0 0 4 [(0, .ref v0), (1, .int v1), (2, .int v2), (3, .int v3)] [] σ
  | 0 => fun h _ => by cases h
  | n + 1 => fun h hr => r_N_readingsOf_4 o (r_N_readingsOf_4L o  n) h hr
def f_N_readingsOf (σ : zSt) (t : Nat) (p0 : Int32) : Option (Int32) :=
zg σ 4 t (
f_N_readingsOf_4L zfu σ t p0 0 0)
set_option maxRecDepth 100000 in
set_option maxHeartbeats 4000000 in
theorem m_N_readingsOf {l : Launch} {b : Nat} {ex : Nat → Value} {D : va_G} {ca : Nat → ClassId} {σ : zSt} {t : Nat} {p0 : Int32} {z : Int32} (h : f_N_readingsOf σ t p0 = some z) : zMT l b ex D ca 1 y_N_readingsOf c_N_readingsOf n_N_readingsOf r_ret_N_readingsOf [.ref t, .int p0] σ (some (.int z)) σ 0 0 := by
  obtain ⟨_, hg0⟩ := zg_some h
  have h := hg0
  refine zmt_of (by decide) (Nat.le_of_ble_eq_true rfl) ⟨.int, rfl, rfl⟩ (fun X o hin hrm _ _ _ _ _ hr => ?_)
  have hr := hr 0 0 (by decide) (by decide)
  have o : zOK X "WantShelves$Now" c_N_readingsOf n_N_readingsOf 1 := o
  change zPJ X 0 0 0 [(0, .ref t), (1, .int p0)] [] σ
  refine zj_iconst o (zdd k_N_readingsOf 0 rfl) zki_0 ?_
  refine zj_istore_n (loc' := [(2, .int 0), (0, .ref t), (1, .int p0)]) o (zdd k_N_readingsOf 1 rfl) rfl (by decide) rfl ?_
  refine zj_iconst o (zdd k_N_readingsOf 2 rfl) zki_0 ?_
  refine zj_istore_n (loc' := [(3, .int 0), (2, .int 0), (0, .ref t), (1, .int p0)]) o (zdd k_N_readingsOf 3 rfl) rfl (by decide) rfl ?_
  exact zj_sub [2, 3, 1, 0] rfl (r_N_readingsOf_4L o  zfu h hr)
def f_N_readings_4 (k4 : zSt → Nat → Int32 → Int32 → Option (Int32)) (σ : zSt) (v0 : Nat) (v1 : Int32) (v2 : Int32) : Option (Int32) :=
if 6 ≤ v2 then (
some v1) else
(f_N_readingsOf σ v0 v2).bind fun x1 =>
k4 σ v0 (v1 + x1) (v2 + 1)
set_option maxRecDepth 100000 in
set_option maxHeartbeats 4000000 in
theorem r_N_readings_4 {X : zCX} (o : zOK X "WantShelves$Now" c_N_readings n_N_readings 2) {k4 : zSt → Nat → Int32 → Int32 → Option (Int32)} (hk4 : ∀ {σ : zSt} {v0 : Nat} {v1 : Int32} {v2 : Int32} {z : Int32}, k4 σ v0 v1 v2 = some z → zRX X 0 0 (some (.int z)) σ → zPJ X 0 0 4 [(0, .ref v0), (1, .int v1), (2, .int v2)] [] σ) {σ : zSt} {v0 : Nat} {v1 : Int32} {v2 : Int32} {z : Int32} (h : f_N_readings_4 k4 σ v0 v1 v2 = some z) (hr : zRX X 0 0 (some (.int z)) σ) : zPJ X 0 0 4 [(0, .ref v0), (1, .int v1), (2, .int v2)] [] σ := by
  unfold f_N_readings_4 at h
  refine zj_iload_n o (zdd k_N_readings 4 rfl) rfl 2 rfl ?_
  refine zj_bipush o (zdd k_N_readings 5 rfl) zkb_6 ?_
  refine zj_icmp_ge (tgt := 24) o (zdd k_N_readings 6 rfl) (by decide) (fun hc => ?_) (fun hc => ?_)
  · rw [if_pos hc] at h
    refine zj_iload_n o (zdd k_N_readings 15 rfl) rfl 1 rfl ?_
    cases h
    exact zr_i o hr (zdd k_N_readings 16 rfl)
  · rw [if_neg hc] at h
    refine zj_iload_n o (zdd k_N_readings 7 rfl) rfl 1 rfl ?_
    refine zj_aload_n o (zdd k_N_readings 8 rfl) rfl 0 rfl ?_
    refine zj_iload_n o (zdd k_N_readings 9 rfl) rfl 2 rfl ?_
    obtain ⟨x1, e_x1, h⟩ := zbd h
    refine zc_V o (zdd k_N_readings 10 rfl) ml_N_73 mv_N_readingsOf ⟨rfl, by decide⟩ (zg_some e_x1).1 (by decide) [.int v2] [.int v1] rfl (Nat.le_of_ble_eq_true rfl) rfl (m_N_readingsOf e_x1) ?_
    change zPJ X 0 0 _ _ [.int x1, .int v1] _
    refine zj_iadd o (zdd k_N_readings 11 rfl) ?_
    refine zj_istore_n (loc' := [(1, .int (v1 + x1)), (0, .ref v0), (2, .int v2)]) o (zdd k_N_readings 12 rfl) rfl (by decide) rfl ?_
    refine zj_iinc (v := v2 + 1) (loc' := [(2, .int (v2 + 1)), (1, .int (v1 + x1)), (0, .ref v0)]) o (zdd k_N_readings 13 rfl) 2 rfl (by rw [zki_1]) (by decide) rfl ?_
    refine zj_goto (tgt := 4) o (zdd k_N_readings 14 rfl) (by decide) ?_
    exact zj_sub [2, 1, 0] rfl (hk4 h hr)
def f_N_readings_4L : Nat → zSt → Nat → Int32 → Int32 → Option (Int32)
  | 0 => fun _ _ _ _ => none
  | n + 1 => f_N_readings_4  (f_N_readings_4L  n)
theorem r_N_readings_4L {X : zCX} (o : zOK X "WantShelves$Now" c_N_readings n_N_readings 2) : ∀ (n : Nat) {σ : zSt} {v0 : Nat} {v1 : Int32} {v2 : Int32} {z : Int32}, f_N_readings_4L n σ v0 v1 v2 = some z → zRX X 0 0 (some (.int z)) σ → zPJ X 0 0 4 [(0, .ref v0), (1, .int v1), (2, .int v2)] [] σ
  | 0 => fun h _ => by cases h
  | n + 1 => fun h hr => r_N_readings_4 o (r_N_readings_4L o  n) h hr
def f_N_readings (σ : zSt) (t : Nat) : Option (Int32) :=
zg σ 4 t (
f_N_readings_4L zfu σ t 0 0)
set_option maxRecDepth 100000 in
set_option maxHeartbeats 4000000 in
theorem m_N_readings {l : Launch} {b : Nat} {ex : Nat → Value} {D : va_G} {ca : Nat → ClassId} {σ : zSt} {t : Nat} {z : Int32} (h : f_N_readings σ t = some z) : zMT l b ex D ca 2 y_N_readings c_N_readings n_N_readings r_ret_N_readings [.ref t] σ (some (.int z)) σ 0 0 := by
  obtain ⟨_, hg0⟩ := zg_some h
  have h := hg0
  refine zmt_of (by decide) (Nat.le_of_ble_eq_true rfl) ⟨.int, rfl, rfl⟩ (fun X o hin hrm _ _ _ _ _ hr => ?_)
  have hr := hr 0 0 (by decide) (by decide)
  have o : zOK X "WantShelves$Now" c_N_readings n_N_readings 2 := o
  change zPJ X 0 0 0 [(0, .ref t)] [] σ
  refine zj_iconst o (zdd k_N_readings 0 rfl) zki_0 ?_
  refine zj_istore_n (loc' := [(1, .int 0), (0, .ref t)]) o (zdd k_N_readings 1 rfl) rfl (by decide) rfl ?_
  refine zj_iconst o (zdd k_N_readings 2 rfl) zki_0 ?_
  refine zj_istore_n (loc' := [(2, .int 0), (1, .int 0), (0, .ref t)]) o (zdd k_N_readings 3 rfl) rfl (by decide) rfl ?_
  exact zj_sub [2, 1, 0] rfl (r_N_readings_4L o  zfu h hr)
